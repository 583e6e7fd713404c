/-! the constructors -/
theorem HPo.one {D : va_G} {q : Nat} {e : va_E} {H : Heap} (h : va_at D vwCl (q, e) H) : HPo D q (upO noO 0 e) H := by
  intro k e' hk
  unfold upO at hk
  by_cases c : k = 0
  · rw [if_pos c] at hk
    cases hk
    rw [c]
    exact h
  · rw [if_neg c] at hk
    cases hk

def g_X6_init_5 (ct : Nat → ClassId) (q : Nat) : Nat → Option va_E := upO (upO (upO (upO (upO (upO noO 0 (.inr (6, [.null, .null, .int 0]))) 0 (.inr (6, [.null, .null, .int (iI 0)]))) 1 (.inl (ct 0, (5, .inl (fun _ => 0))))) 0 (.inr (6, [.ref (q + 1), .null, .int (iI 0)]))) 2 (.inl (ct 0, (5, .inl (fun _ => 0))))) 0 (.inr (6, [.ref (q + 1), .ref (q + 2), .int (iI 0)]))
set_option maxHeartbeats 4000000 in
set_option maxRecDepth 100000 in
theorem mk_X6_init_5 (l : Launch) (D : va_G) (ct : Nat → ClassId) (q : Nat) : Met l yX6_init wsX6_init ({ frames := 1, cells := 2, slots := 10, locals := 23 }) (PcI D ct q (.inr (6, [.null, .null, .int 0])) [.ref q, .int (iI 5)]) (QcI D ct q 3 (g_X6_init_5 ct q)) 2 10 (RC q (q + 1)) := by
  refine Met.ofW (cc := cX6_init) (maxL := 2) (ret := none) (by decide) rfl ?_
  intro p e s m args below meth c s₁ B hml hvv
  obtain ⟨rfl, hs, hP0, hK, hW9⟩ := hvv
  have hx := B.exec
  have hb := B.bytes
  have hr := B.returns
  have hts := atoms_spec (ws := wsX6_init) B.pre
  have hown : s.vm.findClass RX6 = some m.cls := findClass_of_methodNamed B.named
  have hlocks := B.notSynchronized
  have hin2 : meth.name = "<init>" := (name_of_methodNamed B.named B.method).1
  have hS : va_S (RC q (q + 1)) s.heap s.heap [] := va_S.rf
  have hF := HPo.one hP0
  have in6 : ∀ w ∈ wsX60, w ∈ wsX6_init := by decide +kernel
  have ml_15 : (Cond.methodLink RX6 15 Lib.Math.max.name).before _ s = true ∧ (Cond.static Lib.Math.max.name).before _ s = true ∧ (Cond.initialized "java/lang/Math").before _ s = true ∧ (Cond.code Lib.Math.max.name Lib.Math.max.code 2 (some .int)).before _ s = true := ⟨hts _ (by decide +kernel), hts _ (by decide +kernel), hts _ (by decide +kernel), hts _ (by decide +kernel)⟩
  have hl := lv_entry ([.ref q, .int (iI 5)]) (n := 2) (Nat.le_of_ble_eq_true rfl)
  rw [lg_entry_eq]
  generalize (lg_sl ([.ref q, .int (iI 5)]) ++ List.replicate (2 - (lg_sl ([.ref q, .int (iI 5)])).length) Slot.unset).toArray = ls at hl ⊢
  have hl : lv_has ls 2 [(0, .ref q), (1, .int (iI 5))] := hl
  refine lv_aload_n hx hb dX6_init_0 rfl (lv_at hl 0 rfl) ?_
  refine W.objInit hx hb hown (hts (.methodLink RX6 3 objectInit) (by decide +kernel)) (hts (.instanceMethod objectInit) (by decide +kernel)) (hts (.code objectInit ⟨#[0xb1]⟩ 1 none) (List.mem_cons_of_mem _ (List.mem_of_getElem? (i := 2) rfl))) rfl (by rw [hml]; exact hl.1) rfl dX6_init_1 (Nat.le_of_ble_eq_true rfl) (Nat.le_of_ble_eq_true rfl) ?_
  refine W.eq (g2 := F0 m 4 ls []) rfl ?_
  refine lv_aload_n hx hb dX6_init_4 rfl (lv_at hl 0 rfl) ?_
  refine r_iconst (n := 0) hx hb dX6_init_5 ?_
  refine k_put (k := 0) (N' := 1) (ci := 6) (fs := [.null, .null, .int 0]) (v := .int (iI 0)) (ty := .int) (C := RX6) (T := TX6) (N := 3) hx hb hts in6 tyX6 tyX6_ok nmX6 hown hK hF rfl rfl 2 (by decide) (hts (.fieldLink RX6 9 "BeamLines$Row" "size" "I") (by decide +kernel)) (fun _ h9 => h9) (Or.inl rfl) (by decide +kernel) rfl rfl (Nat.le_of_ble_eq_true rfl) hs hS (Or.inl rfl) dX6_init_6 (fun H locs hF hs hS => ?_)
  refine lv_aload_n hx hb dX6_init_9 rfl (lv_at hl 0 rfl) ?_
  refine lv_iload_n hx hb dX6_init_10 rfl (lv_at hl 1 rfl) ?_
  refine r_iconst (n := 0) hx hb dX6_init_11 ?_
  refine r_mmax hx hb (hml.trans hl.1.symm) hown ml_15 dX6_init_12 (inI_mk rfl) (inI_mk rfl) ⟨Nat.le_of_ble_eq_true rfl, Nat.le_of_ble_eq_true rfl, Nat.le_of_ble_eq_true rfl, Nat.le_of_ble_eq_true rfl⟩ (Nat.le_of_ble_eq_true rfl) ?_
  refine k_newa (atype := .int) (n := iI (imax 5 0)) (k := 1) (N' := 5) (a0 := (5, .inl (fun _ => 0))) (cA := ct 0) hx hb (hts (.arrayClass .int) (by decide +kernel)) hF hs hS (hK.2 0 _ rfl).2 (vp_cell_i _ _ _) (by decide) rfl (show 5 * 4 ≤ 536870912 from Nat.le_of_ble_eq_true rfl) (Nat.le_of_ble_eq_true rfl) (Nat.le_of_ble_eq_true rfl) dX6_init_15 (fun H hF hs hS => ?_)
  refine k_put (k := 0) (N' := 2) (ci := 6) (fs := [.null, .null, .int (iI 0)]) (v := .ref (q + 1)) (ty := (.array .int)) (C := RX6) (T := TX6) (N := 3) hx hb hts in6 tyX6 tyX6_ok nmX6 hown hK hF rfl rfl 0 (by decide) (hts (.fieldLink RX6 21 "BeamLines$Row" "firsts" "[I") (by decide +kernel)) (fun _ h9 => h9) (Or.inr ⟨rfl, hin2, rfl⟩) (by decide +kernel) rfl rfl (Nat.le_of_ble_eq_true rfl) hs hS (Or.inl rfl) dX6_init_17 (fun H locs hF hs hS => ?_)
  refine lv_aload_n hx hb dX6_init_20 rfl (lv_at hl 0 rfl) ?_
  refine lv_iload_n hx hb dX6_init_21 rfl (lv_at hl 1 rfl) ?_
  refine r_iconst (n := 0) hx hb dX6_init_22 ?_
  refine r_mmax hx hb (hml.trans hl.1.symm) hown ml_15 dX6_init_23 (inI_mk rfl) (inI_mk rfl) ⟨Nat.le_of_ble_eq_true rfl, Nat.le_of_ble_eq_true rfl, Nat.le_of_ble_eq_true rfl, Nat.le_of_ble_eq_true rfl⟩ (Nat.le_of_ble_eq_true rfl) ?_
  refine k_newa (atype := .int) (n := iI (imax 5 0)) (k := 2) (N' := 5) (a0 := (5, .inl (fun _ => 0))) (cA := ct 0) hx hb (hts (.arrayClass .int) (by decide +kernel)) hF hs hS (hK.2 0 _ rfl).2 (vp_cell_i _ _ _) (by decide) rfl (show 5 * 4 ≤ 536870912 from Nat.le_of_ble_eq_true rfl) (Nat.le_of_ble_eq_true rfl) (Nat.le_of_ble_eq_true rfl) dX6_init_26 (fun H hF hs hS => ?_)
  refine k_put (k := 0) (N' := 3) (ci := 6) (fs := [.ref (q + 1), .null, .int (iI 0)]) (v := .ref (q + 2)) (ty := (.array .int)) (C := RX6) (T := TX6) (N := 3) hx hb hts in6 tyX6 tyX6_ok nmX6 hown hK hF rfl rfl 1 (by decide) (hts (.fieldLink RX6 25 "BeamLines$Row" "seconds" "[I") (by decide +kernel)) (fun _ h9 => h9) (Or.inr ⟨rfl, hin2, rfl⟩) (by decide +kernel) rfl rfl (Nat.le_of_ble_eq_true rfl) hs hS (Or.inl rfl) dX6_init_28 (fun H locs hF hs hS => ?_)
  exact k_ret hx hb hr hlocks hK hF hs hS dX6_init_31
def g_X6_init_3 (ct : Nat → ClassId) (q : Nat) : Nat → Option va_E := upO (upO (upO (upO (upO (upO noO 0 (.inr (6, [.null, .null, .int 0]))) 0 (.inr (6, [.null, .null, .int (iI 0)]))) 1 (.inl (ct 0, (3, .inl (fun _ => 0))))) 0 (.inr (6, [.ref (q + 1), .null, .int (iI 0)]))) 2 (.inl (ct 0, (3, .inl (fun _ => 0))))) 0 (.inr (6, [.ref (q + 1), .ref (q + 2), .int (iI 0)]))
set_option maxHeartbeats 4000000 in
set_option maxRecDepth 100000 in
theorem mk_X6_init_3 (l : Launch) (D : va_G) (ct : Nat → ClassId) (q : Nat) : Met l yX6_init wsX6_init ({ frames := 1, cells := 2, slots := 6, locals := 23 }) (PcI D ct q (.inr (6, [.null, .null, .int 0])) [.ref q, .int (iI 3)]) (QcI D ct q 3 (g_X6_init_3 ct q)) 2 6 (RC q (q + 1)) := by
  refine Met.ofW (cc := cX6_init) (maxL := 2) (ret := none) (by decide) rfl ?_
  intro p e s m args below meth c s₁ B hml hvv
  obtain ⟨rfl, hs, hP0, hK, hW9⟩ := hvv
  have hx := B.exec
  have hb := B.bytes
  have hr := B.returns
  have hts := atoms_spec (ws := wsX6_init) B.pre
  have hown : s.vm.findClass RX6 = some m.cls := findClass_of_methodNamed B.named
  have hlocks := B.notSynchronized
  have hin2 : meth.name = "<init>" := (name_of_methodNamed B.named B.method).1
  have hS : va_S (RC q (q + 1)) s.heap s.heap [] := va_S.rf
  have hF := HPo.one hP0
  have in6 : ∀ w ∈ wsX60, w ∈ wsX6_init := by decide +kernel
  have ml_15 : (Cond.methodLink RX6 15 Lib.Math.max.name).before _ s = true ∧ (Cond.static Lib.Math.max.name).before _ s = true ∧ (Cond.initialized "java/lang/Math").before _ s = true ∧ (Cond.code Lib.Math.max.name Lib.Math.max.code 2 (some .int)).before _ s = true := ⟨hts _ (by decide +kernel), hts _ (by decide +kernel), hts _ (by decide +kernel), hts _ (by decide +kernel)⟩
  have hl := lv_entry ([.ref q, .int (iI 3)]) (n := 2) (Nat.le_of_ble_eq_true rfl)
  rw [lg_entry_eq]
  generalize (lg_sl ([.ref q, .int (iI 3)]) ++ List.replicate (2 - (lg_sl ([.ref q, .int (iI 3)])).length) Slot.unset).toArray = ls at hl ⊢
  have hl : lv_has ls 2 [(0, .ref q), (1, .int (iI 3))] := hl
  refine lv_aload_n hx hb dX6_init_0 rfl (lv_at hl 0 rfl) ?_
  refine W.objInit hx hb hown (hts (.methodLink RX6 3 objectInit) (by decide +kernel)) (hts (.instanceMethod objectInit) (by decide +kernel)) (hts (.code objectInit ⟨#[0xb1]⟩ 1 none) (List.mem_cons_of_mem _ (List.mem_of_getElem? (i := 2) rfl))) rfl (by rw [hml]; exact hl.1) rfl dX6_init_1 (Nat.le_of_ble_eq_true rfl) (Nat.le_of_ble_eq_true rfl) ?_
  refine W.eq (g2 := F0 m 4 ls []) rfl ?_
  refine lv_aload_n hx hb dX6_init_4 rfl (lv_at hl 0 rfl) ?_
  refine r_iconst (n := 0) hx hb dX6_init_5 ?_
  refine k_put (k := 0) (N' := 1) (ci := 6) (fs := [.null, .null, .int 0]) (v := .int (iI 0)) (ty := .int) (C := RX6) (T := TX6) (N := 3) hx hb hts in6 tyX6 tyX6_ok nmX6 hown hK hF rfl rfl 2 (by decide) (hts (.fieldLink RX6 9 "BeamLines$Row" "size" "I") (by decide +kernel)) (fun _ h9 => h9) (Or.inl rfl) (by decide +kernel) rfl rfl (Nat.le_of_ble_eq_true rfl) hs hS (Or.inl rfl) dX6_init_6 (fun H locs hF hs hS => ?_)
  refine lv_aload_n hx hb dX6_init_9 rfl (lv_at hl 0 rfl) ?_
  refine lv_iload_n hx hb dX6_init_10 rfl (lv_at hl 1 rfl) ?_
  refine r_iconst (n := 0) hx hb dX6_init_11 ?_
  refine r_mmax hx hb (hml.trans hl.1.symm) hown ml_15 dX6_init_12 (inI_mk rfl) (inI_mk rfl) ⟨Nat.le_of_ble_eq_true rfl, Nat.le_of_ble_eq_true rfl, Nat.le_of_ble_eq_true rfl, Nat.le_of_ble_eq_true rfl⟩ (Nat.le_of_ble_eq_true rfl) ?_
  refine k_newa (atype := .int) (n := iI (imax 3 0)) (k := 1) (N' := 3) (a0 := (3, .inl (fun _ => 0))) (cA := ct 0) hx hb (hts (.arrayClass .int) (by decide +kernel)) hF hs hS (hK.2 0 _ rfl).2 (vp_cell_i _ _ _) (by decide) rfl (show 3 * 4 ≤ 536870912 from Nat.le_of_ble_eq_true rfl) (Nat.le_of_ble_eq_true rfl) (Nat.le_of_ble_eq_true rfl) dX6_init_15 (fun H hF hs hS => ?_)
  refine k_put (k := 0) (N' := 2) (ci := 6) (fs := [.null, .null, .int (iI 0)]) (v := .ref (q + 1)) (ty := (.array .int)) (C := RX6) (T := TX6) (N := 3) hx hb hts in6 tyX6 tyX6_ok nmX6 hown hK hF rfl rfl 0 (by decide) (hts (.fieldLink RX6 21 "BeamLines$Row" "firsts" "[I") (by decide +kernel)) (fun _ h9 => h9) (Or.inr ⟨rfl, hin2, rfl⟩) (by decide +kernel) rfl rfl (Nat.le_of_ble_eq_true rfl) hs hS (Or.inl rfl) dX6_init_17 (fun H locs hF hs hS => ?_)
  refine lv_aload_n hx hb dX6_init_20 rfl (lv_at hl 0 rfl) ?_
  refine lv_iload_n hx hb dX6_init_21 rfl (lv_at hl 1 rfl) ?_
  refine r_iconst (n := 0) hx hb dX6_init_22 ?_
  refine r_mmax hx hb (hml.trans hl.1.symm) hown ml_15 dX6_init_23 (inI_mk rfl) (inI_mk rfl) ⟨Nat.le_of_ble_eq_true rfl, Nat.le_of_ble_eq_true rfl, Nat.le_of_ble_eq_true rfl, Nat.le_of_ble_eq_true rfl⟩ (Nat.le_of_ble_eq_true rfl) ?_
  refine k_newa (atype := .int) (n := iI (imax 3 0)) (k := 2) (N' := 3) (a0 := (3, .inl (fun _ => 0))) (cA := ct 0) hx hb (hts (.arrayClass .int) (by decide +kernel)) hF hs hS (hK.2 0 _ rfl).2 (vp_cell_i _ _ _) (by decide) rfl (show 3 * 4 ≤ 536870912 from Nat.le_of_ble_eq_true rfl) (Nat.le_of_ble_eq_true rfl) (Nat.le_of_ble_eq_true rfl) dX6_init_26 (fun H hF hs hS => ?_)
  refine k_put (k := 0) (N' := 3) (ci := 6) (fs := [.ref (q + 1), .null, .int (iI 0)]) (v := .ref (q + 2)) (ty := (.array .int)) (C := RX6) (T := TX6) (N := 3) hx hb hts in6 tyX6 tyX6_ok nmX6 hown hK hF rfl rfl 1 (by decide) (hts (.fieldLink RX6 25 "BeamLines$Row" "seconds" "[I") (by decide +kernel)) (fun _ h9 => h9) (Or.inr ⟨rfl, hin2, rfl⟩) (by decide +kernel) rfl rfl (Nat.le_of_ble_eq_true rfl) hs hS (Or.inl rfl) dX6_init_28 (fun H locs hF hs hS => ?_)
  exact k_ret hx hb hr hlocks hK hF hs hS dX6_init_31
def g_X6_init_8 (ct : Nat → ClassId) (q : Nat) : Nat → Option va_E := upO (upO (upO (upO (upO (upO noO 0 (.inr (6, [.null, .null, .int 0]))) 0 (.inr (6, [.null, .null, .int (iI 0)]))) 1 (.inl (ct 0, (8, .inl (fun _ => 0))))) 0 (.inr (6, [.ref (q + 1), .null, .int (iI 0)]))) 2 (.inl (ct 0, (8, .inl (fun _ => 0))))) 0 (.inr (6, [.ref (q + 1), .ref (q + 2), .int (iI 0)]))
set_option maxHeartbeats 4000000 in
set_option maxRecDepth 100000 in
theorem mk_X6_init_8 (l : Launch) (D : va_G) (ct : Nat → ClassId) (q : Nat) : Met l yX6_init wsX6_init ({ frames := 1, cells := 2, slots := 16, locals := 23 }) (PcI D ct q (.inr (6, [.null, .null, .int 0])) [.ref q, .int (iI 8)]) (QcI D ct q 3 (g_X6_init_8 ct q)) 2 16 (RC q (q + 1)) := by
  refine Met.ofW (cc := cX6_init) (maxL := 2) (ret := none) (by decide) rfl ?_
  intro p e s m args below meth c s₁ B hml hvv
  obtain ⟨rfl, hs, hP0, hK, hW9⟩ := hvv
  have hx := B.exec
  have hb := B.bytes
  have hr := B.returns
  have hts := atoms_spec (ws := wsX6_init) B.pre
  have hown : s.vm.findClass RX6 = some m.cls := findClass_of_methodNamed B.named
  have hlocks := B.notSynchronized
  have hin2 : meth.name = "<init>" := (name_of_methodNamed B.named B.method).1
  have hS : va_S (RC q (q + 1)) s.heap s.heap [] := va_S.rf
  have hF := HPo.one hP0
  have in6 : ∀ w ∈ wsX60, w ∈ wsX6_init := by decide +kernel
  have ml_15 : (Cond.methodLink RX6 15 Lib.Math.max.name).before _ s = true ∧ (Cond.static Lib.Math.max.name).before _ s = true ∧ (Cond.initialized "java/lang/Math").before _ s = true ∧ (Cond.code Lib.Math.max.name Lib.Math.max.code 2 (some .int)).before _ s = true := ⟨hts _ (by decide +kernel), hts _ (by decide +kernel), hts _ (by decide +kernel), hts _ (by decide +kernel)⟩
  have hl := lv_entry ([.ref q, .int (iI 8)]) (n := 2) (Nat.le_of_ble_eq_true rfl)
  rw [lg_entry_eq]
  generalize (lg_sl ([.ref q, .int (iI 8)]) ++ List.replicate (2 - (lg_sl ([.ref q, .int (iI 8)])).length) Slot.unset).toArray = ls at hl ⊢
  have hl : lv_has ls 2 [(0, .ref q), (1, .int (iI 8))] := hl
  refine lv_aload_n hx hb dX6_init_0 rfl (lv_at hl 0 rfl) ?_
  refine W.objInit hx hb hown (hts (.methodLink RX6 3 objectInit) (by decide +kernel)) (hts (.instanceMethod objectInit) (by decide +kernel)) (hts (.code objectInit ⟨#[0xb1]⟩ 1 none) (List.mem_cons_of_mem _ (List.mem_of_getElem? (i := 2) rfl))) rfl (by rw [hml]; exact hl.1) rfl dX6_init_1 (Nat.le_of_ble_eq_true rfl) (Nat.le_of_ble_eq_true rfl) ?_
  refine W.eq (g2 := F0 m 4 ls []) rfl ?_
  refine lv_aload_n hx hb dX6_init_4 rfl (lv_at hl 0 rfl) ?_
  refine r_iconst (n := 0) hx hb dX6_init_5 ?_
  refine k_put (k := 0) (N' := 1) (ci := 6) (fs := [.null, .null, .int 0]) (v := .int (iI 0)) (ty := .int) (C := RX6) (T := TX6) (N := 3) hx hb hts in6 tyX6 tyX6_ok nmX6 hown hK hF rfl rfl 2 (by decide) (hts (.fieldLink RX6 9 "BeamLines$Row" "size" "I") (by decide +kernel)) (fun _ h9 => h9) (Or.inl rfl) (by decide +kernel) rfl rfl (Nat.le_of_ble_eq_true rfl) hs hS (Or.inl rfl) dX6_init_6 (fun H locs hF hs hS => ?_)
  refine lv_aload_n hx hb dX6_init_9 rfl (lv_at hl 0 rfl) ?_
  refine lv_iload_n hx hb dX6_init_10 rfl (lv_at hl 1 rfl) ?_
  refine r_iconst (n := 0) hx hb dX6_init_11 ?_
  refine r_mmax hx hb (hml.trans hl.1.symm) hown ml_15 dX6_init_12 (inI_mk rfl) (inI_mk rfl) ⟨Nat.le_of_ble_eq_true rfl, Nat.le_of_ble_eq_true rfl, Nat.le_of_ble_eq_true rfl, Nat.le_of_ble_eq_true rfl⟩ (Nat.le_of_ble_eq_true rfl) ?_
  refine k_newa (atype := .int) (n := iI (imax 8 0)) (k := 1) (N' := 8) (a0 := (8, .inl (fun _ => 0))) (cA := ct 0) hx hb (hts (.arrayClass .int) (by decide +kernel)) hF hs hS (hK.2 0 _ rfl).2 (vp_cell_i _ _ _) (by decide) rfl (show 8 * 4 ≤ 536870912 from Nat.le_of_ble_eq_true rfl) (Nat.le_of_ble_eq_true rfl) (Nat.le_of_ble_eq_true rfl) dX6_init_15 (fun H hF hs hS => ?_)
  refine k_put (k := 0) (N' := 2) (ci := 6) (fs := [.null, .null, .int (iI 0)]) (v := .ref (q + 1)) (ty := (.array .int)) (C := RX6) (T := TX6) (N := 3) hx hb hts in6 tyX6 tyX6_ok nmX6 hown hK hF rfl rfl 0 (by decide) (hts (.fieldLink RX6 21 "BeamLines$Row" "firsts" "[I") (by decide +kernel)) (fun _ h9 => h9) (Or.inr ⟨rfl, hin2, rfl⟩) (by decide +kernel) rfl rfl (Nat.le_of_ble_eq_true rfl) hs hS (Or.inl rfl) dX6_init_17 (fun H locs hF hs hS => ?_)
  refine lv_aload_n hx hb dX6_init_20 rfl (lv_at hl 0 rfl) ?_
  refine lv_iload_n hx hb dX6_init_21 rfl (lv_at hl 1 rfl) ?_
  refine r_iconst (n := 0) hx hb dX6_init_22 ?_
  refine r_mmax hx hb (hml.trans hl.1.symm) hown ml_15 dX6_init_23 (inI_mk rfl) (inI_mk rfl) ⟨Nat.le_of_ble_eq_true rfl, Nat.le_of_ble_eq_true rfl, Nat.le_of_ble_eq_true rfl, Nat.le_of_ble_eq_true rfl⟩ (Nat.le_of_ble_eq_true rfl) ?_
  refine k_newa (atype := .int) (n := iI (imax 8 0)) (k := 2) (N' := 8) (a0 := (8, .inl (fun _ => 0))) (cA := ct 0) hx hb (hts (.arrayClass .int) (by decide +kernel)) hF hs hS (hK.2 0 _ rfl).2 (vp_cell_i _ _ _) (by decide) rfl (show 8 * 4 ≤ 536870912 from Nat.le_of_ble_eq_true rfl) (Nat.le_of_ble_eq_true rfl) (Nat.le_of_ble_eq_true rfl) dX6_init_26 (fun H hF hs hS => ?_)
  refine k_put (k := 0) (N' := 3) (ci := 6) (fs := [.ref (q + 1), .null, .int (iI 0)]) (v := .ref (q + 2)) (ty := (.array .int)) (C := RX6) (T := TX6) (N := 3) hx hb hts in6 tyX6 tyX6_ok nmX6 hown hK hF rfl rfl 1 (by decide) (hts (.fieldLink RX6 25 "BeamLines$Row" "seconds" "[I") (by decide +kernel)) (fun _ h9 => h9) (Or.inr ⟨rfl, hin2, rfl⟩) (by decide +kernel) rfl rfl (Nat.le_of_ble_eq_true rfl) hs hS (Or.inl rfl) dX6_init_28 (fun H locs hF hs hS => ?_)
  exact k_ret hx hb hr hlocks hK hF hs hS dX6_init_31
def g_X6_init_6 (ct : Nat → ClassId) (q : Nat) : Nat → Option va_E := upO (upO (upO (upO (upO (upO noO 0 (.inr (6, [.null, .null, .int 0]))) 0 (.inr (6, [.null, .null, .int (iI 0)]))) 1 (.inl (ct 0, (6, .inl (fun _ => 0))))) 0 (.inr (6, [.ref (q + 1), .null, .int (iI 0)]))) 2 (.inl (ct 0, (6, .inl (fun _ => 0))))) 0 (.inr (6, [.ref (q + 1), .ref (q + 2), .int (iI 0)]))
set_option maxHeartbeats 4000000 in
set_option maxRecDepth 100000 in
theorem mk_X6_init_6 (l : Launch) (D : va_G) (ct : Nat → ClassId) (q : Nat) : Met l yX6_init wsX6_init ({ frames := 1, cells := 2, slots := 12, locals := 23 }) (PcI D ct q (.inr (6, [.null, .null, .int 0])) [.ref q, .int (iI 6)]) (QcI D ct q 3 (g_X6_init_6 ct q)) 2 12 (RC q (q + 1)) := by
  refine Met.ofW (cc := cX6_init) (maxL := 2) (ret := none) (by decide) rfl ?_
  intro p e s m args below meth c s₁ B hml hvv
  obtain ⟨rfl, hs, hP0, hK, hW9⟩ := hvv
  have hx := B.exec
  have hb := B.bytes
  have hr := B.returns
  have hts := atoms_spec (ws := wsX6_init) B.pre
  have hown : s.vm.findClass RX6 = some m.cls := findClass_of_methodNamed B.named
  have hlocks := B.notSynchronized
  have hin2 : meth.name = "<init>" := (name_of_methodNamed B.named B.method).1
  have hS : va_S (RC q (q + 1)) s.heap s.heap [] := va_S.rf
  have hF := HPo.one hP0
  have in6 : ∀ w ∈ wsX60, w ∈ wsX6_init := by decide +kernel
  have ml_15 : (Cond.methodLink RX6 15 Lib.Math.max.name).before _ s = true ∧ (Cond.static Lib.Math.max.name).before _ s = true ∧ (Cond.initialized "java/lang/Math").before _ s = true ∧ (Cond.code Lib.Math.max.name Lib.Math.max.code 2 (some .int)).before _ s = true := ⟨hts _ (by decide +kernel), hts _ (by decide +kernel), hts _ (by decide +kernel), hts _ (by decide +kernel)⟩
  have hl := lv_entry ([.ref q, .int (iI 6)]) (n := 2) (Nat.le_of_ble_eq_true rfl)
  rw [lg_entry_eq]
  generalize (lg_sl ([.ref q, .int (iI 6)]) ++ List.replicate (2 - (lg_sl ([.ref q, .int (iI 6)])).length) Slot.unset).toArray = ls at hl ⊢
  have hl : lv_has ls 2 [(0, .ref q), (1, .int (iI 6))] := hl
  refine lv_aload_n hx hb dX6_init_0 rfl (lv_at hl 0 rfl) ?_
  refine W.objInit hx hb hown (hts (.methodLink RX6 3 objectInit) (by decide +kernel)) (hts (.instanceMethod objectInit) (by decide +kernel)) (hts (.code objectInit ⟨#[0xb1]⟩ 1 none) (List.mem_cons_of_mem _ (List.mem_of_getElem? (i := 2) rfl))) rfl (by rw [hml]; exact hl.1) rfl dX6_init_1 (Nat.le_of_ble_eq_true rfl) (Nat.le_of_ble_eq_true rfl) ?_
  refine W.eq (g2 := F0 m 4 ls []) rfl ?_
  refine lv_aload_n hx hb dX6_init_4 rfl (lv_at hl 0 rfl) ?_
  refine r_iconst (n := 0) hx hb dX6_init_5 ?_
  refine k_put (k := 0) (N' := 1) (ci := 6) (fs := [.null, .null, .int 0]) (v := .int (iI 0)) (ty := .int) (C := RX6) (T := TX6) (N := 3) hx hb hts in6 tyX6 tyX6_ok nmX6 hown hK hF rfl rfl 2 (by decide) (hts (.fieldLink RX6 9 "BeamLines$Row" "size" "I") (by decide +kernel)) (fun _ h9 => h9) (Or.inl rfl) (by decide +kernel) rfl rfl (Nat.le_of_ble_eq_true rfl) hs hS (Or.inl rfl) dX6_init_6 (fun H locs hF hs hS => ?_)
  refine lv_aload_n hx hb dX6_init_9 rfl (lv_at hl 0 rfl) ?_
  refine lv_iload_n hx hb dX6_init_10 rfl (lv_at hl 1 rfl) ?_
  refine r_iconst (n := 0) hx hb dX6_init_11 ?_
  refine r_mmax hx hb (hml.trans hl.1.symm) hown ml_15 dX6_init_12 (inI_mk rfl) (inI_mk rfl) ⟨Nat.le_of_ble_eq_true rfl, Nat.le_of_ble_eq_true rfl, Nat.le_of_ble_eq_true rfl, Nat.le_of_ble_eq_true rfl⟩ (Nat.le_of_ble_eq_true rfl) ?_
  refine k_newa (atype := .int) (n := iI (imax 6 0)) (k := 1) (N' := 6) (a0 := (6, .inl (fun _ => 0))) (cA := ct 0) hx hb (hts (.arrayClass .int) (by decide +kernel)) hF hs hS (hK.2 0 _ rfl).2 (vp_cell_i _ _ _) (by decide) rfl (show 6 * 4 ≤ 536870912 from Nat.le_of_ble_eq_true rfl) (Nat.le_of_ble_eq_true rfl) (Nat.le_of_ble_eq_true rfl) dX6_init_15 (fun H hF hs hS => ?_)
  refine k_put (k := 0) (N' := 2) (ci := 6) (fs := [.null, .null, .int (iI 0)]) (v := .ref (q + 1)) (ty := (.array .int)) (C := RX6) (T := TX6) (N := 3) hx hb hts in6 tyX6 tyX6_ok nmX6 hown hK hF rfl rfl 0 (by decide) (hts (.fieldLink RX6 21 "BeamLines$Row" "firsts" "[I") (by decide +kernel)) (fun _ h9 => h9) (Or.inr ⟨rfl, hin2, rfl⟩) (by decide +kernel) rfl rfl (Nat.le_of_ble_eq_true rfl) hs hS (Or.inl rfl) dX6_init_17 (fun H locs hF hs hS => ?_)
  refine lv_aload_n hx hb dX6_init_20 rfl (lv_at hl 0 rfl) ?_
  refine lv_iload_n hx hb dX6_init_21 rfl (lv_at hl 1 rfl) ?_
  refine r_iconst (n := 0) hx hb dX6_init_22 ?_
  refine r_mmax hx hb (hml.trans hl.1.symm) hown ml_15 dX6_init_23 (inI_mk rfl) (inI_mk rfl) ⟨Nat.le_of_ble_eq_true rfl, Nat.le_of_ble_eq_true rfl, Nat.le_of_ble_eq_true rfl, Nat.le_of_ble_eq_true rfl⟩ (Nat.le_of_ble_eq_true rfl) ?_
  refine k_newa (atype := .int) (n := iI (imax 6 0)) (k := 2) (N' := 6) (a0 := (6, .inl (fun _ => 0))) (cA := ct 0) hx hb (hts (.arrayClass .int) (by decide +kernel)) hF hs hS (hK.2 0 _ rfl).2 (vp_cell_i _ _ _) (by decide) rfl (show 6 * 4 ≤ 536870912 from Nat.le_of_ble_eq_true rfl) (Nat.le_of_ble_eq_true rfl) (Nat.le_of_ble_eq_true rfl) dX6_init_26 (fun H hF hs hS => ?_)
  refine k_put (k := 0) (N' := 3) (ci := 6) (fs := [.ref (q + 1), .null, .int (iI 0)]) (v := .ref (q + 2)) (ty := (.array .int)) (C := RX6) (T := TX6) (N := 3) hx hb hts in6 tyX6 tyX6_ok nmX6 hown hK hF rfl rfl 1 (by decide) (hts (.fieldLink RX6 25 "BeamLines$Row" "seconds" "[I") (by decide +kernel)) (fun _ h9 => h9) (Or.inr ⟨rfl, hin2, rfl⟩) (by decide +kernel) rfl rfl (Nat.le_of_ble_eq_true rfl) hs hS (Or.inl rfl) dX6_init_28 (fun H locs hF hs hS => ?_)
  exact k_ret hx hb hr hlocks hK hF hs hS dX6_init_31
def g_X0_init (ct : Nat → ClassId) (q : Nat) : Nat → Option va_E := upO (orO (upO (upO (orO (upO (upO (orO (upO (upO (orO (upO (upO (upO (upO noO 0 (.inr (0, [.int 0, .int 0, .null, .null, .null, .null]))) 0 (.inr (0, [.int (iI 2), .int 0, .null, .null, .null, .null]))) 0 (.inr (0, [.int (iI 2), .int (iI 1), .null, .null, .null, .null]))) 1 (.inr (6, [.null, .null, .int 0]))) 1 (g_X6_init_5 ct (q + 1))) 0 (.inr (0, [.int (iI 2), .int (iI 1), .ref (q + 1), .null, .null, .null]))) 4 (.inr (6, [.null, .null, .int 0]))) 4 (g_X6_init_3 ct (q + 4))) 0 (.inr (0, [.int (iI 2), .int (iI 1), .ref (q + 1), .ref (q + 4), .null, .null]))) 7 (.inr (6, [.null, .null, .int 0]))) 7 (g_X6_init_8 ct (q + 7))) 0 (.inr (0, [.int (iI 2), .int (iI 1), .ref (q + 1), .ref (q + 4), .ref (q + 7), .null]))) 10 (.inr (6, [.null, .null, .int 0]))) 10 (g_X6_init_6 ct (q + 10))) 0 (.inr (0, [.int (iI 2), .int (iI 1), .ref (q + 1), .ref (q + 4), .ref (q + 7), .ref (q + 10)]))
set_option maxHeartbeats 4000000 in
set_option maxRecDepth 100000 in
theorem mk_X0_init (l : Launch) (D : va_G) (ct : Nat → ClassId) (q : Nat) : Met l yX0_init wsX0_init ({ frames := 2, cells := 12, slots := 56, locals := 44 }) (PcI D ct q (.inr (0, [.int 0, .int 0, .null, .null, .null, .null])) [.ref q]) (QcI D ct q 13 (g_X0_init ct q)) 12 56 (RC q (q + 1)) := by
  refine Met.ofW (cc := cX0_init) (maxL := 1) (ret := none) (by decide) rfl ?_
  intro p e s m args below meth c s₁ B hml hvv
  obtain ⟨rfl, hs, hP0, hK, hW9⟩ := hvv
  have hx := B.exec
  have hb := B.bytes
  have hr := B.returns
  have hts := atoms_spec (ws := wsX0_init) B.pre
  have hown : s.vm.findClass RX0 = some m.cls := findClass_of_methodNamed B.named
  have hlocks := B.notSynchronized
  have hin2 : meth.name = "<init>" := (name_of_methodNamed B.named B.method).1
  have hS : va_S (RC q (q + 1)) s.heap s.heap [] := va_S.rf
  have hF := HPo.one hP0
  have in0 : ∀ w ∈ wsX00, w ∈ wsX0_init := by decide +kernel
  have in6 : ∀ w ∈ wsX60, w ∈ wsX0_init := by decide +kernel
  have hl := lv_entry ([.ref q]) (n := 1) (Nat.le_of_ble_eq_true rfl)
  rw [lg_entry_eq]
  generalize (lg_sl ([.ref q]) ++ List.replicate (1 - (lg_sl ([.ref q])).length) Slot.unset).toArray = ls at hl ⊢
  have hl : lv_has ls 1 [(0, .ref q)] := hl
  refine lv_aload_n hx hb dX0_init_0 rfl (lv_at hl 0 rfl) ?_
  refine W.objInit hx hb hown (hts (.methodLink RX0 3 objectInit) (by decide +kernel)) (hts (.instanceMethod objectInit) (by decide +kernel)) (hts (.code objectInit ⟨#[0xb1]⟩ 1 none) (List.mem_cons_of_mem _ (List.mem_of_getElem? (i := 2) rfl))) rfl (by rw [hml]; exact hl.1) rfl dX0_init_1 (Nat.le_of_ble_eq_true rfl) (Nat.le_of_ble_eq_true rfl) ?_
  refine W.eq (g2 := F0 m 4 ls []) rfl ?_
  refine lv_aload_n hx hb dX0_init_4 rfl (lv_at hl 0 rfl) ?_
  refine r_iconst (n := 2) hx hb dX0_init_5 ?_
  refine k_put (k := 0) (N' := 1) (ci := 0) (fs := [.int 0, .int 0, .null, .null, .null, .null]) (v := .int (iI 2)) (ty := .int) (C := RX0) (T := TX0) (N := 6) hx hb hts in0 tyX0 tyX0_ok nmX0 hown hK hF rfl rfl 0 (by decide) (hts (.fieldLink RX0 9 "BeamLines$Beam" "length" "I") (by decide +kernel)) (fun _ h9 => h9) (Or.inl rfl) (by decide +kernel) rfl rfl (Nat.le_of_ble_eq_true rfl) hs hS (Or.inl rfl) dX0_init_6 (fun H locs hF hs hS => ?_)
  refine lv_aload_n hx hb dX0_init_9 rfl (lv_at hl 0 rfl) ?_
  refine r_iconst (n := 1) hx hb dX0_init_10 ?_
  refine k_put (k := 0) (N' := 1) (ci := 0) (fs := [.int (iI 2), .int 0, .null, .null, .null, .null]) (v := .int (iI 1)) (ty := .int) (C := RX0) (T := TX0) (N := 6) hx hb hts in0 tyX0 tyX0_ok nmX0 hown hK hF rfl rfl 1 (by decide) (hts (.fieldLink RX0 15 "BeamLines$Beam" "most" "I") (by decide +kernel)) (fun _ h9 => h9) (Or.inl rfl) (by decide +kernel) rfl rfl (Nat.le_of_ble_eq_true rfl) hs hS (Or.inl rfl) dX0_init_11 (fun H locs hF hs hS => ?_)
  refine lv_aload_n hx hb dX0_init_14 rfl (lv_at hl 0 rfl) ?_
  refine k_new (k := 1) (ci := 6) (fs := [.null, .null, .int 0]) (C := RX6) (T := TX6) (N := 3) hx hb hts in6 tyX6 tyX6_ok hown (hts (.classLink RX0 18 RX6) (by decide +kernel)) (hts (.instantiable RX6 3) (by decide +kernel)) (hts (.initialized RX6) (by decide +kernel)) hK hF hs rfl (fun j hj => match j, hj with | 0, _ => rfl | 1, _ => rfl | 2, _ => rfl | j + 3, h9 => absurd h9 (Nat.not_lt.mpr (Nat.le_add_left _ _))) hS (Nat.le_of_ble_eq_true rfl) (Nat.le_of_ble_eq_true rfl) dX0_init_15 (fun H hF hP hs hS => ?_)
  refine lv_dup hx hb dX0_init_18 rfl ?_
  refine r_iconst (n := 5) hx hb dX0_init_19 ?_
  refine k_call (k := 1) (va_runI (As := [.int (iI 5)]) (rest := [.ref (q + 1), .ref q]) ⟨hx, hb, hml, hown, hts⟩ (mk_X6_init_5 l D ct (q + 1)) (cwI 1 hts gX0_init_X6_init rfl rfl rfl (hts (.initialized RX6) (by decide +kernel)) (hts (.methodLink RX0 20 yX6_init) (by decide +kernel)) (hts (.instanceMethod yX6_init) (by decide +kernel)) rfl (by decide +kernel) ⟨Nat.le_of_ble_eq_true rfl, Nat.le_of_ble_eq_true rfl⟩) (k_pre hK hW9 hs hP _) rfl rfl hl.1 rfl (lv_room (Nat.le_of_ble_eq_true rfl)) dX0_init_20 ⟨Nat.le_of_ble_eq_true rfl, Nat.le_of_ble_eq_true rfl⟩) hF hs hS (fun a h9 => Or.inr (Nat.le_trans (Nat.add_le_add_left (by decide) q) h9)) ⟨_, rfl⟩ (fun H locs hF hs hS => ?_)
  refine k_put (k := 0) (N' := 4) (ci := 0) (fs := [.int (iI 2), .int (iI 1), .null, .null, .null, .null]) (v := .ref (q + 1)) (ty := (.object "BeamLines$Row")) (C := RX0) (T := TX0) (N := 6) hx hb hts in0 tyX0 tyX0_ok nmX0 hown hK hF rfl rfl 2 (by decide) (hts (.fieldLink RX0 23 "BeamLines$Beam" "supports" "LBeamLines$Row;") (by decide +kernel)) (fun _ h9 => h9) (Or.inr ⟨rfl, hin2, rfl⟩) (by decide +kernel) rfl rfl (Nat.le_of_ble_eq_true rfl) hs hS (Or.inl rfl) dX0_init_23 (fun H locs hF hs hS => ?_)
  refine lv_aload_n hx hb dX0_init_26 rfl (lv_at hl 0 rfl) ?_
  refine k_new (k := 4) (ci := 6) (fs := [.null, .null, .int 0]) (C := RX6) (T := TX6) (N := 3) hx hb hts in6 tyX6 tyX6_ok hown (hts (.classLink RX0 18 RX6) (by decide +kernel)) (hts (.instantiable RX6 3) (by decide +kernel)) (hts (.initialized RX6) (by decide +kernel)) hK hF hs rfl (fun j hj => match j, hj with | 0, _ => rfl | 1, _ => rfl | 2, _ => rfl | j + 3, h9 => absurd h9 (Nat.not_lt.mpr (Nat.le_add_left _ _))) hS (Nat.le_of_ble_eq_true rfl) (Nat.le_of_ble_eq_true rfl) dX0_init_27 (fun H hF hP hs hS => ?_)
  refine lv_dup hx hb dX0_init_30 rfl ?_
  refine r_iconst (n := 3) hx hb dX0_init_31 ?_
  refine k_call (k := 4) (va_runI (As := [.int (iI 3)]) (rest := [.ref (q + 4), .ref q]) ⟨hx, hb, hml, hown, hts⟩ (mk_X6_init_3 l D ct (q + 4)) (cwI 1 hts gX0_init_X6_init rfl rfl rfl (hts (.initialized RX6) (by decide +kernel)) (hts (.methodLink RX0 20 yX6_init) (by decide +kernel)) (hts (.instanceMethod yX6_init) (by decide +kernel)) rfl (by decide +kernel) ⟨Nat.le_of_ble_eq_true rfl, Nat.le_of_ble_eq_true rfl⟩) (k_pre hK hW9 hs hP _) rfl rfl hl.1 rfl (lv_room (Nat.le_of_ble_eq_true rfl)) dX0_init_32 ⟨Nat.le_of_ble_eq_true rfl, Nat.le_of_ble_eq_true rfl⟩) hF hs hS (fun a h9 => Or.inr (Nat.le_trans (Nat.add_le_add_left (by decide) q) h9)) ⟨_, rfl⟩ (fun H locs hF hs hS => ?_)
  refine k_put (k := 0) (N' := 7) (ci := 0) (fs := [.int (iI 2), .int (iI 1), .ref (q + 1), .null, .null, .null]) (v := .ref (q + 4)) (ty := (.object "BeamLines$Row")) (C := RX0) (T := TX0) (N := 6) hx hb hts in0 tyX0 tyX0_ok nmX0 hown hK hF rfl rfl 3 (by decide) (hts (.fieldLink RX0 27 "BeamLines$Beam" "hinges" "LBeamLines$Row;") (by decide +kernel)) (fun _ h9 => h9) (Or.inr ⟨rfl, hin2, rfl⟩) (by decide +kernel) rfl rfl (Nat.le_of_ble_eq_true rfl) hs hS (Or.inl rfl) dX0_init_35 (fun H locs hF hs hS => ?_)
  refine lv_aload_n hx hb dX0_init_38 rfl (lv_at hl 0 rfl) ?_
  refine k_new (k := 7) (ci := 6) (fs := [.null, .null, .int 0]) (C := RX6) (T := TX6) (N := 3) hx hb hts in6 tyX6 tyX6_ok hown (hts (.classLink RX0 18 RX6) (by decide +kernel)) (hts (.instantiable RX6 3) (by decide +kernel)) (hts (.initialized RX6) (by decide +kernel)) hK hF hs rfl (fun j hj => match j, hj with | 0, _ => rfl | 1, _ => rfl | 2, _ => rfl | j + 3, h9 => absurd h9 (Nat.not_lt.mpr (Nat.le_add_left _ _))) hS (Nat.le_of_ble_eq_true rfl) (Nat.le_of_ble_eq_true rfl) dX0_init_39 (fun H hF hP hs hS => ?_)
  refine lv_dup hx hb dX0_init_42 rfl ?_
  refine r_bipush (n := 8) hx hb dX0_init_43 rfl ?_
  refine k_call (k := 7) (va_runI (As := [.int (iI 8)]) (rest := [.ref (q + 7), .ref q]) ⟨hx, hb, hml, hown, hts⟩ (mk_X6_init_8 l D ct (q + 7)) (cwI 1 hts gX0_init_X6_init rfl rfl rfl (hts (.initialized RX6) (by decide +kernel)) (hts (.methodLink RX0 20 yX6_init) (by decide +kernel)) (hts (.instanceMethod yX6_init) (by decide +kernel)) rfl (by decide +kernel) ⟨Nat.le_of_ble_eq_true rfl, Nat.le_of_ble_eq_true rfl⟩) (k_pre hK hW9 hs hP _) rfl rfl hl.1 rfl (lv_room (Nat.le_of_ble_eq_true rfl)) dX0_init_45 ⟨Nat.le_of_ble_eq_true rfl, Nat.le_of_ble_eq_true rfl⟩) hF hs hS (fun a h9 => Or.inr (Nat.le_trans (Nat.add_le_add_left (by decide) q) h9)) ⟨_, rfl⟩ (fun H locs hF hs hS => ?_)
  refine k_put (k := 0) (N' := 10) (ci := 0) (fs := [.int (iI 2), .int (iI 1), .ref (q + 1), .ref (q + 4), .null, .null]) (v := .ref (q + 7)) (ty := (.object "BeamLines$Row")) (C := RX0) (T := TX0) (N := 6) hx hb hts in0 tyX0 tyX0_ok nmX0 hown hK hF rfl rfl 4 (by decide) (hts (.fieldLink RX0 30 "BeamLines$Beam" "loads" "LBeamLines$Row;") (by decide +kernel)) (fun _ h9 => h9) (Or.inr ⟨rfl, hin2, rfl⟩) (by decide +kernel) rfl rfl (Nat.le_of_ble_eq_true rfl) hs hS (Or.inl rfl) dX0_init_48 (fun H locs hF hs hS => ?_)
  refine lv_aload_n hx hb dX0_init_51 rfl (lv_at hl 0 rfl) ?_
  refine k_new (k := 10) (ci := 6) (fs := [.null, .null, .int 0]) (C := RX6) (T := TX6) (N := 3) hx hb hts in6 tyX6 tyX6_ok hown (hts (.classLink RX0 18 RX6) (by decide +kernel)) (hts (.instantiable RX6 3) (by decide +kernel)) (hts (.initialized RX6) (by decide +kernel)) hK hF hs rfl (fun j hj => match j, hj with | 0, _ => rfl | 1, _ => rfl | 2, _ => rfl | j + 3, h9 => absurd h9 (Nat.not_lt.mpr (Nat.le_add_left _ _))) hS (Nat.le_of_ble_eq_true rfl) (Nat.le_of_ble_eq_true rfl) dX0_init_52 (fun H hF hP hs hS => ?_)
  refine lv_dup hx hb dX0_init_55 rfl ?_
  refine r_bipush (n := 6) hx hb dX0_init_56 rfl ?_
  refine k_call (k := 10) (va_runI (As := [.int (iI 6)]) (rest := [.ref (q + 10), .ref q]) ⟨hx, hb, hml, hown, hts⟩ (mk_X6_init_6 l D ct (q + 10)) (cwI 1 hts gX0_init_X6_init rfl rfl rfl (hts (.initialized RX6) (by decide +kernel)) (hts (.methodLink RX0 20 yX6_init) (by decide +kernel)) (hts (.instanceMethod yX6_init) (by decide +kernel)) rfl (by decide +kernel) ⟨Nat.le_of_ble_eq_true rfl, Nat.le_of_ble_eq_true rfl⟩) (k_pre hK hW9 hs hP _) rfl rfl hl.1 rfl (lv_room (Nat.le_of_ble_eq_true rfl)) dX0_init_58 ⟨Nat.le_of_ble_eq_true rfl, Nat.le_of_ble_eq_true rfl⟩) hF hs hS (fun a h9 => Or.inr (Nat.le_trans (Nat.add_le_add_left (by decide) q) h9)) ⟨_, rfl⟩ (fun H locs hF hs hS => ?_)
  refine k_put (k := 0) (N' := 13) (ci := 0) (fs := [.int (iI 2), .int (iI 1), .ref (q + 1), .ref (q + 4), .ref (q + 7), .null]) (v := .ref (q + 10)) (ty := (.object "BeamLines$Row")) (C := RX0) (T := TX0) (N := 6) hx hb hts in0 tyX0 tyX0_ok nmX0 hown hK hF rfl rfl 5 (by decide) (hts (.fieldLink RX0 33 "BeamLines$Beam" "axles" "LBeamLines$Row;") (by decide +kernel)) (fun _ h9 => h9) (Or.inr ⟨rfl, hin2, rfl⟩) (by decide +kernel) rfl rfl (Nat.le_of_ble_eq_true rfl) hs hS (Or.inl rfl) dX0_init_61 (fun H locs hF hs hS => ?_)
  exact k_ret hx hb hr hlocks hK hF hs hS dX0_init_64
def g_X1_init (ct : Nat → ClassId) (q : Nat) : Nat → Option va_E := upO (upO (upO (upO (upO (upO (upO (upO (upO (upO noO 0 (.inr (1, [.null, .null, .null, .null, .int 0]))) 1 (.inl (ct 0, (31, .inl (fun _ => 0))))) 0 (.inr (1, [.ref (q + 1), .null, .null, .null, .int 0]))) 2 (.inl (ct 1, (5, .inr (.inl (fun _ => 0)))))) 0 (.inr (1, [.ref (q + 1), .ref (q + 2), .null, .null, .int 0]))) 3 (.inl (ct 1, (31, .inr (.inl (fun _ => 0)))))) 0 (.inr (1, [.ref (q + 1), .ref (q + 2), .ref (q + 3), .null, .int 0]))) 4 (.inl (ct 1, (31, .inr (.inl (fun _ => 0)))))) 0 (.inr (1, [.ref (q + 1), .ref (q + 2), .ref (q + 3), .ref (q + 4), .int 0]))) 0 (.inr (1, [.ref (q + 1), .ref (q + 2), .ref (q + 3), .ref (q + 4), .int (iI 0)]))
set_option maxHeartbeats 4000000 in
set_option maxRecDepth 100000 in
theorem mk_X1_init (l : Launch) (D : va_G) (ct : Nat → ClassId) (q : Nat) : Met l yX1_init wsX1_init ({ frames := 1, cells := 4, slots := 98, locals := 20 }) (PcI D ct q (.inr (1, [.null, .null, .null, .null, .int 0])) [.ref q]) (QcI D ct q 5 (g_X1_init ct q)) 4 98 (RC q (q + 1)) := by
  refine Met.ofW (cc := cX1_init) (maxL := 1) (ret := none) (by decide) rfl ?_
  intro p e s m args below meth c s₁ B hml hvv
  obtain ⟨rfl, hs, hP0, hK, hW9⟩ := hvv
  have hx := B.exec
  have hb := B.bytes
  have hr := B.returns
  have hts := atoms_spec (ws := wsX1_init) B.pre
  have hown : s.vm.findClass RX1 = some m.cls := findClass_of_methodNamed B.named
  have hlocks := B.notSynchronized
  have hin2 : meth.name = "<init>" := (name_of_methodNamed B.named B.method).1
  have hS : va_S (RC q (q + 1)) s.heap s.heap [] := va_S.rf
  have hF := HPo.one hP0
  have in1 : ∀ w ∈ wsX10, w ∈ wsX1_init := by decide +kernel
  have hl := lv_entry ([.ref q]) (n := 1) (Nat.le_of_ble_eq_true rfl)
  rw [lg_entry_eq]
  generalize (lg_sl ([.ref q]) ++ List.replicate (1 - (lg_sl ([.ref q])).length) Slot.unset).toArray = ls at hl ⊢
  have hl : lv_has ls 1 [(0, .ref q)] := hl
  refine lv_aload_n hx hb dX1_init_0 rfl (lv_at hl 0 rfl) ?_
  refine W.objInit hx hb hown (hts (.methodLink RX1 3 objectInit) (by decide +kernel)) (hts (.instanceMethod objectInit) (by decide +kernel)) (hts (.code objectInit ⟨#[0xb1]⟩ 1 none) (List.mem_cons_of_mem _ (List.mem_of_getElem? (i := 2) rfl))) rfl (by rw [hml]; exact hl.1) rfl dX1_init_1 (Nat.le_of_ble_eq_true rfl) (Nat.le_of_ble_eq_true rfl) ?_
  refine W.eq (g2 := F0 m 4 ls []) rfl ?_
  refine lv_aload_n hx hb dX1_init_4 rfl (lv_at hl 0 rfl) ?_
  refine r_bipush (n := 31) hx hb dX1_init_5 rfl ?_
  refine k_newa (atype := .int) (n := iI 31) (k := 1) (N' := 31) (a0 := (31, .inl (fun _ => 0))) (cA := ct 0) hx hb (hts (.arrayClass .int) (by decide +kernel)) hF hs hS (hK.2 0 _ rfl).2 (vp_cell_i _ _ _) (by decide) rfl (show 31 * 4 ≤ 536870912 from Nat.le_of_ble_eq_true rfl) (Nat.le_of_ble_eq_true rfl) (Nat.le_of_ble_eq_true rfl) dX1_init_7 (fun H hF hs hS => ?_)
  refine k_put (k := 0) (N' := 2) (ci := 1) (fs := [.null, .null, .null, .null, .int 0]) (v := .ref (q + 1)) (ty := (.array .int)) (C := RX1) (T := TX1) (N := 5) hx hb hts in1 tyX1 tyX1_ok nmX1 hown hK hF rfl rfl 0 (by decide) (hts (.fieldLink RX1 9 "BeamLines$Forces" "pressing" "[I") (by decide +kernel)) (fun _ h9 => h9) (Or.inr ⟨rfl, hin2, rfl⟩) (by decide +kernel) rfl rfl (Nat.le_of_ble_eq_true rfl) hs hS (Or.inl rfl) dX1_init_9 (fun H locs hF hs hS => ?_)
  refine lv_aload_n hx hb dX1_init_12 rfl (lv_at hl 0 rfl) ?_
  refine r_iconst (n := 5) hx hb dX1_init_13 ?_
  refine k_newa (atype := .long) (n := iI 5) (k := 2) (N' := 5) (a0 := (5, .inr (.inl (fun _ => 0)))) (cA := ct 1) hx hb (hts (.arrayClass .long) (by decide +kernel)) hF hs hS (hK.2 1 _ rfl).2 (vp_cell_l _ _ _) (by decide) rfl (show 5 * 8 ≤ 536870912 from Nat.le_of_ble_eq_true rfl) (Nat.le_of_ble_eq_true rfl) (Nat.le_of_ble_eq_true rfl) dX1_init_14 (fun H hF hs hS => ?_)
  refine k_put (k := 0) (N' := 3) (ci := 1) (fs := [.ref (q + 1), .null, .null, .null, .int 0]) (v := .ref (q + 2)) (ty := (.array .long)) (C := RX1) (T := TX1) (N := 5) hx hb hts in1 tyX1 tyX1_ok nmX1 hown hK hF rfl rfl 1 (by decide) (hts (.fieldLink RX1 15 "BeamLines$Forces" "reactions" "[J") (by decide +kernel)) (fun _ h9 => h9) (Or.inr ⟨rfl, hin2, rfl⟩) (by decide +kernel) rfl rfl (Nat.le_of_ble_eq_true rfl) hs hS (Or.inl rfl) dX1_init_16 (fun H locs hF hs hS => ?_)
  refine lv_aload_n hx hb dX1_init_19 rfl (lv_at hl 0 rfl) ?_
  refine r_bipush (n := 31) hx hb dX1_init_20 rfl ?_
  refine k_newa (atype := .long) (n := iI 31) (k := 3) (N' := 31) (a0 := (31, .inr (.inl (fun _ => 0)))) (cA := ct 1) hx hb (hts (.arrayClass .long) (by decide +kernel)) hF hs hS (hK.2 1 _ rfl).2 (vp_cell_l _ _ _) (by decide) rfl (show 31 * 8 ≤ 536870912 from Nat.le_of_ble_eq_true rfl) (Nat.le_of_ble_eq_true rfl) (Nat.le_of_ble_eq_true rfl) dX1_init_22 (fun H hF hs hS => ?_)
  refine k_put (k := 0) (N' := 4) (ci := 1) (fs := [.ref (q + 1), .ref (q + 2), .null, .null, .int 0]) (v := .ref (q + 3)) (ty := (.array .long)) (C := RX1) (T := TX1) (N := 5) hx hb hts in1 tyX1 tyX1_ok nmX1 hown hK hF rfl rfl 2 (by decide) (hts (.fieldLink RX1 19 "BeamLines$Forces" "shears" "[J") (by decide +kernel)) (fun _ h9 => h9) (Or.inr ⟨rfl, hin2, rfl⟩) (by decide +kernel) rfl rfl (Nat.le_of_ble_eq_true rfl) hs hS (Or.inl rfl) dX1_init_24 (fun H locs hF hs hS => ?_)
  refine lv_aload_n hx hb dX1_init_27 rfl (lv_at hl 0 rfl) ?_
  refine r_bipush (n := 31) hx hb dX1_init_28 rfl ?_
  refine k_newa (atype := .long) (n := iI 31) (k := 4) (N' := 31) (a0 := (31, .inr (.inl (fun _ => 0)))) (cA := ct 1) hx hb (hts (.arrayClass .long) (by decide +kernel)) hF hs hS (hK.2 1 _ rfl).2 (vp_cell_l _ _ _) (by decide) rfl (show 31 * 8 ≤ 536870912 from Nat.le_of_ble_eq_true rfl) (Nat.le_of_ble_eq_true rfl) (Nat.le_of_ble_eq_true rfl) dX1_init_30 (fun H hF hs hS => ?_)
  refine k_put (k := 0) (N' := 5) (ci := 1) (fs := [.ref (q + 1), .ref (q + 2), .ref (q + 3), .null, .int 0]) (v := .ref (q + 4)) (ty := (.array .long)) (C := RX1) (T := TX1) (N := 5) hx hb hts in1 tyX1 tyX1_ok nmX1 hown hK hF rfl rfl 3 (by decide) (hts (.fieldLink RX1 22 "BeamLines$Forces" "moments" "[J") (by decide +kernel)) (fun _ h9 => h9) (Or.inr ⟨rfl, hin2, rfl⟩) (by decide +kernel) rfl rfl (Nat.le_of_ble_eq_true rfl) hs hS (Or.inl rfl) dX1_init_32 (fun H locs hF hs hS => ?_)
  refine lv_aload_n hx hb dX1_init_35 rfl (lv_at hl 0 rfl) ?_
  refine r_iconst (n := 0) hx hb dX1_init_36 ?_
  refine k_put (k := 0) (N' := 5) (ci := 1) (fs := [.ref (q + 1), .ref (q + 2), .ref (q + 3), .ref (q + 4), .int 0]) (v := .int (iI 0)) (ty := .int) (C := RX1) (T := TX1) (N := 5) hx hb hts in1 tyX1 tyX1_ok nmX1 hown hK hF rfl rfl 4 (by decide) (hts (.fieldLink RX1 25 "BeamLines$Forces" "total" "I") (by decide +kernel)) (fun _ h9 => h9) (Or.inl rfl) (by decide +kernel) rfl rfl (Nat.le_of_ble_eq_true rfl) hs hS (Or.inl rfl) dX1_init_37 (fun H locs hF hs hS => ?_)
  exact k_ret hx hb hr hlocks hK hF hs hS dX1_init_40
def g_X2_init (ct : Nat → ClassId) (q : Nat) : Nat → Option va_E := upO (orO (upO (upO (orO (upO (upO (orO (upO (upO (orO (upO (upO (orO (upO (upO (orO (upO (upO (orO (upO (upO (orO (upO (upO (upO (upO (upO noO 0 (.inr (2, [.null, .int 0]))) 1 (.inl (ct 4, 8, .inr (.inr (.inr (.inr (fun _ => none))))))) 0 (.inr (2, [.ref (q + 1), .int 0]))) 0 (.inr (2, [.ref (q + 1), .int (iI 0)]))) 2 (.inr (0, [.int 0, .int 0, .null, .null, .null, .null]))) 2 (g_X0_init ct (q + 2))) 1 (.inl (ct 4, 8, .inr (.inr (.inr (.inr (va_up (fun _ => none) 0 (some (q + 2))))))))) 15 (.inr (0, [.int 0, .int 0, .null, .null, .null, .null]))) 15 (g_X0_init ct (q + 15))) 1 (.inl (ct 4, 8, .inr (.inr (.inr (.inr (va_up (va_up (fun _ => none) 0 (some (q + 2))) 1 (some (q + 15))))))))) 28 (.inr (0, [.int 0, .int 0, .null, .null, .null, .null]))) 28 (g_X0_init ct (q + 28))) 1 (.inl (ct 4, 8, .inr (.inr (.inr (.inr (va_up (va_up (va_up (fun _ => none) 0 (some (q + 2))) 1 (some (q + 15))) 2 (some (q + 28))))))))) 41 (.inr (0, [.int 0, .int 0, .null, .null, .null, .null]))) 41 (g_X0_init ct (q + 41))) 1 (.inl (ct 4, 8, .inr (.inr (.inr (.inr (va_up (va_up (va_up (va_up (fun _ => none) 0 (some (q + 2))) 1 (some (q + 15))) 2 (some (q + 28))) 3 (some (q + 41))))))))) 54 (.inr (0, [.int 0, .int 0, .null, .null, .null, .null]))) 54 (g_X0_init ct (q + 54))) 1 (.inl (ct 4, 8, .inr (.inr (.inr (.inr (va_up (va_up (va_up (va_up (va_up (fun _ => none) 0 (some (q + 2))) 1 (some (q + 15))) 2 (some (q + 28))) 3 (some (q + 41))) 4 (some (q + 54))))))))) 67 (.inr (0, [.int 0, .int 0, .null, .null, .null, .null]))) 67 (g_X0_init ct (q + 67))) 1 (.inl (ct 4, 8, .inr (.inr (.inr (.inr (va_up (va_up (va_up (va_up (va_up (va_up (fun _ => none) 0 (some (q + 2))) 1 (some (q + 15))) 2 (some (q + 28))) 3 (some (q + 41))) 4 (some (q + 54))) 5 (some (q + 67))))))))) 80 (.inr (0, [.int 0, .int 0, .null, .null, .null, .null]))) 80 (g_X0_init ct (q + 80))) 1 (.inl (ct 4, 8, .inr (.inr (.inr (.inr (va_up (va_up (va_up (va_up (va_up (va_up (va_up (fun _ => none) 0 (some (q + 2))) 1 (some (q + 15))) 2 (some (q + 28))) 3 (some (q + 41))) 4 (some (q + 54))) 5 (some (q + 67))) 6 (some (q + 80))))))))) 93 (.inr (0, [.int 0, .int 0, .null, .null, .null, .null]))) 93 (g_X0_init ct (q + 93))) 1 (.inl (ct 4, 8, .inr (.inr (.inr (.inr (va_up (va_up (va_up (va_up (va_up (va_up (va_up (va_up (fun _ => none) 0 (some (q + 2))) 1 (some (q + 15))) 2 (some (q + 28))) 3 (some (q + 41))) 4 (some (q + 54))) 5 (some (q + 67))) 6 (some (q + 80))) 7 (some (q + 93))))))))
set_option maxHeartbeats 4000000 in
set_option maxRecDepth 100000 in
theorem mk_X2_init (l : Launch) (D : va_G) (ct : Nat → ClassId) (q : Nat) : Met l yX2_init wsX2_init ({ frames := 3, cells := 105, slots := 504, locals := 64 }) (PcI D ct q (.inr (2, [.null, .int 0])) [.ref q]) (QcI D ct q 106 (g_X2_init ct q)) 105 504 (RC q (q + 1)) := by
  refine Met.ofW (cc := cX2_init) (maxL := 2) (ret := none) (by decide) rfl ?_
  intro p e s m args below meth c s₁ B hml hvv
  obtain ⟨rfl, hs, hP0, hK, hW9⟩ := hvv
  have hx := B.exec
  have hb := B.bytes
  have hr := B.returns
  have hts := atoms_spec (ws := wsX2_init) B.pre
  have hown : s.vm.findClass RX2 = some m.cls := findClass_of_methodNamed B.named
  have hlocks := B.notSynchronized
  have hin2 : meth.name = "<init>" := (name_of_methodNamed B.named B.method).1
  have hS : va_S (RC q (q + 1)) s.heap s.heap [] := va_S.rf
  have hF := HPo.one hP0
  obtain ⟨-, -, -, -, -, hcB⟩ := (hK.2 4 _ rfl).2
  have in0 : ∀ w ∈ wsX00, w ∈ wsX2_init := by decide +kernel
  have in2 : ∀ w ∈ wsX20, w ∈ wsX2_init := by decide +kernel
  have hl := lv_entry ([.ref q]) (n := 2) (Nat.le_of_ble_eq_true rfl)
  rw [lg_entry_eq]
  generalize (lg_sl ([.ref q]) ++ List.replicate (2 - (lg_sl ([.ref q])).length) Slot.unset).toArray = ls at hl ⊢
  have hl : lv_has ls 2 [(0, .ref q)] := hl
  refine lv_aload_n hx hb dX2_init_0 rfl (lv_at hl 0 rfl) ?_
  refine W.objInit hx hb hown (hts (.methodLink RX2 3 objectInit) (by decide +kernel)) (hts (.instanceMethod objectInit) (by decide +kernel)) (hts (.code objectInit ⟨#[0xb1]⟩ 1 none) (List.mem_cons_of_mem _ (List.mem_of_getElem? (i := 2) rfl))) rfl (by rw [hml]; exact hl.1) rfl dX2_init_1 (Nat.le_of_ble_eq_true rfl) (Nat.le_of_ble_eq_true rfl) ?_
  refine W.eq (g2 := F0 m 4 ls []) rfl ?_
  refine lv_aload_n hx hb dX2_init_4 rfl (lv_at hl 0 rfl) ?_
  refine r_bipush (n := 8) hx hb dX2_init_5 rfl ?_
  refine k_anew (n := iI 8) (k := 1) (N9 := 8) (cA := ct 4) (C := "BeamLines$Beam") hx hb hown (hts (.classLink RX2 9 RX0) (by decide +kernel)) (va_AO.use hW9.1) hF hs hS hcB (by decide) rfl (show 8 * 4 ≤ 536870912 from Nat.le_of_ble_eq_true rfl) (Nat.le_of_ble_eq_true rfl) (Nat.le_of_ble_eq_true rfl) dX2_init_7 (fun H hF hs hS => ?_)
  refine k_put (k := 0) (N' := 2) (ci := 2) (fs := [.null, .int 0]) (v := .ref (q + 1)) (ty := (.array (.object "BeamLines$Beam"))) (C := RX2) (T := TX2) (N := 2) hx hb hts in2 tyX2 tyX2_ok nmX2 hown hK hF rfl rfl 0 (by decide) (hts (.fieldLink RX2 11 "BeamLines$History" "beams" "[LBeamLines$Beam;") (by decide +kernel)) (fun _ h9 => h9) (Or.inr ⟨rfl, hin2, rfl⟩) (by decide +kernel) rfl rfl (Nat.le_of_ble_eq_true rfl) hs hS (Or.inl rfl) dX2_init_10 (fun H locs hF hs hS => ?_)
  refine lv_aload_n hx hb dX2_init_13 rfl (lv_at hl 0 rfl) ?_
  refine r_iconst (n := 0) hx hb dX2_init_14 ?_
  refine k_put (k := 0) (N' := 2) (ci := 2) (fs := [.ref (q + 1), .int 0]) (v := .int (iI 0)) (ty := .int) (C := RX2) (T := TX2) (N := 2) hx hb hts in2 tyX2 tyX2_ok nmX2 hown hK hF rfl rfl 1 (by decide) (hts (.fieldLink RX2 17 "BeamLines$History" "size" "I") (by decide +kernel)) (fun _ h9 => h9) (Or.inl rfl) (by decide +kernel) rfl rfl (Nat.le_of_ble_eq_true rfl) hs hS (Or.inl rfl) dX2_init_15 (fun H locs hF hs hS => ?_)
  refine r_iconst (n := 0) hx hb dX2_init_18 ?_
  refine lv_istore_n (lv' := [(1, .int (iI 0)), (0, .ref q)]) hx hb dX2_init_19 rfl hl (by decide) rfl (fun ls hl => ?_)
  refine lv_iload_n hx hb dX2_init_20 rfl (lv_at hl 0 rfl) ?_
  refine r_bipush (n := 8) hx hb dX2_init_21 rfl ?_
  refine r_icmp_ge (tgt := 45) hx hb dX2_init_23 (by decide) (inI_mk rfl) (inI_mk rfl) (fun n => absurd n (by decide)) (fun _ => ?_)
  refine lv_aload_n hx hb dX2_init_26 rfl (lv_at hl 1 rfl) ?_
  refine k_get (k := 0) (ci := 2) (fs := [.ref (q + 1), .int (iI 0)]) (v := .ref (q + 1)) (C := RX2) (T := TX2) (N := 2) hx hb hts in2 hown hK hF rfl rfl 0 (by decide) (hts (.fieldLink RX2 11 "BeamLines$History" "beams" "[LBeamLines$Beam;") (by decide +kernel)) (fun _ h9 => h9) rfl dX2_init_27 ?_
  refine lv_iload_n hx hb dX2_init_30 rfl (lv_at hl 0 rfl) ?_
  refine k_new (k := 2) (ci := 0) (fs := [.int 0, .int 0, .null, .null, .null, .null]) (C := RX0) (T := TX0) (N := 6) hx hb hts in0 tyX0 tyX0_ok hown (hts (.classLink RX2 9 RX0) (by decide +kernel)) (hts (.instantiable RX0 6) (by decide +kernel)) (hts (.initialized RX0) (by decide +kernel)) hK hF hs rfl (fun j hj => match j, hj with | 0, _ => rfl | 1, _ => rfl | 2, _ => rfl | 3, _ => rfl | 4, _ => rfl | 5, _ => rfl | j + 6, h9 => absurd h9 (Nat.not_lt.mpr (Nat.le_add_left _ _))) hS (Nat.le_of_ble_eq_true rfl) (Nat.le_of_ble_eq_true rfl) dX2_init_31 (fun H hF hP hs hS => ?_)
  refine lv_dup hx hb dX2_init_34 rfl ?_
  refine k_call (k := 2) (va_runIN (As := []) (rest := [.ref (q + 2), .int (iI 0), .ref (q + 1)]) ⟨hx, hb, hml, hown, hts⟩ (mk_X0_init l D ct (q + 2)) ⟨va_cnB 0 hts gX2_init_X0_init_n21 rfl rfl rfl (hW9.2.2 (RX2, 21, yX0_init) (by decide +kernel)) (hts (.initialized RX0) (by decide +kernel)) (by decide +kernel) ⟨Nat.le_of_ble_eq_true rfl, Nat.le_of_ble_eq_true rfl⟩, rfl, hts (.instanceMethod yX0_init) (by decide +kernel)⟩ (k_pre hK hW9 hs hP _) rfl rfl hl.1 rfl (lv_room (Nat.le_of_ble_eq_true rfl)) dX2_init_35 ⟨Nat.le_of_ble_eq_true rfl, Nat.le_of_ble_eq_true rfl⟩) hF hs hS (fun a h9 => Or.inr (Nat.le_trans (Nat.add_le_add_left (by decide) q) h9)) ⟨_, rfl⟩ (fun H locs hF hs hS => ?_)
  refine k_aast (k := 1) (k2 := 2) (n := 8) (N' := 15) (ct := ct) hx hb hK hF rfl rfl hs hS (Or.inr (Nat.add_le_add_left (by decide) q)) (iI_in3 (by decide) (by decide) (by decide)) dX2_init_38 (fun H locs hF hs hS => ?_)
  refine lv_iinc (v := iI 1) (lv' := [(1, .int (iI 1)), (0, .ref q)]) hx hb dX2_init_39 hl (k := 0) rfl (iI_add _ _) (by decide) rfl (fun ls hl => ?_)
  refine lv_goto (tgt := 20) hx hb dX2_init_42 (by decide) ?_
  refine lv_iload_n hx hb dX2_init_20 rfl (lv_at hl 0 rfl) ?_
  refine r_bipush (n := 8) hx hb dX2_init_21 rfl ?_
  refine r_icmp_ge (tgt := 45) hx hb dX2_init_23 (by decide) (inI_mk rfl) (inI_mk rfl) (fun n => absurd n (by decide)) (fun _ => ?_)
  refine lv_aload_n hx hb dX2_init_26 rfl (lv_at hl 1 rfl) ?_
  refine k_get (k := 0) (ci := 2) (fs := [.ref (q + 1), .int (iI 0)]) (v := .ref (q + 1)) (C := RX2) (T := TX2) (N := 2) hx hb hts in2 hown hK hF rfl rfl 0 (by decide) (hts (.fieldLink RX2 11 "BeamLines$History" "beams" "[LBeamLines$Beam;") (by decide +kernel)) (fun _ h9 => h9) rfl dX2_init_27 ?_
  refine lv_iload_n hx hb dX2_init_30 rfl (lv_at hl 0 rfl) ?_
  refine k_new (k := 15) (ci := 0) (fs := [.int 0, .int 0, .null, .null, .null, .null]) (C := RX0) (T := TX0) (N := 6) hx hb hts in0 tyX0 tyX0_ok hown (hts (.classLink RX2 9 RX0) (by decide +kernel)) (hts (.instantiable RX0 6) (by decide +kernel)) (hts (.initialized RX0) (by decide +kernel)) hK hF hs rfl (fun j hj => match j, hj with | 0, _ => rfl | 1, _ => rfl | 2, _ => rfl | 3, _ => rfl | 4, _ => rfl | 5, _ => rfl | j + 6, h9 => absurd h9 (Nat.not_lt.mpr (Nat.le_add_left _ _))) hS (Nat.le_of_ble_eq_true rfl) (Nat.le_of_ble_eq_true rfl) dX2_init_31 (fun H hF hP hs hS => ?_)
  refine lv_dup hx hb dX2_init_34 rfl ?_
  refine k_call (k := 15) (va_runIN (As := []) (rest := [.ref (q + 15), .int (iI 1), .ref (q + 1)]) ⟨hx, hb, hml, hown, hts⟩ (mk_X0_init l D ct (q + 15)) ⟨va_cnB 0 hts gX2_init_X0_init_n21 rfl rfl rfl (hW9.2.2 (RX2, 21, yX0_init) (by decide +kernel)) (hts (.initialized RX0) (by decide +kernel)) (by decide +kernel) ⟨Nat.le_of_ble_eq_true rfl, Nat.le_of_ble_eq_true rfl⟩, rfl, hts (.instanceMethod yX0_init) (by decide +kernel)⟩ (k_pre hK hW9 hs hP _) rfl rfl hl.1 rfl (lv_room (Nat.le_of_ble_eq_true rfl)) dX2_init_35 ⟨Nat.le_of_ble_eq_true rfl, Nat.le_of_ble_eq_true rfl⟩) hF hs hS (fun a h9 => Or.inr (Nat.le_trans (Nat.add_le_add_left (by decide) q) h9)) ⟨_, rfl⟩ (fun H locs hF hs hS => ?_)
  refine k_aast (k := 1) (k2 := 15) (n := 8) (N' := 28) (ct := ct) hx hb hK hF rfl rfl hs hS (Or.inr (Nat.add_le_add_left (by decide) q)) (iI_in3 (by decide) (by decide) (by decide)) dX2_init_38 (fun H locs hF hs hS => ?_)
  refine lv_iinc (v := iI 2) (lv' := [(1, .int (iI 2)), (0, .ref q)]) hx hb dX2_init_39 hl (k := 0) rfl (iI_add _ _) (by decide) rfl (fun ls hl => ?_)
  refine lv_goto (tgt := 20) hx hb dX2_init_42 (by decide) ?_
  refine lv_iload_n hx hb dX2_init_20 rfl (lv_at hl 0 rfl) ?_
  refine r_bipush (n := 8) hx hb dX2_init_21 rfl ?_
  refine r_icmp_ge (tgt := 45) hx hb dX2_init_23 (by decide) (inI_mk rfl) (inI_mk rfl) (fun n => absurd n (by decide)) (fun _ => ?_)
  refine lv_aload_n hx hb dX2_init_26 rfl (lv_at hl 1 rfl) ?_
  refine k_get (k := 0) (ci := 2) (fs := [.ref (q + 1), .int (iI 0)]) (v := .ref (q + 1)) (C := RX2) (T := TX2) (N := 2) hx hb hts in2 hown hK hF rfl rfl 0 (by decide) (hts (.fieldLink RX2 11 "BeamLines$History" "beams" "[LBeamLines$Beam;") (by decide +kernel)) (fun _ h9 => h9) rfl dX2_init_27 ?_
  refine lv_iload_n hx hb dX2_init_30 rfl (lv_at hl 0 rfl) ?_
  refine k_new (k := 28) (ci := 0) (fs := [.int 0, .int 0, .null, .null, .null, .null]) (C := RX0) (T := TX0) (N := 6) hx hb hts in0 tyX0 tyX0_ok hown (hts (.classLink RX2 9 RX0) (by decide +kernel)) (hts (.instantiable RX0 6) (by decide +kernel)) (hts (.initialized RX0) (by decide +kernel)) hK hF hs rfl (fun j hj => match j, hj with | 0, _ => rfl | 1, _ => rfl | 2, _ => rfl | 3, _ => rfl | 4, _ => rfl | 5, _ => rfl | j + 6, h9 => absurd h9 (Nat.not_lt.mpr (Nat.le_add_left _ _))) hS (Nat.le_of_ble_eq_true rfl) (Nat.le_of_ble_eq_true rfl) dX2_init_31 (fun H hF hP hs hS => ?_)
  refine lv_dup hx hb dX2_init_34 rfl ?_
  refine k_call (k := 28) (va_runIN (As := []) (rest := [.ref (q + 28), .int (iI 2), .ref (q + 1)]) ⟨hx, hb, hml, hown, hts⟩ (mk_X0_init l D ct (q + 28)) ⟨va_cnB 0 hts gX2_init_X0_init_n21 rfl rfl rfl (hW9.2.2 (RX2, 21, yX0_init) (by decide +kernel)) (hts (.initialized RX0) (by decide +kernel)) (by decide +kernel) ⟨Nat.le_of_ble_eq_true rfl, Nat.le_of_ble_eq_true rfl⟩, rfl, hts (.instanceMethod yX0_init) (by decide +kernel)⟩ (k_pre hK hW9 hs hP _) rfl rfl hl.1 rfl (lv_room (Nat.le_of_ble_eq_true rfl)) dX2_init_35 ⟨Nat.le_of_ble_eq_true rfl, Nat.le_of_ble_eq_true rfl⟩) hF hs hS (fun a h9 => Or.inr (Nat.le_trans (Nat.add_le_add_left (by decide) q) h9)) ⟨_, rfl⟩ (fun H locs hF hs hS => ?_)
  refine k_aast (k := 1) (k2 := 28) (n := 8) (N' := 41) (ct := ct) hx hb hK hF rfl rfl hs hS (Or.inr (Nat.add_le_add_left (by decide) q)) (iI_in3 (by decide) (by decide) (by decide)) dX2_init_38 (fun H locs hF hs hS => ?_)
  refine lv_iinc (v := iI 3) (lv' := [(1, .int (iI 3)), (0, .ref q)]) hx hb dX2_init_39 hl (k := 0) rfl (iI_add _ _) (by decide) rfl (fun ls hl => ?_)
  refine lv_goto (tgt := 20) hx hb dX2_init_42 (by decide) ?_
  refine lv_iload_n hx hb dX2_init_20 rfl (lv_at hl 0 rfl) ?_
  refine r_bipush (n := 8) hx hb dX2_init_21 rfl ?_
  refine r_icmp_ge (tgt := 45) hx hb dX2_init_23 (by decide) (inI_mk rfl) (inI_mk rfl) (fun n => absurd n (by decide)) (fun _ => ?_)
  refine lv_aload_n hx hb dX2_init_26 rfl (lv_at hl 1 rfl) ?_
  refine k_get (k := 0) (ci := 2) (fs := [.ref (q + 1), .int (iI 0)]) (v := .ref (q + 1)) (C := RX2) (T := TX2) (N := 2) hx hb hts in2 hown hK hF rfl rfl 0 (by decide) (hts (.fieldLink RX2 11 "BeamLines$History" "beams" "[LBeamLines$Beam;") (by decide +kernel)) (fun _ h9 => h9) rfl dX2_init_27 ?_
  refine lv_iload_n hx hb dX2_init_30 rfl (lv_at hl 0 rfl) ?_
  refine k_new (k := 41) (ci := 0) (fs := [.int 0, .int 0, .null, .null, .null, .null]) (C := RX0) (T := TX0) (N := 6) hx hb hts in0 tyX0 tyX0_ok hown (hts (.classLink RX2 9 RX0) (by decide +kernel)) (hts (.instantiable RX0 6) (by decide +kernel)) (hts (.initialized RX0) (by decide +kernel)) hK hF hs rfl (fun j hj => match j, hj with | 0, _ => rfl | 1, _ => rfl | 2, _ => rfl | 3, _ => rfl | 4, _ => rfl | 5, _ => rfl | j + 6, h9 => absurd h9 (Nat.not_lt.mpr (Nat.le_add_left _ _))) hS (Nat.le_of_ble_eq_true rfl) (Nat.le_of_ble_eq_true rfl) dX2_init_31 (fun H hF hP hs hS => ?_)
  refine lv_dup hx hb dX2_init_34 rfl ?_
  refine k_call (k := 41) (va_runIN (As := []) (rest := [.ref (q + 41), .int (iI 3), .ref (q + 1)]) ⟨hx, hb, hml, hown, hts⟩ (mk_X0_init l D ct (q + 41)) ⟨va_cnB 0 hts gX2_init_X0_init_n21 rfl rfl rfl (hW9.2.2 (RX2, 21, yX0_init) (by decide +kernel)) (hts (.initialized RX0) (by decide +kernel)) (by decide +kernel) ⟨Nat.le_of_ble_eq_true rfl, Nat.le_of_ble_eq_true rfl⟩, rfl, hts (.instanceMethod yX0_init) (by decide +kernel)⟩ (k_pre hK hW9 hs hP _) rfl rfl hl.1 rfl (lv_room (Nat.le_of_ble_eq_true rfl)) dX2_init_35 ⟨Nat.le_of_ble_eq_true rfl, Nat.le_of_ble_eq_true rfl⟩) hF hs hS (fun a h9 => Or.inr (Nat.le_trans (Nat.add_le_add_left (by decide) q) h9)) ⟨_, rfl⟩ (fun H locs hF hs hS => ?_)
  refine k_aast (k := 1) (k2 := 41) (n := 8) (N' := 54) (ct := ct) hx hb hK hF rfl rfl hs hS (Or.inr (Nat.add_le_add_left (by decide) q)) (iI_in3 (by decide) (by decide) (by decide)) dX2_init_38 (fun H locs hF hs hS => ?_)
  refine lv_iinc (v := iI 4) (lv' := [(1, .int (iI 4)), (0, .ref q)]) hx hb dX2_init_39 hl (k := 0) rfl (iI_add _ _) (by decide) rfl (fun ls hl => ?_)
  refine lv_goto (tgt := 20) hx hb dX2_init_42 (by decide) ?_
  refine lv_iload_n hx hb dX2_init_20 rfl (lv_at hl 0 rfl) ?_
  refine r_bipush (n := 8) hx hb dX2_init_21 rfl ?_
  refine r_icmp_ge (tgt := 45) hx hb dX2_init_23 (by decide) (inI_mk rfl) (inI_mk rfl) (fun n => absurd n (by decide)) (fun _ => ?_)
  refine lv_aload_n hx hb dX2_init_26 rfl (lv_at hl 1 rfl) ?_
  refine k_get (k := 0) (ci := 2) (fs := [.ref (q + 1), .int (iI 0)]) (v := .ref (q + 1)) (C := RX2) (T := TX2) (N := 2) hx hb hts in2 hown hK hF rfl rfl 0 (by decide) (hts (.fieldLink RX2 11 "BeamLines$History" "beams" "[LBeamLines$Beam;") (by decide +kernel)) (fun _ h9 => h9) rfl dX2_init_27 ?_
  refine lv_iload_n hx hb dX2_init_30 rfl (lv_at hl 0 rfl) ?_
  refine k_new (k := 54) (ci := 0) (fs := [.int 0, .int 0, .null, .null, .null, .null]) (C := RX0) (T := TX0) (N := 6) hx hb hts in0 tyX0 tyX0_ok hown (hts (.classLink RX2 9 RX0) (by decide +kernel)) (hts (.instantiable RX0 6) (by decide +kernel)) (hts (.initialized RX0) (by decide +kernel)) hK hF hs rfl (fun j hj => match j, hj with | 0, _ => rfl | 1, _ => rfl | 2, _ => rfl | 3, _ => rfl | 4, _ => rfl | 5, _ => rfl | j + 6, h9 => absurd h9 (Nat.not_lt.mpr (Nat.le_add_left _ _))) hS (Nat.le_of_ble_eq_true rfl) (Nat.le_of_ble_eq_true rfl) dX2_init_31 (fun H hF hP hs hS => ?_)
  refine lv_dup hx hb dX2_init_34 rfl ?_
  refine k_call (k := 54) (va_runIN (As := []) (rest := [.ref (q + 54), .int (iI 4), .ref (q + 1)]) ⟨hx, hb, hml, hown, hts⟩ (mk_X0_init l D ct (q + 54)) ⟨va_cnB 0 hts gX2_init_X0_init_n21 rfl rfl rfl (hW9.2.2 (RX2, 21, yX0_init) (by decide +kernel)) (hts (.initialized RX0) (by decide +kernel)) (by decide +kernel) ⟨Nat.le_of_ble_eq_true rfl, Nat.le_of_ble_eq_true rfl⟩, rfl, hts (.instanceMethod yX0_init) (by decide +kernel)⟩ (k_pre hK hW9 hs hP _) rfl rfl hl.1 rfl (lv_room (Nat.le_of_ble_eq_true rfl)) dX2_init_35 ⟨Nat.le_of_ble_eq_true rfl, Nat.le_of_ble_eq_true rfl⟩) hF hs hS (fun a h9 => Or.inr (Nat.le_trans (Nat.add_le_add_left (by decide) q) h9)) ⟨_, rfl⟩ (fun H locs hF hs hS => ?_)
  refine k_aast (k := 1) (k2 := 54) (n := 8) (N' := 67) (ct := ct) hx hb hK hF rfl rfl hs hS (Or.inr (Nat.add_le_add_left (by decide) q)) (iI_in3 (by decide) (by decide) (by decide)) dX2_init_38 (fun H locs hF hs hS => ?_)
  refine lv_iinc (v := iI 5) (lv' := [(1, .int (iI 5)), (0, .ref q)]) hx hb dX2_init_39 hl (k := 0) rfl (iI_add _ _) (by decide) rfl (fun ls hl => ?_)
  refine lv_goto (tgt := 20) hx hb dX2_init_42 (by decide) ?_
  refine lv_iload_n hx hb dX2_init_20 rfl (lv_at hl 0 rfl) ?_
  refine r_bipush (n := 8) hx hb dX2_init_21 rfl ?_
  refine r_icmp_ge (tgt := 45) hx hb dX2_init_23 (by decide) (inI_mk rfl) (inI_mk rfl) (fun n => absurd n (by decide)) (fun _ => ?_)
  refine lv_aload_n hx hb dX2_init_26 rfl (lv_at hl 1 rfl) ?_
  refine k_get (k := 0) (ci := 2) (fs := [.ref (q + 1), .int (iI 0)]) (v := .ref (q + 1)) (C := RX2) (T := TX2) (N := 2) hx hb hts in2 hown hK hF rfl rfl 0 (by decide) (hts (.fieldLink RX2 11 "BeamLines$History" "beams" "[LBeamLines$Beam;") (by decide +kernel)) (fun _ h9 => h9) rfl dX2_init_27 ?_
  refine lv_iload_n hx hb dX2_init_30 rfl (lv_at hl 0 rfl) ?_
  refine k_new (k := 67) (ci := 0) (fs := [.int 0, .int 0, .null, .null, .null, .null]) (C := RX0) (T := TX0) (N := 6) hx hb hts in0 tyX0 tyX0_ok hown (hts (.classLink RX2 9 RX0) (by decide +kernel)) (hts (.instantiable RX0 6) (by decide +kernel)) (hts (.initialized RX0) (by decide +kernel)) hK hF hs rfl (fun j hj => match j, hj with | 0, _ => rfl | 1, _ => rfl | 2, _ => rfl | 3, _ => rfl | 4, _ => rfl | 5, _ => rfl | j + 6, h9 => absurd h9 (Nat.not_lt.mpr (Nat.le_add_left _ _))) hS (Nat.le_of_ble_eq_true rfl) (Nat.le_of_ble_eq_true rfl) dX2_init_31 (fun H hF hP hs hS => ?_)
  refine lv_dup hx hb dX2_init_34 rfl ?_
  refine k_call (k := 67) (va_runIN (As := []) (rest := [.ref (q + 67), .int (iI 5), .ref (q + 1)]) ⟨hx, hb, hml, hown, hts⟩ (mk_X0_init l D ct (q + 67)) ⟨va_cnB 0 hts gX2_init_X0_init_n21 rfl rfl rfl (hW9.2.2 (RX2, 21, yX0_init) (by decide +kernel)) (hts (.initialized RX0) (by decide +kernel)) (by decide +kernel) ⟨Nat.le_of_ble_eq_true rfl, Nat.le_of_ble_eq_true rfl⟩, rfl, hts (.instanceMethod yX0_init) (by decide +kernel)⟩ (k_pre hK hW9 hs hP _) rfl rfl hl.1 rfl (lv_room (Nat.le_of_ble_eq_true rfl)) dX2_init_35 ⟨Nat.le_of_ble_eq_true rfl, Nat.le_of_ble_eq_true rfl⟩) hF hs hS (fun a h9 => Or.inr (Nat.le_trans (Nat.add_le_add_left (by decide) q) h9)) ⟨_, rfl⟩ (fun H locs hF hs hS => ?_)
  refine k_aast (k := 1) (k2 := 67) (n := 8) (N' := 80) (ct := ct) hx hb hK hF rfl rfl hs hS (Or.inr (Nat.add_le_add_left (by decide) q)) (iI_in3 (by decide) (by decide) (by decide)) dX2_init_38 (fun H locs hF hs hS => ?_)
  refine lv_iinc (v := iI 6) (lv' := [(1, .int (iI 6)), (0, .ref q)]) hx hb dX2_init_39 hl (k := 0) rfl (iI_add _ _) (by decide) rfl (fun ls hl => ?_)
  refine lv_goto (tgt := 20) hx hb dX2_init_42 (by decide) ?_
  refine lv_iload_n hx hb dX2_init_20 rfl (lv_at hl 0 rfl) ?_
  refine r_bipush (n := 8) hx hb dX2_init_21 rfl ?_
  refine r_icmp_ge (tgt := 45) hx hb dX2_init_23 (by decide) (inI_mk rfl) (inI_mk rfl) (fun n => absurd n (by decide)) (fun _ => ?_)
  refine lv_aload_n hx hb dX2_init_26 rfl (lv_at hl 1 rfl) ?_
  refine k_get (k := 0) (ci := 2) (fs := [.ref (q + 1), .int (iI 0)]) (v := .ref (q + 1)) (C := RX2) (T := TX2) (N := 2) hx hb hts in2 hown hK hF rfl rfl 0 (by decide) (hts (.fieldLink RX2 11 "BeamLines$History" "beams" "[LBeamLines$Beam;") (by decide +kernel)) (fun _ h9 => h9) rfl dX2_init_27 ?_
  refine lv_iload_n hx hb dX2_init_30 rfl (lv_at hl 0 rfl) ?_
  refine k_new (k := 80) (ci := 0) (fs := [.int 0, .int 0, .null, .null, .null, .null]) (C := RX0) (T := TX0) (N := 6) hx hb hts in0 tyX0 tyX0_ok hown (hts (.classLink RX2 9 RX0) (by decide +kernel)) (hts (.instantiable RX0 6) (by decide +kernel)) (hts (.initialized RX0) (by decide +kernel)) hK hF hs rfl (fun j hj => match j, hj with | 0, _ => rfl | 1, _ => rfl | 2, _ => rfl | 3, _ => rfl | 4, _ => rfl | 5, _ => rfl | j + 6, h9 => absurd h9 (Nat.not_lt.mpr (Nat.le_add_left _ _))) hS (Nat.le_of_ble_eq_true rfl) (Nat.le_of_ble_eq_true rfl) dX2_init_31 (fun H hF hP hs hS => ?_)
  refine lv_dup hx hb dX2_init_34 rfl ?_
  refine k_call (k := 80) (va_runIN (As := []) (rest := [.ref (q + 80), .int (iI 6), .ref (q + 1)]) ⟨hx, hb, hml, hown, hts⟩ (mk_X0_init l D ct (q + 80)) ⟨va_cnB 0 hts gX2_init_X0_init_n21 rfl rfl rfl (hW9.2.2 (RX2, 21, yX0_init) (by decide +kernel)) (hts (.initialized RX0) (by decide +kernel)) (by decide +kernel) ⟨Nat.le_of_ble_eq_true rfl, Nat.le_of_ble_eq_true rfl⟩, rfl, hts (.instanceMethod yX0_init) (by decide +kernel)⟩ (k_pre hK hW9 hs hP _) rfl rfl hl.1 rfl (lv_room (Nat.le_of_ble_eq_true rfl)) dX2_init_35 ⟨Nat.le_of_ble_eq_true rfl, Nat.le_of_ble_eq_true rfl⟩) hF hs hS (fun a h9 => Or.inr (Nat.le_trans (Nat.add_le_add_left (by decide) q) h9)) ⟨_, rfl⟩ (fun H locs hF hs hS => ?_)
  refine k_aast (k := 1) (k2 := 80) (n := 8) (N' := 93) (ct := ct) hx hb hK hF rfl rfl hs hS (Or.inr (Nat.add_le_add_left (by decide) q)) (iI_in3 (by decide) (by decide) (by decide)) dX2_init_38 (fun H locs hF hs hS => ?_)
  refine lv_iinc (v := iI 7) (lv' := [(1, .int (iI 7)), (0, .ref q)]) hx hb dX2_init_39 hl (k := 0) rfl (iI_add _ _) (by decide) rfl (fun ls hl => ?_)
  refine lv_goto (tgt := 20) hx hb dX2_init_42 (by decide) ?_
  refine lv_iload_n hx hb dX2_init_20 rfl (lv_at hl 0 rfl) ?_
  refine r_bipush (n := 8) hx hb dX2_init_21 rfl ?_
  refine r_icmp_ge (tgt := 45) hx hb dX2_init_23 (by decide) (inI_mk rfl) (inI_mk rfl) (fun n => absurd n (by decide)) (fun _ => ?_)
  refine lv_aload_n hx hb dX2_init_26 rfl (lv_at hl 1 rfl) ?_
  refine k_get (k := 0) (ci := 2) (fs := [.ref (q + 1), .int (iI 0)]) (v := .ref (q + 1)) (C := RX2) (T := TX2) (N := 2) hx hb hts in2 hown hK hF rfl rfl 0 (by decide) (hts (.fieldLink RX2 11 "BeamLines$History" "beams" "[LBeamLines$Beam;") (by decide +kernel)) (fun _ h9 => h9) rfl dX2_init_27 ?_
  refine lv_iload_n hx hb dX2_init_30 rfl (lv_at hl 0 rfl) ?_
  refine k_new (k := 93) (ci := 0) (fs := [.int 0, .int 0, .null, .null, .null, .null]) (C := RX0) (T := TX0) (N := 6) hx hb hts in0 tyX0 tyX0_ok hown (hts (.classLink RX2 9 RX0) (by decide +kernel)) (hts (.instantiable RX0 6) (by decide +kernel)) (hts (.initialized RX0) (by decide +kernel)) hK hF hs rfl (fun j hj => match j, hj with | 0, _ => rfl | 1, _ => rfl | 2, _ => rfl | 3, _ => rfl | 4, _ => rfl | 5, _ => rfl | j + 6, h9 => absurd h9 (Nat.not_lt.mpr (Nat.le_add_left _ _))) hS (Nat.le_of_ble_eq_true rfl) (Nat.le_of_ble_eq_true rfl) dX2_init_31 (fun H hF hP hs hS => ?_)
  refine lv_dup hx hb dX2_init_34 rfl ?_
  refine k_call (k := 93) (va_runIN (As := []) (rest := [.ref (q + 93), .int (iI 7), .ref (q + 1)]) ⟨hx, hb, hml, hown, hts⟩ (mk_X0_init l D ct (q + 93)) ⟨va_cnB 0 hts gX2_init_X0_init_n21 rfl rfl rfl (hW9.2.2 (RX2, 21, yX0_init) (by decide +kernel)) (hts (.initialized RX0) (by decide +kernel)) (by decide +kernel) ⟨Nat.le_of_ble_eq_true rfl, Nat.le_of_ble_eq_true rfl⟩, rfl, hts (.instanceMethod yX0_init) (by decide +kernel)⟩ (k_pre hK hW9 hs hP _) rfl rfl hl.1 rfl (lv_room (Nat.le_of_ble_eq_true rfl)) dX2_init_35 ⟨Nat.le_of_ble_eq_true rfl, Nat.le_of_ble_eq_true rfl⟩) hF hs hS (fun a h9 => Or.inr (Nat.le_trans (Nat.add_le_add_left (by decide) q) h9)) ⟨_, rfl⟩ (fun H locs hF hs hS => ?_)
  refine k_aast (k := 1) (k2 := 93) (n := 8) (N' := 106) (ct := ct) hx hb hK hF rfl rfl hs hS (Or.inr (Nat.add_le_add_left (by decide) q)) (iI_in3 (by decide) (by decide) (by decide)) dX2_init_38 (fun H locs hF hs hS => ?_)
  refine lv_iinc (v := iI 8) (lv' := [(1, .int (iI 8)), (0, .ref q)]) hx hb dX2_init_39 hl (k := 0) rfl (iI_add _ _) (by decide) rfl (fun ls hl => ?_)
  refine lv_goto (tgt := 20) hx hb dX2_init_42 (by decide) ?_
  refine lv_iload_n hx hb dX2_init_20 rfl (lv_at hl 0 rfl) ?_
  refine r_bipush (n := 8) hx hb dX2_init_21 rfl ?_
  refine r_icmp_ge (tgt := 45) hx hb dX2_init_23 (by decide) (inI_mk rfl) (inI_mk rfl) (fun _ => ?_) (fun n => absurd (by decide) n)
  exact k_ret hx hb hr hlocks hK hF hs hS dX2_init_45
def g_X3_init (ct : Nat → ClassId) (q : Nat) : Nat → Option va_E := upO (upO (upO (upO (mulO (upO (mulO (upO noO 0 (.inr (3, [.null, .null, .int 0, .int 0, .long 0]))) q 1 (ct 5) (ct 1) 10) 0 (.inr (3, [.ref (q + 1), .null, .int 0, .int 0, .long 0]))) q 7 (ct 5) (ct 1) 31) 0 (.inr (3, [.ref (q + 1), .ref (q + 7), .int 0, .int 0, .long 0]))) 0 (.inr (3, [.ref (q + 1), .ref (q + 7), .int (iI 0), .int 0, .long 0]))) 0 (.inr (3, [.ref (q + 1), .ref (q + 7), .int (iI 0), .int (iI 0), .long 0]))) 0 (.inr (3, [.ref (q + 1), .ref (q + 7), .int (iI 0), .int (iI 0), .long (lI 1)]))
set_option maxHeartbeats 4000000 in
set_option maxRecDepth 100000 in
theorem mk_X3_init (l : Launch) (D : va_G) (ct : Nat → ClassId) (q : Nat) : Met l yX3_init wsX3_init ({ frames := 1, cells := 12, slots := 215, locals := 20 }) (PcI D ct q (.inr (3, [.null, .null, .int 0, .int 0, .long 0])) [.ref q]) (QcI D ct q 13 (g_X3_init ct q)) 12 215 (RC q (q + 1)) := by
  refine Met.ofW (cc := cX3_init) (maxL := 1) (ret := none) (by decide) rfl ?_
  intro p e s m args below meth c s₁ B hml hvv
  obtain ⟨rfl, hs, hP0, hK, hW9⟩ := hvv
  have hx := B.exec
  have hb := B.bytes
  have hr := B.returns
  have hts := atoms_spec (ws := wsX3_init) B.pre
  have hown : s.vm.findClass RX3 = some m.cls := findClass_of_methodNamed B.named
  have hlocks := B.notSynchronized
  have hin2 : meth.name = "<init>" := (name_of_methodNamed B.named B.method).1
  have hS : va_S (RC q (q + 1)) s.heap s.heap [] := va_S.rf
  have hF := HPo.one hP0
  have in3 : ∀ w ∈ wsX30, w ∈ wsX3_init := by decide +kernel
  have hl := lv_entry ([.ref q]) (n := 1) (Nat.le_of_ble_eq_true rfl)
  rw [lg_entry_eq]
  generalize (lg_sl ([.ref q]) ++ List.replicate (1 - (lg_sl ([.ref q])).length) Slot.unset).toArray = ls at hl ⊢
  have hl : lv_has ls 1 [(0, .ref q)] := hl
  refine lv_aload_n hx hb dX3_init_0 rfl (lv_at hl 0 rfl) ?_
  refine W.objInit hx hb hown (hts (.methodLink RX3 3 objectInit) (by decide +kernel)) (hts (.instanceMethod objectInit) (by decide +kernel)) (hts (.code objectInit ⟨#[0xb1]⟩ 1 none) (List.mem_cons_of_mem _ (List.mem_of_getElem? (i := 2) rfl))) rfl (by rw [hml]; exact hl.1) rfl dX3_init_1 (Nat.le_of_ble_eq_true rfl) (Nat.le_of_ble_eq_true rfl) ?_
  refine W.eq (g2 := F0 m 4 ls []) rfl ?_
  refine lv_aload_n hx hb dX3_init_4 rfl (lv_at hl 0 rfl) ?_
  refine r_iconst (n := 5) hx hb dX3_init_5 ?_
  refine r_bipush (n := 10) hx hb dX3_init_6 rfl ?_
  refine k_multi (w := iI 10) (k := 1) (w' := 10) (cO := ct 5) (cI := ct 1) hx hb hown (hts (.classLink RX3 9 "[[J") (by decide +kernel)) (va_AOA.use hW9.2.1) (hts (.arrayClass .long) (by decide +kernel)) hF hs hS (hK.2 5 _ rfl).2 (hK.2 1 _ rfl).2 (by decide) (by decide) (by decide) (Nat.le_of_ble_eq_true rfl) (Nat.le_of_ble_eq_true rfl) dX3_init_8 (fun H hF hs hS => ?_)
  refine k_put (k := 0) (N' := 7) (ci := 3) (fs := [.null, .null, .int 0, .int 0, .long 0]) (v := .ref (q + 1)) (ty := (.array (.array .long))) (C := RX3) (T := TX3) (N := 5) hx hb hts in3 tyX3 tyX3_ok nmX3 hown hK hF rfl rfl 0 (by decide) (hts (.fieldLink RX3 11 "BeamLines$Lines" "matrix" "[[J") (by decide +kernel)) (fun _ h9 => h9) (Or.inr ⟨rfl, hin2, rfl⟩) (by decide +kernel) rfl rfl (Nat.le_of_ble_eq_true rfl) hs hS (Or.inl rfl) dX3_init_12 (fun H locs hF hs hS => ?_)
  refine lv_aload_n hx hb dX3_init_15 rfl (lv_at hl 0 rfl) ?_
  refine r_iconst (n := 5) hx hb dX3_init_16 ?_
  refine r_bipush (n := 31) hx hb dX3_init_17 rfl ?_
  refine k_multi (w := iI 31) (k := 7) (w' := 31) (cO := ct 5) (cI := ct 1) hx hb hown (hts (.classLink RX3 9 "[[J") (by decide +kernel)) (va_AOA.use hW9.2.1) (hts (.arrayClass .long) (by decide +kernel)) hF hs hS (hK.2 5 _ rfl).2 (hK.2 1 _ rfl).2 (by decide) (by decide) (by decide) (Nat.le_of_ble_eq_true rfl) (Nat.le_of_ble_eq_true rfl) dX3_init_19 (fun H hF hs hS => ?_)
  refine k_put (k := 0) (N' := 13) (ci := 3) (fs := [.ref (q + 1), .null, .int 0, .int 0, .long 0]) (v := .ref (q + 7)) (ty := (.array (.array .long))) (C := RX3) (T := TX3) (N := 5) hx hb hts in3 tyX3 tyX3_ok nmX3 hown hK hF rfl rfl 1 (by decide) (hts (.fieldLink RX3 16 "BeamLines$Lines" "line" "[[J") (by decide +kernel)) (fun _ h9 => h9) (Or.inr ⟨rfl, hin2, rfl⟩) (by decide +kernel) rfl rfl (Nat.le_of_ble_eq_true rfl) hs hS (Or.inl rfl) dX3_init_23 (fun H locs hF hs hS => ?_)
  refine lv_aload_n hx hb dX3_init_26 rfl (lv_at hl 0 rfl) ?_
  refine r_iconst (n := 0) hx hb dX3_init_27 ?_
  refine k_put (k := 0) (N' := 13) (ci := 3) (fs := [.ref (q + 1), .ref (q + 7), .int 0, .int 0, .long 0]) (v := .int (iI 0)) (ty := .int) (C := RX3) (T := TX3) (N := 5) hx hb hts in3 tyX3 tyX3_ok nmX3 hown hK hF rfl rfl 2 (by decide) (hts (.fieldLink RX3 19 "BeamLines$Lines" "size" "I") (by decide +kernel)) (fun _ h9 => h9) (Or.inl rfl) (by decide +kernel) rfl rfl (Nat.le_of_ble_eq_true rfl) hs hS (Or.inl rfl) dX3_init_28 (fun H locs hF hs hS => ?_)
  refine lv_aload_n hx hb dX3_init_31 rfl (lv_at hl 0 rfl) ?_
  refine r_iconst (n := 0) hx hb dX3_init_32 ?_
  refine k_put (k := 0) (N' := 13) (ci := 3) (fs := [.ref (q + 1), .ref (q + 7), .int (iI 0), .int 0, .long 0]) (v := .int (iI 0)) (ty := .int) (C := RX3) (T := TX3) (N := 5) hx hb hts in3 tyX3 tyX3_ok nmX3 hown hK hF rfl rfl 3 (by decide) (hts (.fieldLink RX3 23 "BeamLines$Lines" "places" "I") (by decide +kernel)) (fun _ h9 => h9) (Or.inl rfl) (by decide +kernel) rfl rfl (Nat.le_of_ble_eq_true rfl) hs hS (Or.inl rfl) dX3_init_33 (fun H locs hF hs hS => ?_)
  refine lv_aload_n hx hb dX3_init_36 rfl (lv_at hl 0 rfl) ?_
  refine r_lconst (z := 1) hx hb dX3_init_37 rfl ?_
  refine k_put (k := 0) (N' := 13) (ci := 3) (fs := [.ref (q + 1), .ref (q + 7), .int (iI 0), .int (iI 0), .long 0]) (v := .long (lI 1)) (ty := .long) (C := RX3) (T := TX3) (N := 5) hx hb hts in3 tyX3 tyX3_ok nmX3 hown hK hF rfl rfl 4 (by decide) (hts (.fieldLink RX3 26 "BeamLines$Lines" "common" "J") (by decide +kernel)) (fun _ h9 => h9) (Or.inl rfl) (by decide +kernel) rfl rfl (Nat.le_of_ble_eq_true rfl) hs hS (Or.inl rfl) dX3_init_38 (fun H locs hF hs hS => ?_)
  exact k_ret hx hb hr hlocks hK hF hs hS dX3_init_41
def g_X4_init (ct : Nat → ClassId) (q : Nat) : Nat → Option va_E := upO (upO (upO noO 0 (.inr (4, [.long 0, .int 0]))) 0 (.inr (4, [.long (lI 0), .int 0]))) 0 (.inr (4, [.long (lI 0), .int (iI 0)]))
set_option maxHeartbeats 4000000 in
set_option maxRecDepth 100000 in
theorem mk_X4_init (l : Launch) (D : va_G) (ct : Nat → ClassId) (q : Nat) : Met l yX4_init wsX4_init ({ frames := 1, cells := 0, slots := 0, locals := 20 }) (PcI D ct q (.inr (4, [.long 0, .int 0])) [.ref q]) (QcI D ct q 1 (g_X4_init ct q)) 0 0 (RC q (q + 1)) := by
  refine Met.ofW (cc := cX4_init) (maxL := 1) (ret := none) (by decide) rfl ?_
  intro p e s m args below meth c s₁ B hml hvv
  obtain ⟨rfl, hs, hP0, hK, hW9⟩ := hvv
  have hx := B.exec
  have hb := B.bytes
  have hr := B.returns
  have hts := atoms_spec (ws := wsX4_init) B.pre
  have hown : s.vm.findClass RX4 = some m.cls := findClass_of_methodNamed B.named
  have hlocks := B.notSynchronized
  have hin2 : meth.name = "<init>" := (name_of_methodNamed B.named B.method).1
  have hS : va_S (RC q (q + 1)) s.heap s.heap [] := va_S.rf
  have hF := HPo.one hP0
  have in4 : ∀ w ∈ wsX40, w ∈ wsX4_init := by decide +kernel
  have hl := lv_entry ([.ref q]) (n := 1) (Nat.le_of_ble_eq_true rfl)
  rw [lg_entry_eq]
  generalize (lg_sl ([.ref q]) ++ List.replicate (1 - (lg_sl ([.ref q])).length) Slot.unset).toArray = ls at hl ⊢
  have hl : lv_has ls 1 [(0, .ref q)] := hl
  refine lv_aload_n hx hb dX4_init_0 rfl (lv_at hl 0 rfl) ?_
  refine W.objInit hx hb hown (hts (.methodLink RX4 1 objectInit) (by decide +kernel)) (hts (.instanceMethod objectInit) (by decide +kernel)) (hts (.code objectInit ⟨#[0xb1]⟩ 1 none) (List.mem_cons_of_mem _ (List.mem_of_getElem? (i := 2) rfl))) rfl (by rw [hml]; exact hl.1) rfl dX4_init_1 (Nat.le_of_ble_eq_true rfl) (Nat.le_of_ble_eq_true rfl) ?_
  refine W.eq (g2 := F0 m 4 ls []) rfl ?_
  refine lv_aload_n hx hb dX4_init_4 rfl (lv_at hl 0 rfl) ?_
  refine r_lconst (z := 0) hx hb dX4_init_5 rfl ?_
  refine k_put (k := 0) (N' := 1) (ci := 4) (fs := [.long 0, .int 0]) (v := .long (lI 0)) (ty := .long) (C := RX4) (T := TX4) (N := 2) hx hb hts in4 tyX4 tyX4_ok nmX4 hown hK hF rfl rfl 0 (by decide) (hts (.fieldLink RX4 7 "BeamLines$Peak" "size" "J") (by decide +kernel)) (fun _ h9 => h9) (Or.inl rfl) (by decide +kernel) rfl rfl (Nat.le_of_ble_eq_true rfl) hs hS (Or.inl rfl) dX4_init_6 (fun H locs hF hs hS => ?_)
  refine lv_aload_n hx hb dX4_init_9 rfl (lv_at hl 0 rfl) ?_
  refine r_iconst (n := 0) hx hb dX4_init_10 ?_
  refine k_put (k := 0) (N' := 1) (ci := 4) (fs := [.long (lI 0), .int 0]) (v := .int (iI 0)) (ty := .int) (C := RX4) (T := TX4) (N := 2) hx hb hts in4 tyX4 tyX4_ok nmX4 hown hK hF rfl rfl 1 (by decide) (hts (.fieldLink RX4 13 "BeamLines$Peak" "place" "I") (by decide +kernel)) (fun _ h9 => h9) (Or.inl rfl) (by decide +kernel) rfl rfl (Nat.le_of_ble_eq_true rfl) hs hS (Or.inl rfl) dX4_init_11 (fun H locs hF hs hS => ?_)
  exact k_ret hx hb hr hlocks hK hF hs hS dX4_init_14
def g_X7_init (ct : Nat → ClassId) (q : Nat) : Nat → Option va_E := upO (upO (upO (upO (upO (upO (upO (upO (upO (upO (upO (upO (upO noO 0 (.inr (7, [.null, .int 0, .null, .null, .null, .null, .int 0]))) 1 (.inl (ct 2, (500, .inl (fun _ => 0))))) 0 (.inr (7, [.ref (q + 1), .int 0, .null, .null, .null, .null, .int 0]))) 0 (.inr (7, [.ref (q + 1), .int (iI 0), .null, .null, .null, .null, .int 0]))) 2 (.inl (ct 0, (500, .inl (fun _ => 0))))) 0 (.inr (7, [.ref (q + 1), .int (iI 0), .ref (q + 2), .null, .null, .null, .int 0]))) 3 (.inl (ct 0, (500, .inl (fun _ => 0))))) 0 (.inr (7, [.ref (q + 1), .int (iI 0), .ref (q + 2), .ref (q + 3), .null, .null, .int 0]))) 4 (.inl (ct 0, (500, .inl (fun _ => 0))))) 0 (.inr (7, [.ref (q + 1), .int (iI 0), .ref (q + 2), .ref (q + 3), .ref (q + 4), .null, .int 0]))) 5 (.inl (ct 0, (500, .inl (fun _ => 0))))) 0 (.inr (7, [.ref (q + 1), .int (iI 0), .ref (q + 2), .ref (q + 3), .ref (q + 4), .ref (q + 5), .int 0]))) 0 (.inr (7, [.ref (q + 1), .int (iI 0), .ref (q + 2), .ref (q + 3), .ref (q + 4), .ref (q + 5), .int (iI 0)]))
set_option maxHeartbeats 4000000 in
set_option maxRecDepth 100000 in
theorem mk_X7_init (l : Launch) (D : va_G) (ct : Nat → ClassId) (q : Nat) : Met l yX7_init wsX7_init ({ frames := 1, cells := 5, slots := 2500, locals := 20 }) (PcI D ct q (.inr (7, [.null, .int 0, .null, .null, .null, .null, .int 0])) [.ref q]) (QcI D ct q 6 (g_X7_init ct q)) 5 2500 (RC q (q + 1)) := by
  refine Met.ofW (cc := cX7_init) (maxL := 1) (ret := none) (by decide) rfl ?_
  intro p e s m args below meth c s₁ B hml hvv
  obtain ⟨rfl, hs, hP0, hK, hW9⟩ := hvv
  have hx := B.exec
  have hb := B.bytes
  have hr := B.returns
  have hts := atoms_spec (ws := wsX7_init) B.pre
  have hown : s.vm.findClass RX7 = some m.cls := findClass_of_methodNamed B.named
  have hlocks := B.notSynchronized
  have hin2 : meth.name = "<init>" := (name_of_methodNamed B.named B.method).1
  have hS : va_S (RC q (q + 1)) s.heap s.heap [] := va_S.rf
  have hF := HPo.one hP0
  have in7 : ∀ w ∈ wsX70, w ∈ wsX7_init := by decide +kernel
  have hl := lv_entry ([.ref q]) (n := 1) (Nat.le_of_ble_eq_true rfl)
  rw [lg_entry_eq]
  generalize (lg_sl ([.ref q]) ++ List.replicate (1 - (lg_sl ([.ref q])).length) Slot.unset).toArray = ls at hl ⊢
  have hl : lv_has ls 1 [(0, .ref q)] := hl
  refine lv_aload_n hx hb dX7_init_0 rfl (lv_at hl 0 rfl) ?_
  refine W.objInit hx hb hown (hts (.methodLink RX7 3 objectInit) (by decide +kernel)) (hts (.instanceMethod objectInit) (by decide +kernel)) (hts (.code objectInit ⟨#[0xb1]⟩ 1 none) (List.mem_cons_of_mem _ (List.mem_of_getElem? (i := 2) rfl))) rfl (by rw [hml]; exact hl.1) rfl dX7_init_1 (Nat.le_of_ble_eq_true rfl) (Nat.le_of_ble_eq_true rfl) ?_
  refine W.eq (g2 := F0 m 4 ls []) rfl ?_
  refine lv_aload_n hx hb dX7_init_4 rfl (lv_at hl 0 rfl) ?_
  refine r_sipush (n := 500) hx hb dX7_init_5 rfl ?_
  refine k_newa (atype := .char) (n := iI 500) (k := 1) (N' := 500) (a0 := (500, .inl (fun _ => 0))) (cA := ct 2) hx hb (hts (.arrayClass .char) (by decide +kernel)) hF hs hS (hK.2 2 _ rfl).2 (vp_cell_i _ _ _) (by decide) rfl (show 500 * 2 ≤ 536870912 from Nat.le_of_ble_eq_true rfl) (Nat.le_of_ble_eq_true rfl) (Nat.le_of_ble_eq_true rfl) dX7_init_8 (fun H hF hs hS => ?_)
  refine k_put (k := 0) (N' := 2) (ci := 7) (fs := [.null, .int 0, .null, .null, .null, .null, .int 0]) (v := .ref (q + 1)) (ty := (.array .char)) (C := RX7) (T := TX7) (N := 7) hx hb hts in7 tyX7 tyX7_ok nmX7 hown hK hF rfl rfl 0 (by decide) (hts (.fieldLink RX7 9 "BeamLines$Text" "bytes" "[C") (by decide +kernel)) (fun _ h9 => h9) (Or.inr ⟨rfl, hin2, rfl⟩) (by decide +kernel) rfl rfl (Nat.le_of_ble_eq_true rfl) hs hS (Or.inl rfl) dX7_init_10 (fun H locs hF hs hS => ?_)
  refine lv_aload_n hx hb dX7_init_13 rfl (lv_at hl 0 rfl) ?_
  refine r_iconst (n := 0) hx hb dX7_init_14 ?_
  refine k_put (k := 0) (N' := 2) (ci := 7) (fs := [.ref (q + 1), .int 0, .null, .null, .null, .null, .int 0]) (v := .int (iI 0)) (ty := .int) (C := RX7) (T := TX7) (N := 7) hx hb hts in7 tyX7 tyX7_ok nmX7 hown hK hF rfl rfl 1 (by decide) (hts (.fieldLink RX7 15 "BeamLines$Text" "length" "I") (by decide +kernel)) (fun _ h9 => h9) (Or.inl rfl) (by decide +kernel) rfl rfl (Nat.le_of_ble_eq_true rfl) hs hS (Or.inl rfl) dX7_init_15 (fun H locs hF hs hS => ?_)
  refine lv_aload_n hx hb dX7_init_18 rfl (lv_at hl 0 rfl) ?_
  refine r_sipush (n := 500) hx hb dX7_init_19 rfl ?_
  refine k_newa (atype := .int) (n := iI 500) (k := 2) (N' := 500) (a0 := (500, .inl (fun _ => 0))) (cA := ct 0) hx hb (hts (.arrayClass .int) (by decide +kernel)) hF hs hS (hK.2 0 _ rfl).2 (vp_cell_i _ _ _) (by decide) rfl (show 500 * 4 ≤ 536870912 from Nat.le_of_ble_eq_true rfl) (Nat.le_of_ble_eq_true rfl) (Nat.le_of_ble_eq_true rfl) dX7_init_22 (fun H hF hs hS => ?_)
  refine k_put (k := 0) (N' := 3) (ci := 7) (fs := [.ref (q + 1), .int (iI 0), .null, .null, .null, .null, .int 0]) (v := .ref (q + 2)) (ty := (.array .int)) (C := RX7) (T := TX7) (N := 7) hx hb hts in7 tyX7 tyX7_ok nmX7 hown hK hF rfl rfl 2 (by decide) (hts (.fieldLink RX7 19 "BeamLines$Text" "kinds" "[I") (by decide +kernel)) (fun _ h9 => h9) (Or.inr ⟨rfl, hin2, rfl⟩) (by decide +kernel) rfl rfl (Nat.le_of_ble_eq_true rfl) hs hS (Or.inl rfl) dX7_init_24 (fun H locs hF hs hS => ?_)
  refine lv_aload_n hx hb dX7_init_27 rfl (lv_at hl 0 rfl) ?_
  refine r_sipush (n := 500) hx hb dX7_init_28 rfl ?_
  refine k_newa (atype := .int) (n := iI 500) (k := 3) (N' := 500) (a0 := (500, .inl (fun _ => 0))) (cA := ct 0) hx hb (hts (.arrayClass .int) (by decide +kernel)) hF hs hS (hK.2 0 _ rfl).2 (vp_cell_i _ _ _) (by decide) rfl (show 500 * 4 ≤ 536870912 from Nat.le_of_ble_eq_true rfl) (Nat.le_of_ble_eq_true rfl) (Nat.le_of_ble_eq_true rfl) dX7_init_31 (fun H hF hs hS => ?_)
  refine k_put (k := 0) (N' := 4) (ci := 7) (fs := [.ref (q + 1), .int (iI 0), .ref (q + 2), .null, .null, .null, .int 0]) (v := .ref (q + 3)) (ty := (.array .int)) (C := RX7) (T := TX7) (N := 7) hx hb hts in7 tyX7 tyX7_ok nmX7 hown hK hF rfl rfl 3 (by decide) (hts (.fieldLink RX7 23 "BeamLines$Text" "starts" "[I") (by decide +kernel)) (fun _ h9 => h9) (Or.inr ⟨rfl, hin2, rfl⟩) (by decide +kernel) rfl rfl (Nat.le_of_ble_eq_true rfl) hs hS (Or.inl rfl) dX7_init_33 (fun H locs hF hs hS => ?_)
  refine lv_aload_n hx hb dX7_init_36 rfl (lv_at hl 0 rfl) ?_
  refine r_sipush (n := 500) hx hb dX7_init_37 rfl ?_
  refine k_newa (atype := .int) (n := iI 500) (k := 4) (N' := 500) (a0 := (500, .inl (fun _ => 0))) (cA := ct 0) hx hb (hts (.arrayClass .int) (by decide +kernel)) hF hs hS (hK.2 0 _ rfl).2 (vp_cell_i _ _ _) (by decide) rfl (show 500 * 4 ≤ 536870912 from Nat.le_of_ble_eq_true rfl) (Nat.le_of_ble_eq_true rfl) (Nat.le_of_ble_eq_true rfl) dX7_init_40 (fun H hF hs hS => ?_)
  refine k_put (k := 0) (N' := 5) (ci := 7) (fs := [.ref (q + 1), .int (iI 0), .ref (q + 2), .ref (q + 3), .null, .null, .int 0]) (v := .ref (q + 4)) (ty := (.array .int)) (C := RX7) (T := TX7) (N := 7) hx hb hts in7 tyX7 tyX7_ok nmX7 hown hK hF rfl rfl 4 (by decide) (hts (.fieldLink RX7 26 "BeamLines$Text" "ends" "[I") (by decide +kernel)) (fun _ h9 => h9) (Or.inr ⟨rfl, hin2, rfl⟩) (by decide +kernel) rfl rfl (Nat.le_of_ble_eq_true rfl) hs hS (Or.inl rfl) dX7_init_42 (fun H locs hF hs hS => ?_)
  refine lv_aload_n hx hb dX7_init_45 rfl (lv_at hl 0 rfl) ?_
  refine r_sipush (n := 500) hx hb dX7_init_46 rfl ?_
  refine k_newa (atype := .int) (n := iI 500) (k := 5) (N' := 500) (a0 := (500, .inl (fun _ => 0))) (cA := ct 0) hx hb (hts (.arrayClass .int) (by decide +kernel)) hF hs hS (hK.2 0 _ rfl).2 (vp_cell_i _ _ _) (by decide) rfl (show 500 * 4 ≤ 536870912 from Nat.le_of_ble_eq_true rfl) (Nat.le_of_ble_eq_true rfl) (Nat.le_of_ble_eq_true rfl) dX7_init_49 (fun H hF hs hS => ?_)
  refine k_put (k := 0) (N' := 6) (ci := 7) (fs := [.ref (q + 1), .int (iI 0), .ref (q + 2), .ref (q + 3), .ref (q + 4), .null, .int 0]) (v := .ref (q + 5)) (ty := (.array .int)) (C := RX7) (T := TX7) (N := 7) hx hb hts in7 tyX7 tyX7_ok nmX7 hown hK hF rfl rfl 5 (by decide) (hts (.fieldLink RX7 29 "BeamLines$Text" "values" "[I") (by decide +kernel)) (fun _ h9 => h9) (Or.inr ⟨rfl, hin2, rfl⟩) (by decide +kernel) rfl rfl (Nat.le_of_ble_eq_true rfl) hs hS (Or.inl rfl) dX7_init_51 (fun H locs hF hs hS => ?_)
  refine lv_aload_n hx hb dX7_init_54 rfl (lv_at hl 0 rfl) ?_
  refine r_iconst (n := 0) hx hb dX7_init_55 ?_
  refine k_put (k := 0) (N' := 6) (ci := 7) (fs := [.ref (q + 1), .int (iI 0), .ref (q + 2), .ref (q + 3), .ref (q + 4), .ref (q + 5), .int 0]) (v := .int (iI 0)) (ty := .int) (C := RX7) (T := TX7) (N := 7) hx hb hts in7 tyX7 tyX7_ok nmX7 hown hK hF rfl rfl 6 (by decide) (hts (.fieldLink RX7 32 "BeamLines$Text" "tokens" "I") (by decide +kernel)) (fun _ h9 => h9) (Or.inl rfl) (by decide +kernel) rfl rfl (Nat.le_of_ble_eq_true rfl) hs hS (Or.inl rfl) dX7_init_56 (fun H locs hF hs hS => ?_)
  exact k_ret hx hb hr hlocks hK hF hs hS dX7_init_59
def g_X5_init (ct : Nat → ClassId) (q : Nat) : Nat → Option va_E := upO (upO (upO (upO (orO (upO (upO (orO (upO (upO noO 0 (.inr (5, [.null, .null, .int 0, .int 0, .int 0]))) 1 (.inr (7, [.null, .int 0, .null, .null, .null, .null, .int 0]))) 1 (g_X7_init ct (q + 1))) 0 (.inr (5, [.ref (q + 1), .null, .int 0, .int 0, .int 0]))) 7 (.inr (0, [.int 0, .int 0, .null, .null, .null, .null]))) 7 (g_X0_init ct (q + 7))) 0 (.inr (5, [.ref (q + 1), .ref (q + 7), .int 0, .int 0, .int 0]))) 0 (.inr (5, [.ref (q + 1), .ref (q + 7), .int (iI 0), .int 0, .int 0]))) 0 (.inr (5, [.ref (q + 1), .ref (q + 7), .int (iI 0), .int (iI 0), .int 0]))) 0 (.inr (5, [.ref (q + 1), .ref (q + 7), .int (iI 0), .int (iI 0), .int (iI (-1))]))
set_option maxHeartbeats 4000000 in
set_option maxRecDepth 100000 in
theorem mk_X5_init (l : Launch) (D : va_G) (ct : Nat → ClassId) (q : Nat) : Met l yX5_init wsX5_init ({ frames := 3, cells := 19, slots := 2569, locals := 64 }) (PcI D ct q (.inr (5, [.null, .null, .int 0, .int 0, .int 0])) [.ref q]) (QcI D ct q 20 (g_X5_init ct q)) 19 2569 (RC q (q + 1)) := by
  refine Met.ofW (cc := cX5_init) (maxL := 1) (ret := none) (by decide) rfl ?_
  intro p e s m args below meth c s₁ B hml hvv
  obtain ⟨rfl, hs, hP0, hK, hW9⟩ := hvv
  have hx := B.exec
  have hb := B.bytes
  have hr := B.returns
  have hts := atoms_spec (ws := wsX5_init) B.pre
  have hown : s.vm.findClass RX5 = some m.cls := findClass_of_methodNamed B.named
  have hlocks := B.notSynchronized
  have hin2 : meth.name = "<init>" := (name_of_methodNamed B.named B.method).1
  have hS : va_S (RC q (q + 1)) s.heap s.heap [] := va_S.rf
  have hF := HPo.one hP0
  have in0 : ∀ w ∈ wsX00, w ∈ wsX5_init := by decide +kernel
  have in5 : ∀ w ∈ wsX50, w ∈ wsX5_init := by decide +kernel
  have in7 : ∀ w ∈ wsX70, w ∈ wsX5_init := by decide +kernel
  have hl := lv_entry ([.ref q]) (n := 1) (Nat.le_of_ble_eq_true rfl)
  rw [lg_entry_eq]
  generalize (lg_sl ([.ref q]) ++ List.replicate (1 - (lg_sl ([.ref q])).length) Slot.unset).toArray = ls at hl ⊢
  have hl : lv_has ls 1 [(0, .ref q)] := hl
  refine lv_aload_n hx hb dX5_init_0 rfl (lv_at hl 0 rfl) ?_
  refine W.objInit hx hb hown (hts (.methodLink RX5 3 objectInit) (by decide +kernel)) (hts (.instanceMethod objectInit) (by decide +kernel)) (hts (.code objectInit ⟨#[0xb1]⟩ 1 none) (List.mem_cons_of_mem _ (List.mem_of_getElem? (i := 2) rfl))) rfl (by rw [hml]; exact hl.1) rfl dX5_init_1 (Nat.le_of_ble_eq_true rfl) (Nat.le_of_ble_eq_true rfl) ?_
  refine W.eq (g2 := F0 m 4 ls []) rfl ?_
  refine lv_aload_n hx hb dX5_init_4 rfl (lv_at hl 0 rfl) ?_
  refine k_new (k := 1) (ci := 7) (fs := [.null, .int 0, .null, .null, .null, .null, .int 0]) (C := RX7) (T := TX7) (N := 7) hx hb hts in7 tyX7 tyX7_ok hown (hts (.classLink RX5 9 RX7) (by decide +kernel)) (hts (.instantiable RX7 7) (by decide +kernel)) (hts (.initialized RX7) (by decide +kernel)) hK hF hs rfl (fun j hj => match j, hj with | 0, _ => rfl | 1, _ => rfl | 2, _ => rfl | 3, _ => rfl | 4, _ => rfl | 5, _ => rfl | 6, _ => rfl | j + 7, h9 => absurd h9 (Nat.not_lt.mpr (Nat.le_add_left _ _))) hS (Nat.le_of_ble_eq_true rfl) (Nat.le_of_ble_eq_true rfl) dX5_init_5 (fun H hF hP hs hS => ?_)
  refine lv_dup hx hb dX5_init_8 rfl ?_
  refine k_call (k := 1) (va_runIN (As := []) (rest := [.ref (q + 1), .ref q]) ⟨hx, hb, hml, hown, hts⟩ (mk_X7_init l D ct (q + 1)) ⟨va_cnB 0 hts gX5_init_X7_init_n11 rfl rfl rfl (hW9.2.2 (RX5, 11, yX7_init) (by decide +kernel)) (hts (.initialized RX7) (by decide +kernel)) (by decide +kernel) ⟨Nat.le_of_ble_eq_true rfl, Nat.le_of_ble_eq_true rfl⟩, rfl, hts (.instanceMethod yX7_init) (by decide +kernel)⟩ (k_pre hK hW9 hs hP _) rfl rfl hl.1 rfl (lv_room (Nat.le_of_ble_eq_true rfl)) dX5_init_9 ⟨Nat.le_of_ble_eq_true rfl, Nat.le_of_ble_eq_true rfl⟩) hF hs hS (fun a h9 => Or.inr (Nat.le_trans (Nat.add_le_add_left (by decide) q) h9)) ⟨_, rfl⟩ (fun H locs hF hs hS => ?_)
  refine k_put (k := 0) (N' := 7) (ci := 5) (fs := [.null, .null, .int 0, .int 0, .int 0]) (v := .ref (q + 1)) (ty := (.object "BeamLines$Text")) (C := RX5) (T := TX5) (N := 5) hx hb hts in5 tyX5 tyX5_ok nmX5 hown hK hF rfl rfl 0 (by decide) (hts (.fieldLink RX5 12 "BeamLines$Reader" "text" "LBeamLines$Text;") (by decide +kernel)) (fun _ h9 => h9) (Or.inr ⟨rfl, hin2, rfl⟩) (by decide +kernel) rfl rfl (Nat.le_of_ble_eq_true rfl) hs hS (Or.inl rfl) dX5_init_12 (fun H locs hF hs hS => ?_)
  refine lv_aload_n hx hb dX5_init_15 rfl (lv_at hl 0 rfl) ?_
  refine k_new (k := 7) (ci := 0) (fs := [.int 0, .int 0, .null, .null, .null, .null]) (C := RX0) (T := TX0) (N := 6) hx hb hts in0 tyX0 tyX0_ok hown (hts (.classLink RX5 18 RX0) (by decide +kernel)) (hts (.instantiable RX0 6) (by decide +kernel)) (hts (.initialized RX0) (by decide +kernel)) hK hF hs rfl (fun j hj => match j, hj with | 0, _ => rfl | 1, _ => rfl | 2, _ => rfl | 3, _ => rfl | 4, _ => rfl | 5, _ => rfl | j + 6, h9 => absurd h9 (Nat.not_lt.mpr (Nat.le_add_left _ _))) hS (Nat.le_of_ble_eq_true rfl) (Nat.le_of_ble_eq_true rfl) dX5_init_16 (fun H hF hP hs hS => ?_)
  refine lv_dup hx hb dX5_init_19 rfl ?_
  refine k_call (k := 7) (va_runIN (As := []) (rest := [.ref (q + 7), .ref q]) ⟨hx, hb, hml, hown, hts⟩ (mk_X0_init l D ct (q + 7)) ⟨va_cnB 0 hts gX5_init_X0_init_n20 rfl rfl rfl (hW9.2.2 (RX5, 20, yX0_init) (by decide +kernel)) (hts (.initialized RX0) (by decide +kernel)) (by decide +kernel) ⟨Nat.le_of_ble_eq_true rfl, Nat.le_of_ble_eq_true rfl⟩, rfl, hts (.instanceMethod yX0_init) (by decide +kernel)⟩ (k_pre hK hW9 hs hP _) rfl rfl hl.1 rfl (lv_room (Nat.le_of_ble_eq_true rfl)) dX5_init_20 ⟨Nat.le_of_ble_eq_true rfl, Nat.le_of_ble_eq_true rfl⟩) hF hs hS (fun a h9 => Or.inr (Nat.le_trans (Nat.add_le_add_left (by decide) q) h9)) ⟨_, rfl⟩ (fun H locs hF hs hS => ?_)
  refine k_put (k := 0) (N' := 20) (ci := 5) (fs := [.ref (q + 1), .null, .int 0, .int 0, .int 0]) (v := .ref (q + 7)) (ty := (.object "BeamLines$Beam")) (C := RX5) (T := TX5) (N := 5) hx hb hts in5 tyX5 tyX5_ok nmX5 hown hK hF rfl rfl 1 (by decide) (hts (.fieldLink RX5 21 "BeamLines$Reader" "beam" "LBeamLines$Beam;") (by decide +kernel)) (fun _ h9 => h9) (Or.inr ⟨rfl, hin2, rfl⟩) (by decide +kernel) rfl rfl (Nat.le_of_ble_eq_true rfl) hs hS (Or.inl rfl) dX5_init_23 (fun H locs hF hs hS => ?_)
  refine lv_aload_n hx hb dX5_init_26 rfl (lv_at hl 0 rfl) ?_
  refine r_iconst (n := 0) hx hb dX5_init_27 ?_
  refine k_put (k := 0) (N' := 20) (ci := 5) (fs := [.ref (q + 1), .ref (q + 7), .int 0, .int 0, .int 0]) (v := .int (iI 0)) (ty := .int) (C := RX5) (T := TX5) (N := 5) hx hb hts in5 tyX5 tyX5_ok nmX5 hown hK hF rfl rfl 2 (by decide) (hts (.fieldLink RX5 25 "BeamLines$Reader" "token" "I") (by decide +kernel)) (fun _ h9 => h9) (Or.inl rfl) (by decide +kernel) rfl rfl (Nat.le_of_ble_eq_true rfl) hs hS (Or.inl rfl) dX5_init_28 (fun H locs hF hs hS => ?_)
  refine lv_aload_n hx hb dX5_init_31 rfl (lv_at hl 0 rfl) ?_
  refine r_iconst (n := 0) hx hb dX5_init_32 ?_
  refine k_put (k := 0) (N' := 20) (ci := 5) (fs := [.ref (q + 1), .ref (q + 7), .int (iI 0), .int 0, .int 0]) (v := .int (iI 0)) (ty := .int) (C := RX5) (T := TX5) (N := 5) hx hb hts in5 tyX5 tyX5_ok nmX5 hown hK hF rfl rfl 3 (by decide) (hts (.fieldLink RX5 29 "BeamLines$Reader" "code" "I") (by decide +kernel)) (fun _ h9 => h9) (Or.inl rfl) (by decide +kernel) rfl rfl (Nat.le_of_ble_eq_true rfl) hs hS (Or.inl rfl) dX5_init_33 (fun H locs hF hs hS => ?_)
  refine lv_aload_n hx hb dX5_init_36 rfl (lv_at hl 0 rfl) ?_
  refine r_iconst (n := (-1)) hx hb dX5_init_37 ?_
  refine k_put (k := 0) (N' := 20) (ci := 5) (fs := [.ref (q + 1), .ref (q + 7), .int (iI 0), .int (iI 0), .int 0]) (v := .int (iI (-1))) (ty := .int) (C := RX5) (T := TX5) (N := 5) hx hb hts in5 tyX5 tyX5_ok nmX5 hown hK hF rfl rfl 4 (by decide) (hts (.fieldLink RX5 32 "BeamLines$Reader" "errorAt" "I") (by decide +kernel)) (fun _ h9 => h9) (Or.inl rfl) (by decide +kernel) rfl rfl (Nat.le_of_ble_eq_true rfl) hs hS (Or.inl rfl) dX5_init_38 (fun H locs hF hs hS => ?_)
  exact k_ret hx hb hr hlocks hK hF hs hS dX5_init_41
def g_X9_init (ct : Nat → ClassId) (q : Nat) : Nat → Option va_E := upO (upO (upO (upO (upO (upO (upO (upO (upO (upO (upO (upO (upO (upO (upO (upO (upO (upO (upO (upO (upO (upO (upO (upO (upO (upO (upO (upO noO 0 (.inr (9, [.null, .null, .null, .null, .null, .int 0, .int 0, .null, .int 0, .int 0, .int 0, .int 0, .int 0, .int 0, .int 0, .int 0, .null, .null, .long 0, .null, .null, .int 0]))) 1 (.inl (ct 0, (47, .inl (fun _ => 0))))) 0 (.inr (9, [.ref (q + 1), .null, .null, .null, .null, .int 0, .int 0, .null, .int 0, .int 0, .int 0, .int 0, .int 0, .int 0, .int 0, .int 0, .null, .null, .long 0, .null, .null, .int 0]))) 2 (.inl (ct 0, (47, .inl (fun _ => 0))))) 0 (.inr (9, [.ref (q + 1), .ref (q + 2), .null, .null, .null, .int 0, .int 0, .null, .int 0, .int 0, .int 0, .int 0, .int 0, .int 0, .int 0, .int 0, .null, .null, .long 0, .null, .null, .int 0]))) 3 (.inl (ct 0, (376, .inl (fun _ => 0))))) 0 (.inr (9, [.ref (q + 1), .ref (q + 2), .ref (q + 3), .null, .null, .int 0, .int 0, .null, .int 0, .int 0, .int 0, .int 0, .int 0, .int 0, .int 0, .int 0, .null, .null, .long 0, .null, .null, .int 0]))) 4 (.inl (ct 0, (94, .inl (fun _ => 0))))) 0 (.inr (9, [.ref (q + 1), .ref (q + 2), .ref (q + 3), .ref (q + 4), .null, .int 0, .int 0, .null, .int 0, .int 0, .int 0, .int 0, .int 0, .int 0, .int 0, .int 0, .null, .null, .long 0, .null, .null, .int 0]))) 5 (.inl (ct 3, (2, .inl (fun _ => 0))))) 0 (.inr (9, [.ref (q + 1), .ref (q + 2), .ref (q + 3), .ref (q + 4), .ref (q + 5), .int 0, .int 0, .null, .int 0, .int 0, .int 0, .int 0, .int 0, .int 0, .int 0, .int 0, .null, .null, .long 0, .null, .null, .int 0]))) 6 (.inl (ct 0, (500, .inl (fun _ => 0))))) 0 (.inr (9, [.ref (q + 1), .ref (q + 2), .ref (q + 3), .ref (q + 4), .ref (q + 5), .int 0, .int 0, .ref (q + 6), .int 0, .int 0, .int 0, .int 0, .int 0, .int 0, .int 0, .int 0, .null, .null, .long 0, .null, .null, .int 0]))) 0 (.inr (9, [.ref (q + 1), .ref (q + 2), .ref (q + 3), .ref (q + 4), .ref (q + 5), .int 0, .int 0, .ref (q + 6), .int 0, .int 0, .int 0, .int 0, .int 0, .int 0, .int 0, .int (iI (-1)), .null, .null, .long 0, .null, .null, .int 0]))) 7 (.inl (ct 1, (25, .inr (.inl (fun _ => 0)))))) 0 (.inr (9, [.ref (q + 1), .ref (q + 2), .ref (q + 3), .ref (q + 4), .ref (q + 5), .int 0, .int 0, .ref (q + 6), .int 0, .int 0, .int 0, .int 0, .int 0, .int 0, .int 0, .int (iI (-1)), .ref (q + 7), .null, .long 0, .null, .null, .int 0]))) 8 (.inl (ct 1, (155, .inr (.inl (fun _ => 0)))))) 0 (.inr (9, [.ref (q + 1), .ref (q + 2), .ref (q + 3), .ref (q + 4), .ref (q + 5), .int 0, .int 0, .ref (q + 6), .int 0, .int 0, .int 0, .int 0, .int 0, .int 0, .int 0, .int (iI (-1)), .ref (q + 7), .ref (q + 8), .long 0, .null, .null, .int 0]))) 9 (.inl (ct 0, (47, .inl (fun _ => 0))))) 0 (.inr (9, [.ref (q + 1), .ref (q + 2), .ref (q + 3), .ref (q + 4), .ref (q + 5), .int 0, .int 0, .ref (q + 6), .int 0, .int 0, .int 0, .int 0, .int 0, .int 0, .int 0, .int (iI (-1)), .ref (q + 7), .ref (q + 8), .long 0, .ref (q + 9), .null, .int 0]))) 10 (.inl (ct 0, (31, .inl (fun _ => 0))))) 0 (.inr (9, [.ref (q + 1), .ref (q + 2), .ref (q + 3), .ref (q + 4), .ref (q + 5), .int 0, .int 0, .ref (q + 6), .int 0, .int 0, .int 0, .int 0, .int 0, .int 0, .int 0, .int (iI (-1)), .ref (q + 7), .ref (q + 8), .long 0, .ref (q + 9), .ref (q + 10), .int 0]))) 1 (.inl (ct 0, 47, .inl (upd (fun _ => 0) 0 (iI 10))))) 1 (.inl (ct 0, 47, .inl (upd (upd (fun _ => 0) 0 (iI 10)) 1 (iI 100))))) 1 (.inl (ct 0, 47, .inl (upd (upd (upd (fun _ => 0) 0 (iI 10)) 1 (iI 100)) 2 (iI 2))))) 1 (.inl (ct 0, 47, .inl (upd (upd (upd (upd (fun _ => 0) 0 (iI 10)) 1 (iI 100)) 2 (iI 2)) 7 (iI (-1)))))) 1 (.inl (ct 0, 47, .inl (upd (upd (upd (upd (upd (fun _ => 0) 0 (iI 10)) 1 (iI 100)) 2 (iI 2)) 7 (iI (-1))) 8 (iI 10))))) 1 (.inl (ct 0, 47, .inl (upd (upd (upd (upd (upd (upd (fun _ => 0) 0 (iI 10)) 1 (iI 100)) 2 (iI 2)) 7 (iI (-1))) 8 (iI 10)) 9 (iI (-1)))))
set_option maxHeartbeats 4000000 in
set_option maxRecDepth 100000 in
theorem mk_X9_init (l : Launch) (D : va_G) (ct : Nat → ClassId) (q : Nat) : Met l yX9_init wsX9_init ({ frames := 1, cells := 10, slots := 1324, locals := 20 }) (PcI D ct q (.inr (9, [.null, .null, .null, .null, .null, .int 0, .int 0, .null, .int 0, .int 0, .int 0, .int 0, .int 0, .int 0, .int 0, .int 0, .null, .null, .long 0, .null, .null, .int 0])) [.ref q]) (QcI D ct q 11 (g_X9_init ct q)) 10 1324 (RC q (q + 1)) := by
  refine Met.ofW (cc := cX9_init) (maxL := 1) (ret := none) (by decide) rfl ?_
  intro p e s m args below meth c s₁ B hml hvv
  obtain ⟨rfl, hs, hP0, hK, hW9⟩ := hvv
  have hx := B.exec
  have hb := B.bytes
  have hr := B.returns
  have hts := atoms_spec (ws := wsX9_init) B.pre
  have hown : s.vm.findClass RX9 = some m.cls := findClass_of_methodNamed B.named
  have hlocks := B.notSynchronized
  have hin2 : meth.name = "<init>" := (name_of_methodNamed B.named B.method).1
  have hS : va_S (RC q (q + 1)) s.heap s.heap [] := va_S.rf
  have hF := HPo.one hP0
  have in9 : ∀ w ∈ wsX90, w ∈ wsX9_init := by decide +kernel
  have hl := lv_entry ([.ref q]) (n := 1) (Nat.le_of_ble_eq_true rfl)
  rw [lg_entry_eq]
  generalize (lg_sl ([.ref q]) ++ List.replicate (1 - (lg_sl ([.ref q])).length) Slot.unset).toArray = ls at hl ⊢
  have hl : lv_has ls 1 [(0, .ref q)] := hl
  refine lv_aload_n hx hb dX9_init_0 rfl (lv_at hl 0 rfl) ?_
  refine W.objInit hx hb hown (hts (.methodLink RX9 1 objectInit) (by decide +kernel)) (hts (.instanceMethod objectInit) (by decide +kernel)) (hts (.code objectInit ⟨#[0xb1]⟩ 1 none) (List.mem_cons_of_mem _ (List.mem_of_getElem? (i := 2) rfl))) rfl (by rw [hml]; exact hl.1) rfl dX9_init_1 (Nat.le_of_ble_eq_true rfl) (Nat.le_of_ble_eq_true rfl) ?_
  refine W.eq (g2 := F0 m 4 ls []) rfl ?_
  refine lv_aload_n hx hb dX9_init_4 rfl (lv_at hl 0 rfl) ?_
  refine r_bipush (n := 47) hx hb dX9_init_5 rfl ?_
  refine k_newa (atype := .int) (n := iI 47) (k := 1) (N' := 47) (a0 := (47, .inl (fun _ => 0))) (cA := ct 0) hx hb (hts (.arrayClass .int) (by decide +kernel)) hF hs hS (hK.2 0 _ rfl).2 (vp_cell_i _ _ _) (by decide) rfl (show 47 * 4 ≤ 536870912 from Nat.le_of_ble_eq_true rfl) (Nat.le_of_ble_eq_true rfl) (Nat.le_of_ble_eq_true rfl) dX9_init_7 (fun H hF hs hS => ?_)
  refine k_put (k := 0) (N' := 2) (ci := 9) (fs := [.null, .null, .null, .null, .null, .int 0, .int 0, .null, .int 0, .int 0, .int 0, .int 0, .int 0, .int 0, .int 0, .int 0, .null, .null, .long 0, .null, .null, .int 0]) (v := .ref (q + 1)) (ty := (.array .int)) (C := RX9) (T := TX9) (N := 22) hx hb hts in9 tyX9 tyX9_ok nmX9 hown hK hF rfl rfl 0 (by decide) (hts (.fieldLink RX9 7 "BeamLinesModel" "a" "[I") (by decide +kernel)) (fun _ h9 => h9) (Or.inr ⟨rfl, hin2, rfl⟩) (by decide +kernel) rfl rfl (Nat.le_of_ble_eq_true rfl) hs hS (Or.inl rfl) dX9_init_9 (fun H locs hF hs hS => ?_)
  refine lv_aload_n hx hb dX9_init_12 rfl (lv_at hl 0 rfl) ?_
  refine r_bipush (n := 47) hx hb dX9_init_13 rfl ?_
  refine k_newa (atype := .int) (n := iI 47) (k := 2) (N' := 47) (a0 := (47, .inl (fun _ => 0))) (cA := ct 0) hx hb (hts (.arrayClass .int) (by decide +kernel)) hF hs hS (hK.2 0 _ rfl).2 (vp_cell_i _ _ _) (by decide) rfl (show 47 * 4 ≤ 536870912 from Nat.le_of_ble_eq_true rfl) (Nat.le_of_ble_eq_true rfl) (Nat.le_of_ble_eq_true rfl) dX9_init_15 (fun H hF hs hS => ?_)
  refine k_put (k := 0) (N' := 3) (ci := 9) (fs := [.ref (q + 1), .null, .null, .null, .null, .int 0, .int 0, .null, .int 0, .int 0, .int 0, .int 0, .int 0, .int 0, .int 0, .int 0, .null, .null, .long 0, .null, .null, .int 0]) (v := .ref (q + 2)) (ty := (.array .int)) (C := RX9) (T := TX9) (N := 22) hx hb hts in9 tyX9 tyX9_ok nmX9 hown hK hF rfl rfl 1 (by decide) (hts (.fieldLink RX9 13 "BeamLinesModel" "aside" "[I") (by decide +kernel)) (fun _ h9 => h9) (Or.inr ⟨rfl, hin2, rfl⟩) (by decide +kernel) rfl rfl (Nat.le_of_ble_eq_true rfl) hs hS (Or.inl rfl) dX9_init_17 (fun H locs hF hs hS => ?_)
  refine lv_aload_n hx hb dX9_init_20 rfl (lv_at hl 0 rfl) ?_
  refine r_sipush (n := 376) hx hb dX9_init_21 rfl ?_
  refine k_newa (atype := .int) (n := iI 376) (k := 3) (N' := 376) (a0 := (376, .inl (fun _ => 0))) (cA := ct 0) hx hb (hts (.arrayClass .int) (by decide +kernel)) hF hs hS (hK.2 0 _ rfl).2 (vp_cell_i _ _ _) (by decide) rfl (show 376 * 4 ≤ 536870912 from Nat.le_of_ble_eq_true rfl) (Nat.le_of_ble_eq_true rfl) (Nat.le_of_ble_eq_true rfl) dX9_init_24 (fun H hF hs hS => ?_)
  refine k_put (k := 0) (N' := 4) (ci := 9) (fs := [.ref (q + 1), .ref (q + 2), .null, .null, .null, .int 0, .int 0, .null, .int 0, .int 0, .int 0, .int 0, .int 0, .int 0, .int 0, .int 0, .null, .null, .long 0, .null, .null, .int 0]) (v := .ref (q + 3)) (ty := (.array .int)) (C := RX9) (T := TX9) (N := 22) hx hb hts in9 tyX9 tyX9_ok nmX9 hown hK hF rfl rfl 2 (by decide) (hts (.fieldLink RX9 16 "BeamLinesModel" "kept" "[I") (by decide +kernel)) (fun _ h9 => h9) (Or.inr ⟨rfl, hin2, rfl⟩) (by decide +kernel) rfl rfl (Nat.le_of_ble_eq_true rfl) hs hS (Or.inl rfl) dX9_init_26 (fun H locs hF hs hS => ?_)
  refine lv_aload_n hx hb dX9_init_29 rfl (lv_at hl 0 rfl) ?_
  refine r_bipush (n := 94) hx hb dX9_init_30 rfl ?_
  refine k_newa (atype := .int) (n := iI 94) (k := 4) (N' := 94) (a0 := (94, .inl (fun _ => 0))) (cA := ct 0) hx hb (hts (.arrayClass .int) (by decide +kernel)) hF hs hS (hK.2 0 _ rfl).2 (vp_cell_i _ _ _) (by decide) rfl (show 94 * 4 ≤ 536870912 from Nat.le_of_ble_eq_true rfl) (Nat.le_of_ble_eq_true rfl) (Nat.le_of_ble_eq_true rfl) dX9_init_32 (fun H hF hs hS => ?_)
  refine k_put (k := 0) (N' := 5) (ci := 9) (fs := [.ref (q + 1), .ref (q + 2), .ref (q + 3), .null, .null, .int 0, .int 0, .null, .int 0, .int 0, .int 0, .int 0, .int 0, .int 0, .int 0, .int 0, .null, .null, .long 0, .null, .null, .int 0]) (v := .ref (q + 4)) (ty := (.array .int)) (C := RX9) (T := TX9) (N := 22) hx hb hts in9 tyX9 tyX9_ok nmX9 hown hK hF rfl rfl 3 (by decide) (hts (.fieldLink RX9 19 "BeamLinesModel" "saved" "[I") (by decide +kernel)) (fun _ h9 => h9) (Or.inr ⟨rfl, hin2, rfl⟩) (by decide +kernel) rfl rfl (Nat.le_of_ble_eq_true rfl) hs hS (Or.inl rfl) dX9_init_34 (fun H locs hF hs hS => ?_)
  refine lv_aload_n hx hb dX9_init_37 rfl (lv_at hl 0 rfl) ?_
  refine r_iconst (n := 2) hx hb dX9_init_38 ?_
  refine k_newa (atype := .boolean) (n := iI 2) (k := 5) (N' := 2) (a0 := (2, .inl (fun _ => 0))) (cA := ct 3) hx hb (hts (.arrayClass .boolean) (by decide +kernel)) hF hs hS (hK.2 3 _ rfl).2 (vp_cell_i _ _ _) (by decide) rfl (show 2 * 1 ≤ 536870912 from Nat.le_of_ble_eq_true rfl) (Nat.le_of_ble_eq_true rfl) (Nat.le_of_ble_eq_true rfl) dX9_init_39 (fun H hF hs hS => ?_)
  refine k_put (k := 0) (N' := 6) (ci := 9) (fs := [.ref (q + 1), .ref (q + 2), .ref (q + 3), .ref (q + 4), .null, .int 0, .int 0, .null, .int 0, .int 0, .int 0, .int 0, .int 0, .int 0, .int 0, .int 0, .null, .null, .long 0, .null, .null, .int 0]) (v := .ref (q + 5)) (ty := (.array .boolean)) (C := RX9) (T := TX9) (N := 22) hx hb hts in9 tyX9 tyX9_ok nmX9 hown hK hF rfl rfl 4 (by decide) (hts (.fieldLink RX9 22 "BeamLinesModel" "isSaved" "[Z") (by decide +kernel)) (fun _ h9 => h9) (Or.inr ⟨rfl, hin2, rfl⟩) (by decide +kernel) rfl rfl (Nat.le_of_ble_eq_true rfl) hs hS (Or.inl rfl) dX9_init_41 (fun H locs hF hs hS => ?_)
  refine lv_aload_n hx hb dX9_init_44 rfl (lv_at hl 0 rfl) ?_
  refine r_sipush (n := 500) hx hb dX9_init_45 rfl ?_
  refine k_newa (atype := .int) (n := iI 500) (k := 6) (N' := 500) (a0 := (500, .inl (fun _ => 0))) (cA := ct 0) hx hb (hts (.arrayClass .int) (by decide +kernel)) hF hs hS (hK.2 0 _ rfl).2 (vp_cell_i _ _ _) (by decide) rfl (show 500 * 4 ≤ 536870912 from Nat.le_of_ble_eq_true rfl) (Nat.le_of_ble_eq_true rfl) (Nat.le_of_ble_eq_true rfl) dX9_init_48 (fun H hF hs hS => ?_)
  refine k_put (k := 0) (N' := 7) (ci := 9) (fs := [.ref (q + 1), .ref (q + 2), .ref (q + 3), .ref (q + 4), .ref (q + 5), .int 0, .int 0, .null, .int 0, .int 0, .int 0, .int 0, .int 0, .int 0, .int 0, .int 0, .null, .null, .long 0, .null, .null, .int 0]) (v := .ref (q + 6)) (ty := (.array .int)) (C := RX9) (T := TX9) (N := 22) hx hb hts in9 tyX9 tyX9_ok nmX9 hown hK hF rfl rfl 7 (by decide) (hts (.fieldLink RX9 26 "BeamLinesModel" "buffer" "[I") (by decide +kernel)) (fun _ h9 => h9) (Or.inr ⟨rfl, hin2, rfl⟩) (by decide +kernel) rfl rfl (Nat.le_of_ble_eq_true rfl) hs hS (Or.inl rfl) dX9_init_50 (fun H locs hF hs hS => ?_)
  refine lv_aload_n hx hb dX9_init_53 rfl (lv_at hl 0 rfl) ?_
  refine r_iconst (n := (-1)) hx hb dX9_init_54 ?_
  refine k_put (k := 0) (N' := 7) (ci := 9) (fs := [.ref (q + 1), .ref (q + 2), .ref (q + 3), .ref (q + 4), .ref (q + 5), .int 0, .int 0, .ref (q + 6), .int 0, .int 0, .int 0, .int 0, .int 0, .int 0, .int 0, .int 0, .null, .null, .long 0, .null, .null, .int 0]) (v := .int (iI (-1))) (ty := .int) (C := RX9) (T := TX9) (N := 22) hx hb hts in9 tyX9 tyX9_ok nmX9 hown hK hF rfl rfl 15 (by decide) (hts (.fieldLink RX9 29 "BeamLinesModel" "errorAt" "I") (by decide +kernel)) (fun _ h9 => h9) (Or.inl rfl) (by decide +kernel) rfl rfl (Nat.le_of_ble_eq_true rfl) hs hS (Or.inl rfl) dX9_init_55 (fun H locs hF hs hS => ?_)
  refine lv_aload_n hx hb dX9_init_58 rfl (lv_at hl 0 rfl) ?_
  refine r_bipush (n := 25) hx hb dX9_init_59 rfl ?_
  refine k_newa (atype := .long) (n := iI 25) (k := 7) (N' := 25) (a0 := (25, .inr (.inl (fun _ => 0)))) (cA := ct 1) hx hb (hts (.arrayClass .long) (by decide +kernel)) hF hs hS (hK.2 1 _ rfl).2 (vp_cell_l _ _ _) (by decide) rfl (show 25 * 8 ≤ 536870912 from Nat.le_of_ble_eq_true rfl) (Nat.le_of_ble_eq_true rfl) (Nat.le_of_ble_eq_true rfl) dX9_init_61 (fun H hF hs hS => ?_)
  refine k_put (k := 0) (N' := 8) (ci := 9) (fs := [.ref (q + 1), .ref (q + 2), .ref (q + 3), .ref (q + 4), .ref (q + 5), .int 0, .int 0, .ref (q + 6), .int 0, .int 0, .int 0, .int 0, .int 0, .int 0, .int 0, .int (iI (-1)), .null, .null, .long 0, .null, .null, .int 0]) (v := .ref (q + 7)) (ty := (.array .long)) (C := RX9) (T := TX9) (N := 22) hx hb hts in9 tyX9 tyX9_ok nmX9 hown hK hF rfl rfl 16 (by decide) (hts (.fieldLink RX9 33 "BeamLinesModel" "square" "[J") (by decide +kernel)) (fun _ h9 => h9) (Or.inr ⟨rfl, hin2, rfl⟩) (by decide +kernel) rfl rfl (Nat.le_of_ble_eq_true rfl) hs hS (Or.inl rfl) dX9_init_63 (fun H locs hF hs hS => ?_)
  refine lv_aload_n hx hb dX9_init_66 rfl (lv_at hl 0 rfl) ?_
  refine r_sipush (n := 155) hx hb dX9_init_67 rfl ?_
  refine k_newa (atype := .long) (n := iI 155) (k := 8) (N' := 155) (a0 := (155, .inr (.inl (fun _ => 0)))) (cA := ct 1) hx hb (hts (.arrayClass .long) (by decide +kernel)) hF hs hS (hK.2 1 _ rfl).2 (vp_cell_l _ _ _) (by decide) rfl (show 155 * 8 ≤ 536870912 from Nat.le_of_ble_eq_true rfl) (Nat.le_of_ble_eq_true rfl) (Nat.le_of_ble_eq_true rfl) dX9_init_70 (fun H hF hs hS => ?_)
  refine k_put (k := 0) (N' := 9) (ci := 9) (fs := [.ref (q + 1), .ref (q + 2), .ref (q + 3), .ref (q + 4), .ref (q + 5), .int 0, .int 0, .ref (q + 6), .int 0, .int 0, .int 0, .int 0, .int 0, .int 0, .int 0, .int (iI (-1)), .ref (q + 7), .null, .long 0, .null, .null, .int 0]) (v := .ref (q + 8)) (ty := (.array .long)) (C := RX9) (T := TX9) (N := 22) hx hb hts in9 tyX9 tyX9_ok nmX9 hown hK hF rfl rfl 17 (by decide) (hts (.fieldLink RX9 37 "BeamLinesModel" "line" "[J") (by decide +kernel)) (fun _ h9 => h9) (Or.inr ⟨rfl, hin2, rfl⟩) (by decide +kernel) rfl rfl (Nat.le_of_ble_eq_true rfl) hs hS (Or.inl rfl) dX9_init_72 (fun H locs hF hs hS => ?_)
  refine lv_aload_n hx hb dX9_init_75 rfl (lv_at hl 0 rfl) ?_
  refine r_bipush (n := 47) hx hb dX9_init_76 rfl ?_
  refine k_newa (atype := .int) (n := iI 47) (k := 9) (N' := 47) (a0 := (47, .inl (fun _ => 0))) (cA := ct 0) hx hb (hts (.arrayClass .int) (by decide +kernel)) hF hs hS (hK.2 0 _ rfl).2 (vp_cell_i _ _ _) (by decide) rfl (show 47 * 4 ≤ 536870912 from Nat.le_of_ble_eq_true rfl) (Nat.le_of_ble_eq_true rfl) (Nat.le_of_ble_eq_true rfl) dX9_init_78 (fun H hF hs hS => ?_)
  refine k_put (k := 0) (N' := 10) (ci := 9) (fs := [.ref (q + 1), .ref (q + 2), .ref (q + 3), .ref (q + 4), .ref (q + 5), .int 0, .int 0, .ref (q + 6), .int 0, .int 0, .int 0, .int 0, .int 0, .int 0, .int 0, .int (iI (-1)), .ref (q + 7), .ref (q + 8), .long 0, .null, .null, .int 0]) (v := .ref (q + 9)) (ty := (.array .int)) (C := RX9) (T := TX9) (N := 22) hx hb hts in9 tyX9 tyX9_ok nmX9 hown hK hF rfl rfl 19 (by decide) (hts (.fieldLink RX9 40 "BeamLinesModel" "tried" "[I") (by decide +kernel)) (fun _ h9 => h9) (Or.inr ⟨rfl, hin2, rfl⟩) (by decide +kernel) rfl rfl (Nat.le_of_ble_eq_true rfl) hs hS (Or.inl rfl) dX9_init_80 (fun H locs hF hs hS => ?_)
  refine lv_aload_n hx hb dX9_init_83 rfl (lv_at hl 0 rfl) ?_
  refine r_bipush (n := 31) hx hb dX9_init_84 rfl ?_
  refine k_newa (atype := .int) (n := iI 31) (k := 10) (N' := 31) (a0 := (31, .inl (fun _ => 0))) (cA := ct 0) hx hb (hts (.arrayClass .int) (by decide +kernel)) hF hs hS (hK.2 0 _ rfl).2 (vp_cell_i _ _ _) (by decide) rfl (show 31 * 4 ≤ 536870912 from Nat.le_of_ble_eq_true rfl) (Nat.le_of_ble_eq_true rfl) (Nat.le_of_ble_eq_true rfl) dX9_init_86 (fun H hF hs hS => ?_)
  refine k_put (k := 0) (N' := 11) (ci := 9) (fs := [.ref (q + 1), .ref (q + 2), .ref (q + 3), .ref (q + 4), .ref (q + 5), .int 0, .int 0, .ref (q + 6), .int 0, .int 0, .int 0, .int 0, .int 0, .int 0, .int 0, .int (iI (-1)), .ref (q + 7), .ref (q + 8), .long 0, .ref (q + 9), .null, .int 0]) (v := .ref (q + 10)) (ty := (.array .int)) (C := RX9) (T := TX9) (N := 22) hx hb hts in9 tyX9 tyX9_ok nmX9 hown hK hF rfl rfl 20 (by decide) (hts (.fieldLink RX9 43 "BeamLinesModel" "written" "[I") (by decide +kernel)) (fun _ h9 => h9) (Or.inr ⟨rfl, hin2, rfl⟩) (by decide +kernel) rfl rfl (Nat.le_of_ble_eq_true rfl) hs hS (Or.inl rfl) dX9_init_88 (fun H locs hF hs hS => ?_)
  refine lv_aload_n hx hb dX9_init_91 rfl (lv_at hl 0 rfl) ?_
  refine k_get (k := 0) (ci := 9) (fs := [.ref (q + 1), .ref (q + 2), .ref (q + 3), .ref (q + 4), .ref (q + 5), .int 0, .int 0, .ref (q + 6), .int 0, .int 0, .int 0, .int 0, .int 0, .int 0, .int 0, .int (iI (-1)), .ref (q + 7), .ref (q + 8), .long 0, .ref (q + 9), .ref (q + 10), .int 0]) (v := .ref (q + 1)) (C := RX9) (T := TX9) (N := 22) hx hb hts in9 hown hK hF rfl rfl 0 (by decide) (hts (.fieldLink RX9 7 "BeamLinesModel" "a" "[I") (by decide +kernel)) (fun _ h9 => h9) rfl dX9_init_92 ?_
  refine r_iconst (n := 0) hx hb dX9_init_95 ?_
  refine r_bipush (n := 10) hx hb dX9_init_96 rfl ?_
  refine k_iast (k := 1) (n := 47) (f := (fun _ => 0)) (N' := 11) (ct := ct) hx hb hK hF rfl hs hS (Or.inr (Nat.add_le_add_left (by decide) q)) (iI_in3 (by decide) (by decide) (by decide)) dX9_init_98 (fun H locs hF hs hS => ?_)
  refine lv_aload_n hx hb dX9_init_99 rfl (lv_at hl 0 rfl) ?_
  refine k_get (k := 0) (ci := 9) (fs := [.ref (q + 1), .ref (q + 2), .ref (q + 3), .ref (q + 4), .ref (q + 5), .int 0, .int 0, .ref (q + 6), .int 0, .int 0, .int 0, .int 0, .int 0, .int 0, .int 0, .int (iI (-1)), .ref (q + 7), .ref (q + 8), .long 0, .ref (q + 9), .ref (q + 10), .int 0]) (v := .ref (q + 1)) (C := RX9) (T := TX9) (N := 22) hx hb hts in9 hown hK hF rfl rfl 0 (by decide) (hts (.fieldLink RX9 7 "BeamLinesModel" "a" "[I") (by decide +kernel)) (fun _ h9 => h9) rfl dX9_init_100 ?_
  refine r_iconst (n := 1) hx hb dX9_init_103 ?_
  refine r_bipush (n := 100) hx hb dX9_init_104 rfl ?_
  refine k_iast (k := 1) (n := 47) (f := (upd (fun _ => 0) 0 (iI 10))) (N' := 11) (ct := ct) hx hb hK hF rfl hs hS (Or.inr (Nat.add_le_add_left (by decide) q)) (iI_in3 (by decide) (by decide) (by decide)) dX9_init_106 (fun H locs hF hs hS => ?_)
  refine lv_aload_n hx hb dX9_init_107 rfl (lv_at hl 0 rfl) ?_
  refine k_get (k := 0) (ci := 9) (fs := [.ref (q + 1), .ref (q + 2), .ref (q + 3), .ref (q + 4), .ref (q + 5), .int 0, .int 0, .ref (q + 6), .int 0, .int 0, .int 0, .int 0, .int 0, .int 0, .int 0, .int (iI (-1)), .ref (q + 7), .ref (q + 8), .long 0, .ref (q + 9), .ref (q + 10), .int 0]) (v := .ref (q + 1)) (C := RX9) (T := TX9) (N := 22) hx hb hts in9 hown hK hF rfl rfl 0 (by decide) (hts (.fieldLink RX9 7 "BeamLinesModel" "a" "[I") (by decide +kernel)) (fun _ h9 => h9) rfl dX9_init_108 ?_
  refine r_iconst (n := 2) hx hb dX9_init_111 ?_
  refine r_iconst (n := 2) hx hb dX9_init_112 ?_
  refine k_iast (k := 1) (n := 47) (f := (upd (upd (fun _ => 0) 0 (iI 10)) 1 (iI 100))) (N' := 11) (ct := ct) hx hb hK hF rfl hs hS (Or.inr (Nat.add_le_add_left (by decide) q)) (iI_in3 (by decide) (by decide) (by decide)) dX9_init_113 (fun H locs hF hs hS => ?_)
  refine lv_aload_n hx hb dX9_init_114 rfl (lv_at hl 0 rfl) ?_
  refine k_get (k := 0) (ci := 9) (fs := [.ref (q + 1), .ref (q + 2), .ref (q + 3), .ref (q + 4), .ref (q + 5), .int 0, .int 0, .ref (q + 6), .int 0, .int 0, .int 0, .int 0, .int 0, .int 0, .int 0, .int (iI (-1)), .ref (q + 7), .ref (q + 8), .long 0, .ref (q + 9), .ref (q + 10), .int 0]) (v := .ref (q + 1)) (C := RX9) (T := TX9) (N := 22) hx hb hts in9 hown hK hF rfl rfl 0 (by decide) (hts (.fieldLink RX9 7 "BeamLinesModel" "a" "[I") (by decide +kernel)) (fun _ h9 => h9) rfl dX9_init_115 ?_
  refine r_bipush (n := 7) hx hb dX9_init_118 rfl ?_
  refine r_iconst (n := (-1)) hx hb dX9_init_120 ?_
  refine k_iast (k := 1) (n := 47) (f := (upd (upd (upd (fun _ => 0) 0 (iI 10)) 1 (iI 100)) 2 (iI 2))) (N' := 11) (ct := ct) hx hb hK hF rfl hs hS (Or.inr (Nat.add_le_add_left (by decide) q)) (iI_in3 (by decide) (by decide) (by decide)) dX9_init_121 (fun H locs hF hs hS => ?_)
  refine lv_aload_n hx hb dX9_init_122 rfl (lv_at hl 0 rfl) ?_
  refine k_get (k := 0) (ci := 9) (fs := [.ref (q + 1), .ref (q + 2), .ref (q + 3), .ref (q + 4), .ref (q + 5), .int 0, .int 0, .ref (q + 6), .int 0, .int 0, .int 0, .int 0, .int 0, .int 0, .int 0, .int (iI (-1)), .ref (q + 7), .ref (q + 8), .long 0, .ref (q + 9), .ref (q + 10), .int 0]) (v := .ref (q + 1)) (C := RX9) (T := TX9) (N := 22) hx hb hts in9 hown hK hF rfl rfl 0 (by decide) (hts (.fieldLink RX9 7 "BeamLinesModel" "a" "[I") (by decide +kernel)) (fun _ h9 => h9) rfl dX9_init_123 ?_
  refine r_bipush (n := 8) hx hb dX9_init_126 rfl ?_
  refine r_bipush (n := 10) hx hb dX9_init_128 rfl ?_
  refine k_iast (k := 1) (n := 47) (f := (upd (upd (upd (upd (fun _ => 0) 0 (iI 10)) 1 (iI 100)) 2 (iI 2)) 7 (iI (-1)))) (N' := 11) (ct := ct) hx hb hK hF rfl hs hS (Or.inr (Nat.add_le_add_left (by decide) q)) (iI_in3 (by decide) (by decide) (by decide)) dX9_init_130 (fun H locs hF hs hS => ?_)
  refine lv_aload_n hx hb dX9_init_131 rfl (lv_at hl 0 rfl) ?_
  refine k_get (k := 0) (ci := 9) (fs := [.ref (q + 1), .ref (q + 2), .ref (q + 3), .ref (q + 4), .ref (q + 5), .int 0, .int 0, .ref (q + 6), .int 0, .int 0, .int 0, .int 0, .int 0, .int 0, .int 0, .int (iI (-1)), .ref (q + 7), .ref (q + 8), .long 0, .ref (q + 9), .ref (q + 10), .int 0]) (v := .ref (q + 1)) (C := RX9) (T := TX9) (N := 22) hx hb hts in9 hown hK hF rfl rfl 0 (by decide) (hts (.fieldLink RX9 7 "BeamLinesModel" "a" "[I") (by decide +kernel)) (fun _ h9 => h9) rfl dX9_init_132 ?_
  refine r_bipush (n := 9) hx hb dX9_init_135 rfl ?_
  refine r_iconst (n := (-1)) hx hb dX9_init_137 ?_
  refine k_iast (k := 1) (n := 47) (f := (upd (upd (upd (upd (upd (fun _ => 0) 0 (iI 10)) 1 (iI 100)) 2 (iI 2)) 7 (iI (-1))) 8 (iI 10))) (N' := 11) (ct := ct) hx hb hK hF rfl hs hS (Or.inr (Nat.add_le_add_left (by decide) q)) (iI_in3 (by decide) (by decide) (by decide)) dX9_init_138 (fun H locs hF hs hS => ?_)
  exact k_ret hx hb hr hlocks hK hF hs hS dX9_init_139
