/-! the claim -/
set_option maxHeartbeats 4000000 in
set_option maxRecDepth 100000 in
theorem whole_start {p : Program} {e : Env} {s : State} {m : MethodId} {below : List Frame} {meth : Method} {c : Code} (l : Launch) (hflags : l.flags = flags0) {b L : Nat} {xs : Nat → Int32} (hL : L ≤ 3072) (C0 : lw_At p s m meth c b L xs) : W p l e room_1 s m #[Value.ref b] below meth c s.heap [] 0 0 (lw_Z below #[Value.ref b] s) (entryFrame m ([Value.ref b] : List Value).toArray 10) := by
  obtain ⟨hx, hb, hr, hml, hown, hts0, hX, hbl, hlocks, hgv⟩ := id C0
  have hb : c.code = cL_law := hb
  have hown : s.vm.findClass RL = some m.cls := hown
  have hts : ∀ w ∈ wsL_law, w.before #[Value.ref b] s = true := fun w h => hts0 w (wsL_law_in w h)
  have hW9 : AW s := law_aw hts0
  have hNc : NcW s := law_nc hgv
  obtain ⟨D, ct, hK⟩ := law_kw hts hW9
  obtain ⟨z, hXz⟩ := law_xw hts0 hgv
  obtain ⟨cD, kD, compD, xD, yD, zD⟩ := Cond.arrayClass_spec (hts0 (.arrayClass .double) (by decide +kernel))
  have hTD : ArrOfT s cD .double := arr_of yD zD
  obtain ⟨q, hq⟩ : ∃ q, s.heap.size = q := ⟨_, rfl⟩
  have hS : va_S (fun a => s.heap.size ≤ a) s.heap s.heap [] := va_S.rf
  have hl := lv_entry ([.ref b]) (n := 10) (Nat.le_of_ble_eq_true rfl)
  rw [lg_entry_eq]
  generalize (lg_sl ([.ref b]) ++ List.replicate (10 - (lg_sl ([.ref b])).length) Slot.unset).toArray = ls at hl ⊢
  have hl : lv_has ls 10 [(0, .ref b)] := hl
  refine k_new (q := q) (g := noO) (k := 0) (ci := 8) (fs := [.null, .int 0, .null, .null, .null, .null, .null, .null, .null, .null, .null, .null, .null, .int 0]) (C := RX8) (T := TX8) (N := 14) hx hb hts inlX8 tyX8 tyX8_ok hown (hts0 (.classLink RL 8 RX8) (by decide +kernel)) (hts0 (.instantiable RX8 14) (by decide +kernel)) (hts0 (.initialized RX8) (by decide +kernel)) hK noO_HPo hq rfl (fun j hj => match j, hj with | 0, _ => rfl | 1, _ => rfl | 2, _ => rfl | 3, _ => rfl | 4, _ => rfl | 5, _ => rfl | 6, _ => rfl | 7, _ => rfl | 8, _ => rfl | 9, _ => rfl | 10, _ => rfl | 11, _ => rfl | 12, _ => rfl | 13, _ => rfl | j + 14, h9 => absurd h9 (Nat.not_lt.mpr (Nat.le_add_left _ _))) hS (Nat.le_of_ble_eq_true rfl) (Nat.le_of_ble_eq_true rfl) dL_law_0 (fun H hF hP hs hS => ?_)
  refine W.eq (g2 := F0 m 3 ls [.ref q]) rfl ?_
  have hP : va_at D vwCl (q, .inr (8, [.null, .int 0, .null, .null, .null, .null, .null, .null, .null, .null, .null, .null, .null, .int 0])) H := hP
  have hs : H.size = q + 1 := hs
  have hXq : XW (D, ct, (fun K i => q + off8 K i), RC q (q + 1), z) s H := XW_narrow (G := (D, ct, (fun K i => q + off8 K i), (fun a => s.heap.size ≤ a), z)) (B := RC q (q + 1)) (XW_kept (G := (D, ct, (fun K i => q + off8 K i), (fun a => s.heap.size ≤ a), z)) hS.2.1 (hXz D ct (fun K i => q + off8 K i))) (fun a h => by
    show s.heap.size ≤ a
    rcases h with h | h <;> omega)
  refine lv_dup hx hb dL_law_3 rfl ?_
  refine va_callv (va_runI (As := []) (rest := [.ref q]) (b := q) ⟨hx, hb, hml, hown, hts⟩ (mk_X8_init l D ct z q (fun u => SC u a0) tail0) (cwI 0 hts gL_law_X8_init rfl rfl rfl (hts0 (.initialized RX8) (by decide +kernel)) (hts0 (.methodLink RL 129 yX8_init) (by decide +kernel)) (hts0 (.instanceMethod yX8_init) (by decide +kernel)) rfl (by decide +kernel) ⟨Nat.le_of_ble_eq_true rfl, Nat.le_of_ble_eq_true rfl⟩) ⟨fun a U g mk h => by obtain ⟨h0, h1, h2, h3, h4, h5⟩ := h; exact ⟨h0, h1, h2, va_K.moved (u := U) (U := U.calling g mk a) (Vm.Alike.refl U.vm) h3, AW.same (u := U) (U := U.calling g mk a) rfl h4, XW_same (u := U) (U := U.calling g mk a) rfl h5⟩, fun U hU hW => ⟨rfl, by rw [hU]; exact hs, by rw [hU]; exact hP, va_K.moved hW.alike hK, AW.warm hW hW9, by rw [hU]; exact XW_warm hW hXq⟩⟩ rfl rfl hl.1 rfl (lv_room (Nat.le_of_ble_eq_true rfl)) dL_law_4 ⟨Nat.le_of_ble_eq_true rfl, Nat.le_of_ble_eq_true rfl⟩) hS (fun a _ h => by show s.heap.size ≤ a; rcases h with h | h <;> omega) (fun a h => by show s.heap.size ≤ a; rcases h with h | h <;> omega) (fun u8 t H8 locs8 ht hvm h8 hB hz1 hk1 hS8 => ?_)
  have h8 : SC u8 a0 := h8
  have hI8 : Iv vC (D, ct, (fun K i => q + off8 K i), RC q (q + 1), z) u8 t.heap := hB.1
  rw [ht] at hI8
  refine va_forget (fun x hx => hS8.2.2 x hx) ?_
  have hS8 : va_S (fun a => s.heap.size ≤ a) s.heap H8 [] := ⟨hS8.1, hS8.2.1, fun _ h => by cases h⟩
  refine lv_astore_n (lv' := [(1, .ref q), (0, .ref b)]) hx hb dL_law_7 rfl hl (by decide) rfl (fun ls hl => ?_)
  obtain ⟨q9, hq9⟩ : ∃ q9, H8.size = q9 := ⟨_, rfl⟩
  have hC : LawC l p s m c b L xs (D, ct, adW q q9, (fun a => s.heap.size ≤ a), z) cD (q9 + 11) (q9 + 12) := start_C hx hb hml hown hts hX hbl hL (flags_st hflags) hK hXz hNc hTD hS8.1 hq9 hI8
  have hS : va_S (fun a => q9 ≤ a) H8 H8 [] := va_S.rf
  refine k_new (q := q9) (g := noO) (k := 0) (ci := 9) (fs := [.null, .null, .null, .null, .null, .int 0, .int 0, .null, .int 0, .int 0, .int 0, .int 0, .int 0, .int 0, .int 0, .int 0, .null, .null, .long 0, .null, .null, .int 0]) (C := RX9) (T := TX9) (N := 22) hx hb hts inlX9 tyX9 tyX9_ok hown (hts0 (.classLink RL 130 RX9) (by decide +kernel)) (hts0 (.instantiable RX9 22) (by decide +kernel)) (hts0 (.initialized RX9) (by decide +kernel)) hK noO_HPo hq9 rfl (fun j hj => match j, hj with | 0, _ => rfl | 1, _ => rfl | 2, _ => rfl | 3, _ => rfl | 4, _ => rfl | 5, _ => rfl | 6, _ => rfl | 7, _ => rfl | 8, _ => rfl | 9, _ => rfl | 10, _ => rfl | 11, _ => rfl | 12, _ => rfl | 13, _ => rfl | 14, _ => rfl | 15, _ => rfl | 16, _ => rfl | 17, _ => rfl | 18, _ => rfl | 19, _ => rfl | 20, _ => rfl | 21, _ => rfl | j + 22, h9 => absurd h9 (Nat.not_lt.mpr (Nat.le_add_left _ _))) hS (Nat.le_of_ble_eq_true rfl) (Nat.le_of_ble_eq_true rfl) dL_law_8 (fun H hF hP hs hS => ?_)
  refine W.eq (g2 := F0 m 11 ls [.ref q9]) rfl ?_
  have hP : va_at D vwCl (q9, .inr (9, [.null, .null, .null, .null, .null, .int 0, .int 0, .null, .int 0, .int 0, .int 0, .int 0, .int 0, .int 0, .int 0, .int 0, .null, .null, .long 0, .null, .null, .int 0])) H := hP
  have hs : H.size = q9 + 1 := hs
  refine lv_dup hx hb dL_law_11 rfl ?_
  refine va_callv (va_runI (As := []) (rest := [.ref q9]) (b := q9) ⟨hx, hb, hml, hown, hts⟩ (mk_X9_init l D ct q9) (cwI 0 hts gL_law_X9_init rfl rfl rfl (hts0 (.initialized RX9) (by decide +kernel)) (hts0 (.methodLink RL 132 yX9_init) (by decide +kernel)) (hts0 (.instanceMethod yX9_init) (by decide +kernel)) rfl (by decide +kernel) ⟨Nat.le_of_ble_eq_true rfl, Nat.le_of_ble_eq_true rfl⟩) (k_pre hK hW9 hs hP _) rfl rfl hl.1 rfl (lv_room (Nat.le_of_ble_eq_true rfl)) dL_law_12 ⟨Nat.le_of_ble_eq_true rfl, Nat.le_of_ble_eq_true rfl⟩) hS (fun a _ h => by show q9 ≤ a; rcases h with h | h <;> omega) (fun a h => by show q9 ≤ a; rcases h with h | h <;> omega) (fun u t H9 locs9 ht hvm h9 hB hz1 hk1 hS => ?_)
  obtain ⟨hs9, hF9, -⟩ := hB
  rw [ht] at hs9 hF9
  refine lv_astore_n (lv' := [(2, .ref q9), (1, .ref q), (0, .ref b)]) hx hb dL_law_15 rfl hl (by decide) rfl (fun ls hl => ?_)
  refine r_iconst (n := 1) hx hb dL_law_16 ?_
  refine k_newa (q := q9) (g := g_X9_init ct q9) (atype := .long) (n := iI 1) (k := 11) (N' := 1) (a0 := (1, .inr (.inl (fun _ => 0)))) (cA := ct 1) hx hb (hts0 (.arrayClass .long) (by decide +kernel)) hF9 hs9 hS (hK.2 1 _ rfl).2 (vp_cell_l _ _ _) (by decide) rfl (show 1 * 8 ≤ 536870912 from Nat.le_of_ble_eq_true rfl) (Nat.le_of_ble_eq_true rfl) (Nat.le_of_ble_eq_true rfl) dL_law_17 (fun H hF hs hS => ?_)
  refine lv_astore_n (lv' := [(3, .ref (q9 + 11)), (2, .ref q9), (1, .ref q), (0, .ref b)]) hx hb dL_law_19 rfl hl (by decide) rfl (fun ls hl => ?_)
  refine r_iconst (n := 1) hx hb dL_law_20 ?_
  refine k_newa (q := q9) (atype := .double) (n := iI 1) (k := 12) (N' := 1) (a0 := (1, .inr (.inr (.inr (.inl (fun _ => 0)))))) (cA := cD) hx hb (hts0 (.arrayClass .double) (by decide +kernel)) hF hs hS xD (vp_cell_d _ _ _) (by decide) rfl (show 1 * 8 ≤ 536870912 from Nat.le_of_ble_eq_true rfl) (Nat.le_of_ble_eq_true rfl) (Nat.le_of_ble_eq_true rfl) dL_law_21 (fun H hF hs hS => ?_)
  refine lv_astore (lv' := [(4, .ref (q9 + 12)), (3, .ref (q9 + 11)), (2, .ref q9), (1, .ref q), (0, .ref b)]) hx hb dL_law_23 hl (by decide) rfl (fun ls hl => ?_)
  refine r_iconst (n := 0) hx hb dL_law_25 ?_
  refine lv_istore (lv' := [(5, .int (iI 0)), (4, .ref (q9 + 12)), (3, .ref (q9 + 11)), (2, .ref q9), (1, .ref q), (0, .ref b)]) hx hb dL_law_26 hl (by decide) rfl (fun ls hl => ?_)
  have hLI := start_I h8 hI8 (Nat.le_of_eq hq) hq9 hF hS8 hS
  have hl : lv_has ls 10 [(0, .ref b), (1, .ref (adW q q9 8 0)), (2, .ref (adW q q9 9 0)), (3, .ref (q9 + 11)), (4, .ref (q9 + 12)), (5, .int (iI 0))] := by
    rw [adW_8, adW_9]
    exact lv_sub hl [5, 4, 3, 2, 1, 0] rfl
  refine W.widen (k := 232) (n := 5373) (Nat.le_of_ble_eq_true rfl) (Nat.le_of_ble_eq_true rfl) ?_
  refine law_loop hC (fun H locs cells slots ls hc hs hS => ?_) 513 0 u8 i9 a0 0 0 H locs9 232 5373 ls (by decide) (by decide) (by omega) (by decide) (by decide) hLI h8 SM0 hl
  refine va_forget (fun x hx => hS.2.2 x hx) ?_
  refine W.widen (k := 601024) (n := 7293034) hc hs ?_
  refine lv_iconst (v := 1) hx hb dL_law_2667 (by decide) ?_
  refine W.base ?_
  exact lw_ret (Drawn.sameBut.refl s.drawn lw_cs) hx hb hr hlocks dL_law_2668
