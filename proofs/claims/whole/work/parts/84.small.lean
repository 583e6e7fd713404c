/-! the law's small methods -/
set_option maxHeartbeats 4000000 in
set_option maxRecDepth 100000 in
theorem wL_append (l : Launch) (G : WG) (hfl : l.stackTraces = false) (qo : Nat) (hne : ∀ K i, vC K i → ¬ G.2.2.1 K i = qo) (st : St) (a0 a1 a2 a3 a4 : Int) (k : Int) (P : Int → Prop) (a : Ab) (h : f8_append (O8 k P a) (X8 mS k a) st a0 a1 a2 a3 a4) : Met l yL_append wsL_append ({ frames := 7, cells := 1, slots := 6, locals := 115 }) (PcL G st qo [.ref (G.2.2.1 8 0), .int (iI a0), .int (iI a1), .int (iI a2), .int (iI a3), .int (iI a4), .ref qo]) (QcL G qo cvI k P a) 1 6 G.2.2.2.1 := by
  refine met_ofWH (cc := cL_append) (maxL := 8) (ret := some .int) (by decide) rfl ?_
  intro p e s m args below meth c s₁ B hml hvv
  obtain ⟨rfl, hA, hI, hK, hX, hN, hqo, x0, ho⟩ := hvv
  have hx := B.exec
  have hb := B.bytes
  have hr := B.returns
  have hts := atoms_spec (ws := wsL_append) B.pre
  have hown : s.vm.findClass RL = some m.cls := findClass_of_methodNamed B.named
  have hlocks := B.notSynchronized
  have hE := vx_table (x := yL_append) B (hts (.codeWith yL_append cL_append 8 (some .int) [(0, 16, 19, 13)]) List.mem_cons_self)
  have hvt : vC 8 0 := ⟨by decide, by decide, by decide, by decide⟩
  have hin : ∀ K i, vC K i → G.2.2.2.1 (G.2.2.1 K i) := fun K i v => Iv_in hI v
  have hBA := own_in (n := s.heap.size) hI hA
  have hno : ¬ ownV vC G s.heap.size qo := fun z => by
    rcases z with ⟨K, i, v, e9⟩ | z
    · exact hne K i v e9
    · exact absurd ho.lt (Nat.not_lt.mpr z)
  have hl := lv_entry ([.ref (G.2.2.1 8 0), .int (iI a0), .int (iI a1), .int (iI a2), .int (iI a3), .int (iI a4), .ref qo]) (n := 8) (Nat.le_of_ble_eq_true rfl)
  rw [lg_entry_eq]
  generalize (lg_sl ([.ref (G.2.2.1 8 0), .int (iI a0), .int (iI a1), .int (iI a2), .int (iI a3), .int (iI a4), .ref qo]) ++ List.replicate (8 - (lg_sl ([.ref (G.2.2.1 8 0), .int (iI a0), .int (iI a1), .int (iI a2), .int (iI a3), .int (iI a4), .ref qo])).length) Slot.unset).toArray = ls at hl ⊢
  have hl : lv_has ls 8 [(0, .ref (G.2.2.1 8 0)), (1, .int (iI a0)), (2, .int (iI a1)), (3, .int (iI a2)), (4, .int (iI a3)), (5, .int (iI a4)), (6, .ref qo)] := hl
  refine lv_aload hx hb dL_append_0 (lv_at hl 6 rfl) ?_
  refine r_iconst (n := 0) hx hb dL_append_2 ?_
  refine lv_aload_n hx hb dL_append_3 rfl (lv_at hl 0 rfl) ?_
  refine lv_iload_n hx hb dL_append_4 rfl (lv_at hl 1 rfl) ?_
  refine lv_iload_n hx hb dL_append_5 rfl (lv_at hl 2 rfl) ?_
  refine lv_iload_n hx hb dL_append_6 rfl (lv_at hl 3 rfl) ?_
  refine lv_iload hx hb dL_append_7 (lv_at hl 4 rfl) ?_
  refine lv_iload hx hb dL_append_9 (lv_at hl 5 rfl) ?_
  refine vx_calli (vx_runV (As := [.int (iI a0), .int (iI a1), .int (iI a2), .int (iI a3), .int (iI a4)]) (rest := [.int (iI 0), .ref qo]) ⟨hx, hb, hml, hown, hts⟩ (m8_append l (wR G (ownV vC G s.heap.size)) hfl hvt _ _ st a0 a1 a2 a3 a4 h) (cwV 5 hts gL_append_X8_append rfl rfl rfl hd8_append ⟨Nat.le_of_ble_eq_true rfl, Nat.le_of_ble_eq_true rfl⟩) (pre_V (G := wR G (ownV vC G s.heap.size)) hK (XW_narrow hX hBA) (Iv_own _ hI) (fun q h9 => Or.inr h9) va_S.rf hvt rfl rfl [.int (iI a0), .int (iI a1), .int (iI a2), .int (iI a3), .int (iI a4)]) rfl rfl hl.1 rfl (lv_room (Nat.le_of_ble_eq_true rfl)) dL_append_11 ⟨Nat.le_of_ble_eq_true rfl, Nat.le_of_ble_eq_true rfl⟩) (va_S.rf : va_S G.2.2.2.1 s.heap s.heap []) (fun q _ h9 => hBA q h9) (fun q h9 => hBA q h9) (fun q _ h9 => hBA q h9) (fun E ce q9 u t H1 locs1 ht hvm _ hB hz hk hS1 hce hcv hcl => ?_) (fun r u t H1 locs1 ht hvm hp hB hz hk hS1 => ?_)
  · obtain ⟨⟨k0, mE, hSC⟩, hI1, hK1⟩ := hB
    rw [ht] at hI1
    have ho1 := ho.kept (hk qo ho.lt hno)
    have hI2 := Iv_back hI1 hin
    by_cases e0 : E = "java/lang/IllegalStateException"
    · subst e0
      have k1 : k = 1 := by rw [← mE]; decide
      subst k1
      refine vx_catch hown [] ⟨0, 16, 19, 13⟩ [] hE (fun z hz => by cases hz) (by decide) (by decide) (name := "java/lang/IllegalStateException") (hts (.classLink RL 13 "java/lang/IllegalStateException") (by decide +kernel)) (va_Nw.use rfl (hX.2.2.2.2.2.1 "java/lang/IllegalStateException" (by decide))) hce hcv hcl ?_
      refine lv_astore (lv' := [(7, .ref q9), (0, .ref (G.2.2.1 8 0)), (1, .int (iI a0)), (2, .int (iI a1)), (3, .int (iI a2)), (4, .int (iI a3)), (5, .int (iI a4)), (6, .ref qo)]) hx hb dL_append_19 hl (by decide) rfl (fun ls hl => ?_)
      refine r_iconst (n := 1) hx hb dL_append_21 ?_
      refine W.widen (k := 1) (n := 6) (by decide) (by decide) ?_
      exact w_ret (k := 1) hx hb hr hlocks hK hI2 hS1 (by decide) hSC ⟨x0, ho1, fun z => absurd z (by decide)⟩ dL_append_22
    · exfalso
      unfold mS at mE
      rw [if_neg e0] at mE
      exact k0 mE.symm
  · obtain ⟨z, rfl, hk0, hP, hSC⟩ := hp
    subst hk0
    obtain ⟨hI1, hK1⟩ := hB
    rw [ht] at hI1
    have ho1 := ho.kept (hk qo ho.lt hno)
    refine lv_i2l (v := cvI z) hx hb dL_append_14 rfl ?_
    refine W.widen (k := 1) (n := 6) (by decide) (by decide) ?_
    exact w_ok (cv := cvI) (tgt := 23) hx hb hr hlocks hK hI1 hin hne hS1 hSC hP ho1 hqo dL_append_15 dL_append_16 (by decide) dL_append_23 dL_append_24
set_option maxHeartbeats 4000000 in
set_option maxRecDepth 100000 in
theorem wL_count (l : Launch) (G : WG) (hfl : l.stackTraces = false) (qo : Nat) (hne : ∀ K i, vC K i → ¬ G.2.2.1 K i = qo) (st : St) (a0 : Int) (k : Int) (P : Int → Prop) (a : Ab) (h : f8_count (O8 k P a) (X8 mA k a) st a0) : Met l yL_count wsL_count ({ frames := 7, cells := 1, slots := 6, locals := 110 }) (PcL G st qo [.ref (G.2.2.1 8 0), .int (iI a0), .ref qo]) (QcL G qo cvI k P a) 1 6 G.2.2.2.1 := by
  refine met_ofWH (cc := cL_count) (maxL := 4) (ret := some .int) (by decide) rfl ?_
  intro p e s m args below meth c s₁ B hml hvv
  obtain ⟨rfl, hA, hI, hK, hX, hN, hqo, x0, ho⟩ := hvv
  have hx := B.exec
  have hb := B.bytes
  have hr := B.returns
  have hts := atoms_spec (ws := wsL_count) B.pre
  have hown : s.vm.findClass RL = some m.cls := findClass_of_methodNamed B.named
  have hlocks := B.notSynchronized
  have hE := vx_table (x := yL_count) B (hts (.codeWith yL_count cL_count 4 (some .int) [(0, 9, 12, 19)]) List.mem_cons_self)
  have hvt : vC 8 0 := ⟨by decide, by decide, by decide, by decide⟩
  have hin : ∀ K i, vC K i → G.2.2.2.1 (G.2.2.1 K i) := fun K i v => Iv_in hI v
  have hBA := own_in (n := s.heap.size) hI hA
  have hno : ¬ ownV vC G s.heap.size qo := fun z => by
    rcases z with ⟨K, i, v, e9⟩ | z
    · exact hne K i v e9
    · exact absurd ho.lt (Nat.not_lt.mpr z)
  have hl := lv_entry ([.ref (G.2.2.1 8 0), .int (iI a0), .ref qo]) (n := 4) (Nat.le_of_ble_eq_true rfl)
  rw [lg_entry_eq]
  generalize (lg_sl ([.ref (G.2.2.1 8 0), .int (iI a0), .ref qo]) ++ List.replicate (4 - (lg_sl ([.ref (G.2.2.1 8 0), .int (iI a0), .ref qo])).length) Slot.unset).toArray = ls at hl ⊢
  have hl : lv_has ls 4 [(0, .ref (G.2.2.1 8 0)), (1, .int (iI a0)), (2, .ref qo)] := hl
  refine lv_aload_n hx hb dL_count_0 rfl (lv_at hl 2 rfl) ?_
  refine r_iconst (n := 0) hx hb dL_count_1 ?_
  refine lv_aload_n hx hb dL_count_2 rfl (lv_at hl 0 rfl) ?_
  refine lv_iload_n hx hb dL_count_3 rfl (lv_at hl 1 rfl) ?_
  refine vx_calli (vx_runV (As := [.int (iI a0)]) (rest := [.int (iI 0), .ref qo]) ⟨hx, hb, hml, hown, hts⟩ (m8_count l (wR G (ownV vC G s.heap.size)) hfl hvt _ _ st a0 h) (cwV 1 hts gL_count_X8_count rfl rfl rfl hd8_count ⟨Nat.le_of_ble_eq_true rfl, Nat.le_of_ble_eq_true rfl⟩) (pre_V (G := wR G (ownV vC G s.heap.size)) hK (XW_narrow hX hBA) (Iv_own _ hI) (fun q h9 => Or.inr h9) va_S.rf hvt rfl rfl [.int (iI a0)]) rfl rfl hl.1 rfl (lv_room (Nat.le_of_ble_eq_true rfl)) dL_count_4 ⟨Nat.le_of_ble_eq_true rfl, Nat.le_of_ble_eq_true rfl⟩) (va_S.rf : va_S G.2.2.2.1 s.heap s.heap []) (fun q _ h9 => hBA q h9) (fun q h9 => hBA q h9) (fun q _ h9 => hBA q h9) (fun E ce q9 u t H1 locs1 ht hvm _ hB hz hk hS1 hce hcv hcl => ?_) (fun r u t H1 locs1 ht hvm hp hB hz hk hS1 => ?_)
  · obtain ⟨⟨k0, mE, hSC⟩, hI1, hK1⟩ := hB
    rw [ht] at hI1
    have ho1 := ho.kept (hk qo ho.lt hno)
    have hI2 := Iv_back hI1 hin
    by_cases e0 : E = "java/lang/IllegalArgumentException"
    · subst e0
      have k1 : k = 1 := by rw [← mE]; decide
      subst k1
      refine vx_catch hown [] ⟨0, 9, 12, 19⟩ [] hE (fun z hz => by cases hz) (by decide) (by decide) (name := "java/lang/IllegalArgumentException") (hts (.classLink RL 19 "java/lang/IllegalArgumentException") (by decide +kernel)) (va_Nw.use rfl (hX.2.2.2.2.2.1 "java/lang/IllegalArgumentException" (by decide))) hce hcv hcl ?_
      refine lv_astore_n (lv' := [(3, .ref q9), (0, .ref (G.2.2.1 8 0)), (1, .int (iI a0)), (2, .ref qo)]) hx hb dL_count_12 rfl hl (by decide) rfl (fun ls hl => ?_)
      refine r_iconst (n := 1) hx hb dL_count_13 ?_
      refine W.widen (k := 1) (n := 6) (by decide) (by decide) ?_
      exact w_ret (k := 1) hx hb hr hlocks hK hI2 hS1 (by decide) hSC ⟨x0, ho1, fun z => absurd z (by decide)⟩ dL_count_14
    · exfalso
      unfold mA at mE
      rw [if_neg e0] at mE
      exact k0 mE.symm
  · obtain ⟨z, rfl, hk0, hP, hSC⟩ := hp
    subst hk0
    obtain ⟨hI1, hK1⟩ := hB
    rw [ht] at hI1
    have ho1 := ho.kept (hk qo ho.lt hno)
    refine lv_i2l (v := cvI z) hx hb dL_count_7 rfl ?_
    refine W.widen (k := 1) (n := 6) (by decide) (by decide) ?_
    exact w_ok (cv := cvI) (tgt := 15) hx hb hr hlocks hK hI1 hin hne hS1 hSC hP ho1 hqo dL_count_8 dL_count_9 (by decide) dL_count_15 dL_count_16
set_option maxHeartbeats 4000000 in
set_option maxRecDepth 100000 in
theorem wL_support (l : Launch) (G : WG) (hfl : l.stackTraces = false) (qo : Nat) (hne : ∀ K i, vC K i → ¬ G.2.2.1 K i = qo) (st : St) (a0 a1 : Int) (k : Int) (P : Int → Prop) (a : Ab) (h : f8_support (O8 k P a) (X8 mI k a) st a0 a1) : Met l yL_support wsL_support ({ frames := 9, cells := 2, slots := 12, locals := 157 }) (PcL G st qo [.ref (G.2.2.1 8 0), .int (iI a0), .int (iI a1), .ref qo]) (QcL G qo cvI k P a) 2 12 G.2.2.2.1 := by
  refine met_ofWH (cc := cL_support) (maxL := 5) (ret := some .int) (by decide) rfl ?_
  intro p e s m args below meth c s₁ B hml hvv
  obtain ⟨rfl, hA, hI, hK, hX, hN, hqo, x0, ho⟩ := hvv
  have hx := B.exec
  have hb := B.bytes
  have hr := B.returns
  have hts := atoms_spec (ws := wsL_support) B.pre
  have hown : s.vm.findClass RL = some m.cls := findClass_of_methodNamed B.named
  have hlocks := B.notSynchronized
  have hE := vx_table (x := yL_support) B (hts (.codeWith yL_support cL_support 5 (some .int) [(0, 10, 13, 25), (0, 10, 17, 19)]) List.mem_cons_self)
  have hvt : vC 8 0 := ⟨by decide, by decide, by decide, by decide⟩
  have hin : ∀ K i, vC K i → G.2.2.2.1 (G.2.2.1 K i) := fun K i v => Iv_in hI v
  have hBA := own_in (n := s.heap.size) hI hA
  have hno : ¬ ownV vC G s.heap.size qo := fun z => by
    rcases z with ⟨K, i, v, e9⟩ | z
    · exact hne K i v e9
    · exact absurd ho.lt (Nat.not_lt.mpr z)
  have hl := lv_entry ([.ref (G.2.2.1 8 0), .int (iI a0), .int (iI a1), .ref qo]) (n := 5) (Nat.le_of_ble_eq_true rfl)
  rw [lg_entry_eq]
  generalize (lg_sl ([.ref (G.2.2.1 8 0), .int (iI a0), .int (iI a1), .ref qo]) ++ List.replicate (5 - (lg_sl ([.ref (G.2.2.1 8 0), .int (iI a0), .int (iI a1), .ref qo])).length) Slot.unset).toArray = ls at hl ⊢
  have hl : lv_has ls 5 [(0, .ref (G.2.2.1 8 0)), (1, .int (iI a0)), (2, .int (iI a1)), (3, .ref qo)] := hl
  refine lv_aload_n hx hb dL_support_0 rfl (lv_at hl 3 rfl) ?_
  refine r_iconst (n := 0) hx hb dL_support_1 ?_
  refine lv_aload_n hx hb dL_support_2 rfl (lv_at hl 0 rfl) ?_
  refine lv_iload_n hx hb dL_support_3 rfl (lv_at hl 1 rfl) ?_
  refine lv_iload_n hx hb dL_support_4 rfl (lv_at hl 2 rfl) ?_
  refine vx_calli (vx_runV (As := [.int (iI a0), .int (iI a1)]) (rest := [.int (iI 0), .ref qo]) ⟨hx, hb, hml, hown, hts⟩ (m8_support l (wR G (ownV vC G s.heap.size)) hfl hvt _ _ st a0 a1 h) (cwV 2 hts gL_support_X8_support rfl rfl rfl hd8_support ⟨Nat.le_of_ble_eq_true rfl, Nat.le_of_ble_eq_true rfl⟩) (pre_V (G := wR G (ownV vC G s.heap.size)) hK (XW_narrow hX hBA) (Iv_own _ hI) (fun q h9 => Or.inr h9) va_S.rf hvt rfl rfl [.int (iI a0), .int (iI a1)]) rfl rfl hl.1 rfl (lv_room (Nat.le_of_ble_eq_true rfl)) dL_support_5 ⟨Nat.le_of_ble_eq_true rfl, Nat.le_of_ble_eq_true rfl⟩) (va_S.rf : va_S G.2.2.2.1 s.heap s.heap []) (fun q _ h9 => hBA q h9) (fun q h9 => hBA q h9) (fun q _ h9 => hBA q h9) (fun E ce q9 u t H1 locs1 ht hvm _ hB hz hk hS1 hce hcv hcl => ?_) (fun r u t H1 locs1 ht hvm hp hB hz hk hS1 => ?_)
  · obtain ⟨⟨k0, mE, hSC⟩, hI1, hK1⟩ := hB
    rw [ht] at hI1
    have ho1 := ho.kept (hk qo ho.lt hno)
    have hI2 := Iv_back hI1 hin
    by_cases e0 : E = "java/lang/IndexOutOfBoundsException"
    · subst e0
      have k1 : k = 1 := by rw [← mE]; decide
      subst k1
      refine vx_catch hown [] ⟨0, 10, 13, 25⟩ [⟨0, 10, 17, 19⟩] hE (fun z hz => by cases hz) (by decide) (by decide) (name := "java/lang/IndexOutOfBoundsException") (hts (.classLink RL 25 "java/lang/IndexOutOfBoundsException") (by decide +kernel)) (va_Nw.use rfl (hX.2.2.2.2.2.1 "java/lang/IndexOutOfBoundsException" (by decide))) hce hcv hcl ?_
      refine lv_astore (lv' := [(4, .ref q9), (0, .ref (G.2.2.1 8 0)), (1, .int (iI a0)), (2, .int (iI a1)), (3, .ref qo)]) hx hb dL_support_13 hl (by decide) rfl (fun ls hl => ?_)
      refine r_iconst (n := 1) hx hb dL_support_15 ?_
      refine W.widen (k := 2) (n := 12) (by decide) (by decide) ?_
      exact w_ret (k := 1) hx hb hr hlocks hK hI2 hS1 (by decide) hSC ⟨x0, ho1, fun z => absurd z (by decide)⟩ dL_support_16
    by_cases e1 : E = "java/lang/IllegalArgumentException"
    · subst e1
      have k1 : k = 2 := by rw [← mE]; decide
      subst k1
      refine vx_catch hown [⟨0, 10, 13, 25⟩] ⟨0, 10, 17, 19⟩ [] hE (fun z hz => by cases hz with | head => exact Or.inr ⟨by decide, "java/lang/IndexOutOfBoundsException", hts (.classLink RL 25 "java/lang/IndexOutOfBoundsException") (by decide +kernel), hN.1⟩ | tail _ q => cases q) (by decide) (by decide) (name := "java/lang/IllegalArgumentException") (hts (.classLink RL 19 "java/lang/IllegalArgumentException") (by decide +kernel)) (va_Nw.use rfl (hX.2.2.2.2.2.1 "java/lang/IllegalArgumentException" (by decide))) hce hcv hcl ?_
      refine lv_astore (lv' := [(4, .ref q9), (0, .ref (G.2.2.1 8 0)), (1, .int (iI a0)), (2, .int (iI a1)), (3, .ref qo)]) hx hb dL_support_17 hl (by decide) rfl (fun ls hl => ?_)
      refine r_iconst (n := 2) hx hb dL_support_19 ?_
      refine W.widen (k := 2) (n := 12) (by decide) (by decide) ?_
      exact w_ret (k := 2) hx hb hr hlocks hK hI2 hS1 (by decide) hSC ⟨x0, ho1, fun z => absurd z (by decide)⟩ dL_support_20
    · exfalso
      unfold mI at mE
      rw [if_neg e0, if_neg e1] at mE
      exact k0 mE.symm
  · obtain ⟨z, rfl, hk0, hP, hSC⟩ := hp
    subst hk0
    obtain ⟨hI1, hK1⟩ := hB
    rw [ht] at hI1
    have ho1 := ho.kept (hk qo ho.lt hno)
    refine lv_i2l (v := cvI z) hx hb dL_support_8 rfl ?_
    refine W.widen (k := 2) (n := 12) (by decide) (by decide) ?_
    exact w_ok (cv := cvI) (tgt := 21) hx hb hr hlocks hK hI1 hin hne hS1 hSC hP ho1 hqo dL_support_9 dL_support_10 (by decide) dL_support_21 dL_support_22
set_option maxHeartbeats 4000000 in
set_option maxRecDepth 100000 in
theorem wL_hinge (l : Launch) (G : WG) (hfl : l.stackTraces = false) (qo : Nat) (hne : ∀ K i, vC K i → ¬ G.2.2.1 K i = qo) (st : St) (a0 : Int) (k : Int) (P : Int → Prop) (a : Ab) (h : f8_hinge (O8 k P a) (X8 mO k a) st a0) : Met l yL_hinge wsL_hinge ({ frames := 9, cells := 2, slots := 12, locals := 156 }) (PcL G st qo [.ref (G.2.2.1 8 0), .int (iI a0), .ref qo]) (QcL G qo cvI k P a) 2 12 G.2.2.2.1 := by
  refine met_ofWH (cc := cL_hinge) (maxL := 4) (ret := some .int) (by decide) rfl ?_
  intro p e s m args below meth c s₁ B hml hvv
  obtain ⟨rfl, hA, hI, hK, hX, hN, hqo, x0, ho⟩ := hvv
  have hx := B.exec
  have hb := B.bytes
  have hr := B.returns
  have hts := atoms_spec (ws := wsL_hinge) B.pre
  have hown : s.vm.findClass RL = some m.cls := findClass_of_methodNamed B.named
  have hlocks := B.notSynchronized
  have hE := vx_table (x := yL_hinge) B (hts (.codeWith yL_hinge cL_hinge 4 (some .int) [(0, 9, 12, 25)]) List.mem_cons_self)
  have hvt : vC 8 0 := ⟨by decide, by decide, by decide, by decide⟩
  have hin : ∀ K i, vC K i → G.2.2.2.1 (G.2.2.1 K i) := fun K i v => Iv_in hI v
  have hBA := own_in (n := s.heap.size) hI hA
  have hno : ¬ ownV vC G s.heap.size qo := fun z => by
    rcases z with ⟨K, i, v, e9⟩ | z
    · exact hne K i v e9
    · exact absurd ho.lt (Nat.not_lt.mpr z)
  have hl := lv_entry ([.ref (G.2.2.1 8 0), .int (iI a0), .ref qo]) (n := 4) (Nat.le_of_ble_eq_true rfl)
  rw [lg_entry_eq]
  generalize (lg_sl ([.ref (G.2.2.1 8 0), .int (iI a0), .ref qo]) ++ List.replicate (4 - (lg_sl ([.ref (G.2.2.1 8 0), .int (iI a0), .ref qo])).length) Slot.unset).toArray = ls at hl ⊢
  have hl : lv_has ls 4 [(0, .ref (G.2.2.1 8 0)), (1, .int (iI a0)), (2, .ref qo)] := hl
  refine lv_aload_n hx hb dL_hinge_0 rfl (lv_at hl 2 rfl) ?_
  refine r_iconst (n := 0) hx hb dL_hinge_1 ?_
  refine lv_aload_n hx hb dL_hinge_2 rfl (lv_at hl 0 rfl) ?_
  refine lv_iload_n hx hb dL_hinge_3 rfl (lv_at hl 1 rfl) ?_
  refine vx_calli (vx_runV (As := [.int (iI a0)]) (rest := [.int (iI 0), .ref qo]) ⟨hx, hb, hml, hown, hts⟩ (m8_hinge l (wR G (ownV vC G s.heap.size)) hfl hvt _ _ st a0 h) (cwV 1 hts gL_hinge_X8_hinge rfl rfl rfl hd8_hinge ⟨Nat.le_of_ble_eq_true rfl, Nat.le_of_ble_eq_true rfl⟩) (pre_V (G := wR G (ownV vC G s.heap.size)) hK (XW_narrow hX hBA) (Iv_own _ hI) (fun q h9 => Or.inr h9) va_S.rf hvt rfl rfl [.int (iI a0)]) rfl rfl hl.1 rfl (lv_room (Nat.le_of_ble_eq_true rfl)) dL_hinge_4 ⟨Nat.le_of_ble_eq_true rfl, Nat.le_of_ble_eq_true rfl⟩) (va_S.rf : va_S G.2.2.2.1 s.heap s.heap []) (fun q _ h9 => hBA q h9) (fun q h9 => hBA q h9) (fun q _ h9 => hBA q h9) (fun E ce q9 u t H1 locs1 ht hvm _ hB hz hk hS1 hce hcv hcl => ?_) (fun r u t H1 locs1 ht hvm hp hB hz hk hS1 => ?_)
  · obtain ⟨⟨k0, mE, hSC⟩, hI1, hK1⟩ := hB
    rw [ht] at hI1
    have ho1 := ho.kept (hk qo ho.lt hno)
    have hI2 := Iv_back hI1 hin
    by_cases e0 : E = "java/lang/IndexOutOfBoundsException"
    · subst e0
      have k1 : k = 1 := by rw [← mE]; decide
      subst k1
      refine vx_catch hown [] ⟨0, 9, 12, 25⟩ [] hE (fun z hz => by cases hz) (by decide) (by decide) (name := "java/lang/IndexOutOfBoundsException") (hts (.classLink RL 25 "java/lang/IndexOutOfBoundsException") (by decide +kernel)) (va_Nw.use rfl (hX.2.2.2.2.2.1 "java/lang/IndexOutOfBoundsException" (by decide))) hce hcv hcl ?_
      refine lv_astore_n (lv' := [(3, .ref q9), (0, .ref (G.2.2.1 8 0)), (1, .int (iI a0)), (2, .ref qo)]) hx hb dL_hinge_12 rfl hl (by decide) rfl (fun ls hl => ?_)
      refine r_iconst (n := 1) hx hb dL_hinge_13 ?_
      refine W.widen (k := 2) (n := 12) (by decide) (by decide) ?_
      exact w_ret (k := 1) hx hb hr hlocks hK hI2 hS1 (by decide) hSC ⟨x0, ho1, fun z => absurd z (by decide)⟩ dL_hinge_14
    · exfalso
      unfold mO at mE
      rw [if_neg e0] at mE
      exact k0 mE.symm
  · obtain ⟨z, rfl, hk0, hP, hSC⟩ := hp
    subst hk0
    obtain ⟨hI1, hK1⟩ := hB
    rw [ht] at hI1
    have ho1 := ho.kept (hk qo ho.lt hno)
    refine lv_i2l (v := cvI z) hx hb dL_hinge_7 rfl ?_
    refine W.widen (k := 2) (n := 12) (by decide) (by decide) ?_
    exact w_ok (cv := cvI) (tgt := 15) hx hb hr hlocks hK hI1 hin hne hS1 hSC hP ho1 hqo dL_hinge_8 dL_hinge_9 (by decide) dL_hinge_15 dL_hinge_16
set_option maxHeartbeats 4000000 in
set_option maxRecDepth 100000 in
theorem wL_weight (l : Launch) (G : WG) (hfl : l.stackTraces = false) (qo : Nat) (hne : ∀ K i, vC K i → ¬ G.2.2.1 K i = qo) (st : St) (a0 a1 : Int) (k : Int) (P : Int → Prop) (a : Ab) (h : f8_weight (O8 k P a) (X8 mI k a) st a0 a1) : Met l yL_weight wsL_weight ({ frames := 9, cells := 2, slots := 12, locals := 157 }) (PcL G st qo [.ref (G.2.2.1 8 0), .int (iI a0), .int (iI a1), .ref qo]) (QcL G qo cvI k P a) 2 12 G.2.2.2.1 := by
  refine met_ofWH (cc := cL_weight) (maxL := 5) (ret := some .int) (by decide) rfl ?_
  intro p e s m args below meth c s₁ B hml hvv
  obtain ⟨rfl, hA, hI, hK, hX, hN, hqo, x0, ho⟩ := hvv
  have hx := B.exec
  have hb := B.bytes
  have hr := B.returns
  have hts := atoms_spec (ws := wsL_weight) B.pre
  have hown : s.vm.findClass RL = some m.cls := findClass_of_methodNamed B.named
  have hlocks := B.notSynchronized
  have hE := vx_table (x := yL_weight) B (hts (.codeWith yL_weight cL_weight 5 (some .int) [(0, 10, 13, 25), (0, 10, 17, 19)]) List.mem_cons_self)
  have hvt : vC 8 0 := ⟨by decide, by decide, by decide, by decide⟩
  have hin : ∀ K i, vC K i → G.2.2.2.1 (G.2.2.1 K i) := fun K i v => Iv_in hI v
  have hBA := own_in (n := s.heap.size) hI hA
  have hno : ¬ ownV vC G s.heap.size qo := fun z => by
    rcases z with ⟨K, i, v, e9⟩ | z
    · exact hne K i v e9
    · exact absurd ho.lt (Nat.not_lt.mpr z)
  have hl := lv_entry ([.ref (G.2.2.1 8 0), .int (iI a0), .int (iI a1), .ref qo]) (n := 5) (Nat.le_of_ble_eq_true rfl)
  rw [lg_entry_eq]
  generalize (lg_sl ([.ref (G.2.2.1 8 0), .int (iI a0), .int (iI a1), .ref qo]) ++ List.replicate (5 - (lg_sl ([.ref (G.2.2.1 8 0), .int (iI a0), .int (iI a1), .ref qo])).length) Slot.unset).toArray = ls at hl ⊢
  have hl : lv_has ls 5 [(0, .ref (G.2.2.1 8 0)), (1, .int (iI a0)), (2, .int (iI a1)), (3, .ref qo)] := hl
  refine lv_aload_n hx hb dL_weight_0 rfl (lv_at hl 3 rfl) ?_
  refine r_iconst (n := 0) hx hb dL_weight_1 ?_
  refine lv_aload_n hx hb dL_weight_2 rfl (lv_at hl 0 rfl) ?_
  refine lv_iload_n hx hb dL_weight_3 rfl (lv_at hl 1 rfl) ?_
  refine lv_iload_n hx hb dL_weight_4 rfl (lv_at hl 2 rfl) ?_
  refine vx_calli (vx_runV (As := [.int (iI a0), .int (iI a1)]) (rest := [.int (iI 0), .ref qo]) ⟨hx, hb, hml, hown, hts⟩ (m8_weight l (wR G (ownV vC G s.heap.size)) hfl hvt _ _ st a0 a1 h) (cwV 2 hts gL_weight_X8_weight rfl rfl rfl hd8_weight ⟨Nat.le_of_ble_eq_true rfl, Nat.le_of_ble_eq_true rfl⟩) (pre_V (G := wR G (ownV vC G s.heap.size)) hK (XW_narrow hX hBA) (Iv_own _ hI) (fun q h9 => Or.inr h9) va_S.rf hvt rfl rfl [.int (iI a0), .int (iI a1)]) rfl rfl hl.1 rfl (lv_room (Nat.le_of_ble_eq_true rfl)) dL_weight_5 ⟨Nat.le_of_ble_eq_true rfl, Nat.le_of_ble_eq_true rfl⟩) (va_S.rf : va_S G.2.2.2.1 s.heap s.heap []) (fun q _ h9 => hBA q h9) (fun q h9 => hBA q h9) (fun q _ h9 => hBA q h9) (fun E ce q9 u t H1 locs1 ht hvm _ hB hz hk hS1 hce hcv hcl => ?_) (fun r u t H1 locs1 ht hvm hp hB hz hk hS1 => ?_)
  · obtain ⟨⟨k0, mE, hSC⟩, hI1, hK1⟩ := hB
    rw [ht] at hI1
    have ho1 := ho.kept (hk qo ho.lt hno)
    have hI2 := Iv_back hI1 hin
    by_cases e0 : E = "java/lang/IndexOutOfBoundsException"
    · subst e0
      have k1 : k = 1 := by rw [← mE]; decide
      subst k1
      refine vx_catch hown [] ⟨0, 10, 13, 25⟩ [⟨0, 10, 17, 19⟩] hE (fun z hz => by cases hz) (by decide) (by decide) (name := "java/lang/IndexOutOfBoundsException") (hts (.classLink RL 25 "java/lang/IndexOutOfBoundsException") (by decide +kernel)) (va_Nw.use rfl (hX.2.2.2.2.2.1 "java/lang/IndexOutOfBoundsException" (by decide))) hce hcv hcl ?_
      refine lv_astore (lv' := [(4, .ref q9), (0, .ref (G.2.2.1 8 0)), (1, .int (iI a0)), (2, .int (iI a1)), (3, .ref qo)]) hx hb dL_weight_13 hl (by decide) rfl (fun ls hl => ?_)
      refine r_iconst (n := 1) hx hb dL_weight_15 ?_
      refine W.widen (k := 2) (n := 12) (by decide) (by decide) ?_
      exact w_ret (k := 1) hx hb hr hlocks hK hI2 hS1 (by decide) hSC ⟨x0, ho1, fun z => absurd z (by decide)⟩ dL_weight_16
    by_cases e1 : E = "java/lang/IllegalArgumentException"
    · subst e1
      have k1 : k = 2 := by rw [← mE]; decide
      subst k1
      refine vx_catch hown [⟨0, 10, 13, 25⟩] ⟨0, 10, 17, 19⟩ [] hE (fun z hz => by cases hz with | head => exact Or.inr ⟨by decide, "java/lang/IndexOutOfBoundsException", hts (.classLink RL 25 "java/lang/IndexOutOfBoundsException") (by decide +kernel), hN.1⟩ | tail _ q => cases q) (by decide) (by decide) (name := "java/lang/IllegalArgumentException") (hts (.classLink RL 19 "java/lang/IllegalArgumentException") (by decide +kernel)) (va_Nw.use rfl (hX.2.2.2.2.2.1 "java/lang/IllegalArgumentException" (by decide))) hce hcv hcl ?_
      refine lv_astore (lv' := [(4, .ref q9), (0, .ref (G.2.2.1 8 0)), (1, .int (iI a0)), (2, .int (iI a1)), (3, .ref qo)]) hx hb dL_weight_17 hl (by decide) rfl (fun ls hl => ?_)
      refine r_iconst (n := 2) hx hb dL_weight_19 ?_
      refine W.widen (k := 2) (n := 12) (by decide) (by decide) ?_
      exact w_ret (k := 2) hx hb hr hlocks hK hI2 hS1 (by decide) hSC ⟨x0, ho1, fun z => absurd z (by decide)⟩ dL_weight_20
    · exfalso
      unfold mI at mE
      rw [if_neg e0, if_neg e1] at mE
      exact k0 mE.symm
  · obtain ⟨z, rfl, hk0, hP, hSC⟩ := hp
    subst hk0
    obtain ⟨hI1, hK1⟩ := hB
    rw [ht] at hI1
    have ho1 := ho.kept (hk qo ho.lt hno)
    refine lv_i2l (v := cvI z) hx hb dL_weight_8 rfl ?_
    refine W.widen (k := 2) (n := 12) (by decide) (by decide) ?_
    exact w_ok (cv := cvI) (tgt := 21) hx hb hr hlocks hK hI1 hin hne hS1 hSC hP ho1 hqo dL_weight_9 dL_weight_10 (by decide) dL_weight_21 dL_weight_22
set_option maxHeartbeats 4000000 in
set_option maxRecDepth 100000 in
theorem wL_axle (l : Launch) (G : WG) (hfl : l.stackTraces = false) (qo : Nat) (hne : ∀ K i, vC K i → ¬ G.2.2.1 K i = qo) (st : St) (a0 a1 : Int) (k : Int) (P : Int → Prop) (a : Ab) (h : f8_axle (O8 k P a) (X8 mI k a) st a0 a1) : Met l yL_axle wsL_axle ({ frames := 9, cells := 2, slots := 12, locals := 157 }) (PcL G st qo [.ref (G.2.2.1 8 0), .int (iI a0), .int (iI a1), .ref qo]) (QcL G qo cvI k P a) 2 12 G.2.2.2.1 := by
  refine met_ofWH (cc := cL_axle) (maxL := 5) (ret := some .int) (by decide) rfl ?_
  intro p e s m args below meth c s₁ B hml hvv
  obtain ⟨rfl, hA, hI, hK, hX, hN, hqo, x0, ho⟩ := hvv
  have hx := B.exec
  have hb := B.bytes
  have hr := B.returns
  have hts := atoms_spec (ws := wsL_axle) B.pre
  have hown : s.vm.findClass RL = some m.cls := findClass_of_methodNamed B.named
  have hlocks := B.notSynchronized
  have hE := vx_table (x := yL_axle) B (hts (.codeWith yL_axle cL_axle 5 (some .int) [(0, 10, 13, 25), (0, 10, 17, 19)]) List.mem_cons_self)
  have hvt : vC 8 0 := ⟨by decide, by decide, by decide, by decide⟩
  have hin : ∀ K i, vC K i → G.2.2.2.1 (G.2.2.1 K i) := fun K i v => Iv_in hI v
  have hBA := own_in (n := s.heap.size) hI hA
  have hno : ¬ ownV vC G s.heap.size qo := fun z => by
    rcases z with ⟨K, i, v, e9⟩ | z
    · exact hne K i v e9
    · exact absurd ho.lt (Nat.not_lt.mpr z)
  have hl := lv_entry ([.ref (G.2.2.1 8 0), .int (iI a0), .int (iI a1), .ref qo]) (n := 5) (Nat.le_of_ble_eq_true rfl)
  rw [lg_entry_eq]
  generalize (lg_sl ([.ref (G.2.2.1 8 0), .int (iI a0), .int (iI a1), .ref qo]) ++ List.replicate (5 - (lg_sl ([.ref (G.2.2.1 8 0), .int (iI a0), .int (iI a1), .ref qo])).length) Slot.unset).toArray = ls at hl ⊢
  have hl : lv_has ls 5 [(0, .ref (G.2.2.1 8 0)), (1, .int (iI a0)), (2, .int (iI a1)), (3, .ref qo)] := hl
  refine lv_aload_n hx hb dL_axle_0 rfl (lv_at hl 3 rfl) ?_
  refine r_iconst (n := 0) hx hb dL_axle_1 ?_
  refine lv_aload_n hx hb dL_axle_2 rfl (lv_at hl 0 rfl) ?_
  refine lv_iload_n hx hb dL_axle_3 rfl (lv_at hl 1 rfl) ?_
  refine lv_iload_n hx hb dL_axle_4 rfl (lv_at hl 2 rfl) ?_
  refine vx_calli (vx_runV (As := [.int (iI a0), .int (iI a1)]) (rest := [.int (iI 0), .ref qo]) ⟨hx, hb, hml, hown, hts⟩ (m8_axle l (wR G (ownV vC G s.heap.size)) hfl hvt _ _ st a0 a1 h) (cwV 2 hts gL_axle_X8_axle rfl rfl rfl hd8_axle ⟨Nat.le_of_ble_eq_true rfl, Nat.le_of_ble_eq_true rfl⟩) (pre_V (G := wR G (ownV vC G s.heap.size)) hK (XW_narrow hX hBA) (Iv_own _ hI) (fun q h9 => Or.inr h9) va_S.rf hvt rfl rfl [.int (iI a0), .int (iI a1)]) rfl rfl hl.1 rfl (lv_room (Nat.le_of_ble_eq_true rfl)) dL_axle_5 ⟨Nat.le_of_ble_eq_true rfl, Nat.le_of_ble_eq_true rfl⟩) (va_S.rf : va_S G.2.2.2.1 s.heap s.heap []) (fun q _ h9 => hBA q h9) (fun q h9 => hBA q h9) (fun q _ h9 => hBA q h9) (fun E ce q9 u t H1 locs1 ht hvm _ hB hz hk hS1 hce hcv hcl => ?_) (fun r u t H1 locs1 ht hvm hp hB hz hk hS1 => ?_)
  · obtain ⟨⟨k0, mE, hSC⟩, hI1, hK1⟩ := hB
    rw [ht] at hI1
    have ho1 := ho.kept (hk qo ho.lt hno)
    have hI2 := Iv_back hI1 hin
    by_cases e0 : E = "java/lang/IndexOutOfBoundsException"
    · subst e0
      have k1 : k = 1 := by rw [← mE]; decide
      subst k1
      refine vx_catch hown [] ⟨0, 10, 13, 25⟩ [⟨0, 10, 17, 19⟩] hE (fun z hz => by cases hz) (by decide) (by decide) (name := "java/lang/IndexOutOfBoundsException") (hts (.classLink RL 25 "java/lang/IndexOutOfBoundsException") (by decide +kernel)) (va_Nw.use rfl (hX.2.2.2.2.2.1 "java/lang/IndexOutOfBoundsException" (by decide))) hce hcv hcl ?_
      refine lv_astore (lv' := [(4, .ref q9), (0, .ref (G.2.2.1 8 0)), (1, .int (iI a0)), (2, .int (iI a1)), (3, .ref qo)]) hx hb dL_axle_13 hl (by decide) rfl (fun ls hl => ?_)
      refine r_iconst (n := 1) hx hb dL_axle_15 ?_
      refine W.widen (k := 2) (n := 12) (by decide) (by decide) ?_
      exact w_ret (k := 1) hx hb hr hlocks hK hI2 hS1 (by decide) hSC ⟨x0, ho1, fun z => absurd z (by decide)⟩ dL_axle_16
    by_cases e1 : E = "java/lang/IllegalArgumentException"
    · subst e1
      have k1 : k = 2 := by rw [← mE]; decide
      subst k1
      refine vx_catch hown [⟨0, 10, 13, 25⟩] ⟨0, 10, 17, 19⟩ [] hE (fun z hz => by cases hz with | head => exact Or.inr ⟨by decide, "java/lang/IndexOutOfBoundsException", hts (.classLink RL 25 "java/lang/IndexOutOfBoundsException") (by decide +kernel), hN.1⟩ | tail _ q => cases q) (by decide) (by decide) (name := "java/lang/IllegalArgumentException") (hts (.classLink RL 19 "java/lang/IllegalArgumentException") (by decide +kernel)) (va_Nw.use rfl (hX.2.2.2.2.2.1 "java/lang/IllegalArgumentException" (by decide))) hce hcv hcl ?_
      refine lv_astore (lv' := [(4, .ref q9), (0, .ref (G.2.2.1 8 0)), (1, .int (iI a0)), (2, .int (iI a1)), (3, .ref qo)]) hx hb dL_axle_17 hl (by decide) rfl (fun ls hl => ?_)
      refine r_iconst (n := 2) hx hb dL_axle_19 ?_
      refine W.widen (k := 2) (n := 12) (by decide) (by decide) ?_
      exact w_ret (k := 2) hx hb hr hlocks hK hI2 hS1 (by decide) hSC ⟨x0, ho1, fun z => absurd z (by decide)⟩ dL_axle_20
    · exfalso
      unfold mI at mE
      rw [if_neg e0, if_neg e1] at mE
      exact k0 mE.symm
  · obtain ⟨z, rfl, hk0, hP, hSC⟩ := hp
    subst hk0
    obtain ⟨hI1, hK1⟩ := hB
    rw [ht] at hI1
    have ho1 := ho.kept (hk qo ho.lt hno)
    refine lv_i2l (v := cvI z) hx hb dL_axle_8 rfl ?_
    refine W.widen (k := 2) (n := 12) (by decide) (by decide) ?_
    exact w_ok (cv := cvI) (tgt := 21) hx hb hr hlocks hK hI1 hin hne hS1 hSC hP ho1 hqo dL_axle_9 dL_axle_10 (by decide) dL_axle_21 dL_axle_22
set_option maxHeartbeats 4000000 in
set_option maxRecDepth 100000 in
theorem wL_part (l : Launch) (G : WG) (hfl : l.stackTraces = false) (qo : Nat) (hne : ∀ K i, vC K i → ¬ G.2.2.1 K i = qo) (st : St) (a0 : Int) (k : Int) (P : Int → Prop) (a : Ab) (h : f8_part (O8 k P a) (X8 mO k a) st a0) : Met l yL_part wsL_part ({ frames := 8, cells := 1, slots := 6, locals := 131 }) (PcL G st qo [.ref (G.2.2.1 8 0), .int (iI a0), .ref qo]) (QcL G qo cvI k P a) 1 6 G.2.2.2.1 := by
  refine met_ofWH (cc := cL_part) (maxL := 4) (ret := some .int) (by decide) rfl ?_
  intro p e s m args below meth c s₁ B hml hvv
  obtain ⟨rfl, hA, hI, hK, hX, hN, hqo, x0, ho⟩ := hvv
  have hx := B.exec
  have hb := B.bytes
  have hr := B.returns
  have hts := atoms_spec (ws := wsL_part) B.pre
  have hown : s.vm.findClass RL = some m.cls := findClass_of_methodNamed B.named
  have hlocks := B.notSynchronized
  have hE := vx_table (x := yL_part) B (hts (.codeWith yL_part cL_part 4 (some .int) [(0, 9, 12, 25)]) List.mem_cons_self)
  have hvt : vC 8 0 := ⟨by decide, by decide, by decide, by decide⟩
  have hin : ∀ K i, vC K i → G.2.2.2.1 (G.2.2.1 K i) := fun K i v => Iv_in hI v
  have hBA := own_in (n := s.heap.size) hI hA
  have hno : ¬ ownV vC G s.heap.size qo := fun z => by
    rcases z with ⟨K, i, v, e9⟩ | z
    · exact hne K i v e9
    · exact absurd ho.lt (Nat.not_lt.mpr z)
  have hl := lv_entry ([.ref (G.2.2.1 8 0), .int (iI a0), .ref qo]) (n := 4) (Nat.le_of_ble_eq_true rfl)
  rw [lg_entry_eq]
  generalize (lg_sl ([.ref (G.2.2.1 8 0), .int (iI a0), .ref qo]) ++ List.replicate (4 - (lg_sl ([.ref (G.2.2.1 8 0), .int (iI a0), .ref qo])).length) Slot.unset).toArray = ls at hl ⊢
  have hl : lv_has ls 4 [(0, .ref (G.2.2.1 8 0)), (1, .int (iI a0)), (2, .ref qo)] := hl
  refine lv_aload_n hx hb dL_part_0 rfl (lv_at hl 2 rfl) ?_
  refine r_iconst (n := 0) hx hb dL_part_1 ?_
  refine lv_aload_n hx hb dL_part_2 rfl (lv_at hl 0 rfl) ?_
  refine lv_iload_n hx hb dL_part_3 rfl (lv_at hl 1 rfl) ?_
  refine vx_calli (vx_runV (As := [.int (iI a0)]) (rest := [.int (iI 0), .ref qo]) ⟨hx, hb, hml, hown, hts⟩ (m8_part l (wR G (ownV vC G s.heap.size)) hfl hvt _ _ st a0 h) (cwV 1 hts gL_part_X8_part rfl rfl rfl hd8_part ⟨Nat.le_of_ble_eq_true rfl, Nat.le_of_ble_eq_true rfl⟩) (pre_V (G := wR G (ownV vC G s.heap.size)) hK (XW_narrow hX hBA) (Iv_own _ hI) (fun q h9 => Or.inr h9) va_S.rf hvt rfl rfl [.int (iI a0)]) rfl rfl hl.1 rfl (lv_room (Nat.le_of_ble_eq_true rfl)) dL_part_4 ⟨Nat.le_of_ble_eq_true rfl, Nat.le_of_ble_eq_true rfl⟩) (va_S.rf : va_S G.2.2.2.1 s.heap s.heap []) (fun q _ h9 => hBA q h9) (fun q h9 => hBA q h9) (fun q _ h9 => hBA q h9) (fun E ce q9 u t H1 locs1 ht hvm _ hB hz hk hS1 hce hcv hcl => ?_) (fun r u t H1 locs1 ht hvm hp hB hz hk hS1 => ?_)
  · obtain ⟨⟨k0, mE, hSC⟩, hI1, hK1⟩ := hB
    rw [ht] at hI1
    have ho1 := ho.kept (hk qo ho.lt hno)
    have hI2 := Iv_back hI1 hin
    by_cases e0 : E = "java/lang/IndexOutOfBoundsException"
    · subst e0
      have k1 : k = 1 := by rw [← mE]; decide
      subst k1
      refine vx_catch hown [] ⟨0, 9, 12, 25⟩ [] hE (fun z hz => by cases hz) (by decide) (by decide) (name := "java/lang/IndexOutOfBoundsException") (hts (.classLink RL 25 "java/lang/IndexOutOfBoundsException") (by decide +kernel)) (va_Nw.use rfl (hX.2.2.2.2.2.1 "java/lang/IndexOutOfBoundsException" (by decide))) hce hcv hcl ?_
      refine lv_astore_n (lv' := [(3, .ref q9), (0, .ref (G.2.2.1 8 0)), (1, .int (iI a0)), (2, .ref qo)]) hx hb dL_part_12 rfl hl (by decide) rfl (fun ls hl => ?_)
      refine r_iconst (n := 1) hx hb dL_part_13 ?_
      refine W.widen (k := 1) (n := 6) (by decide) (by decide) ?_
      exact w_ret (k := 1) hx hb hr hlocks hK hI2 hS1 (by decide) hSC ⟨x0, ho1, fun z => absurd z (by decide)⟩ dL_part_14
    · exfalso
      unfold mO at mE
      rw [if_neg e0] at mE
      exact k0 mE.symm
  · obtain ⟨z, rfl, hk0, hP, hSC⟩ := hp
    subst hk0
    obtain ⟨hI1, hK1⟩ := hB
    rw [ht] at hI1
    have ho1 := ho.kept (hk qo ho.lt hno)
    refine lv_i2l (v := cvI z) hx hb dL_part_7 rfl ?_
    refine W.widen (k := 1) (n := 6) (by decide) (by decide) ?_
    exact w_ok (cv := cvI) (tgt := 15) hx hb hr hlocks hK hI1 hin hne hS1 hSC hP ho1 hqo dL_part_8 dL_part_9 (by decide) dL_part_15 dL_part_16
set_option maxHeartbeats 4000000 in
set_option maxRecDepth 100000 in
theorem wL_reactionLine (l : Launch) (G : WG) (hfl : l.stackTraces = false) (qo : Nat) (hne : ∀ K i, vC K i → ¬ G.2.2.1 K i = qo) (st : St) (a0 a1 : Int) (k : Int) (P : Int → Prop) (a : Ab) (h : f8_reactionLine (O8 k P a) (X8 mO k a) st a0 a1) : Met l yL_reactionLine wsL_reactionLine ({ frames := 8, cells := 2, slots := 12, locals := 133 }) (PcL G st qo [.ref (G.2.2.1 8 0), .int (iI a0), .int (iI a1), .ref qo]) (QcL G qo lI k P a) 2 12 G.2.2.2.1 := by
  refine met_ofWH (cc := cL_reactionLine) (maxL := 5) (ret := some .int) (by decide) rfl ?_
  intro p e s m args below meth c s₁ B hml hvv
  obtain ⟨rfl, hA, hI, hK, hX, hN, hqo, x0, ho⟩ := hvv
  have hx := B.exec
  have hb := B.bytes
  have hr := B.returns
  have hts := atoms_spec (ws := wsL_reactionLine) B.pre
  have hown : s.vm.findClass RL = some m.cls := findClass_of_methodNamed B.named
  have hlocks := B.notSynchronized
  have hE := vx_table (x := yL_reactionLine) B (hts (.codeWith yL_reactionLine cL_reactionLine 5 (some .int) [(0, 9, 12, 25)]) List.mem_cons_self)
  have hvt : vC 8 0 := ⟨by decide, by decide, by decide, by decide⟩
  have hin : ∀ K i, vC K i → G.2.2.2.1 (G.2.2.1 K i) := fun K i v => Iv_in hI v
  have hBA := own_in (n := s.heap.size) hI hA
  have hno : ¬ ownV vC G s.heap.size qo := fun z => by
    rcases z with ⟨K, i, v, e9⟩ | z
    · exact hne K i v e9
    · exact absurd ho.lt (Nat.not_lt.mpr z)
  have hl := lv_entry ([.ref (G.2.2.1 8 0), .int (iI a0), .int (iI a1), .ref qo]) (n := 5) (Nat.le_of_ble_eq_true rfl)
  rw [lg_entry_eq]
  generalize (lg_sl ([.ref (G.2.2.1 8 0), .int (iI a0), .int (iI a1), .ref qo]) ++ List.replicate (5 - (lg_sl ([.ref (G.2.2.1 8 0), .int (iI a0), .int (iI a1), .ref qo])).length) Slot.unset).toArray = ls at hl ⊢
  have hl : lv_has ls 5 [(0, .ref (G.2.2.1 8 0)), (1, .int (iI a0)), (2, .int (iI a1)), (3, .ref qo)] := hl
  refine lv_aload_n hx hb dL_reactionLine_0 rfl (lv_at hl 3 rfl) ?_
  refine r_iconst (n := 0) hx hb dL_reactionLine_1 ?_
  refine lv_aload_n hx hb dL_reactionLine_2 rfl (lv_at hl 0 rfl) ?_
  refine lv_iload_n hx hb dL_reactionLine_3 rfl (lv_at hl 1 rfl) ?_
  refine lv_iload_n hx hb dL_reactionLine_4 rfl (lv_at hl 2 rfl) ?_
  refine vx_calll (vx_runV (As := [.int (iI a0), .int (iI a1)]) (rest := [.int (iI 0), .ref qo]) ⟨hx, hb, hml, hown, hts⟩ (m8_reactionLine l (wR G (ownV vC G s.heap.size)) hfl hvt _ _ st a0 a1 h) (cwV 2 hts gL_reactionLine_X8_reactionLine rfl rfl rfl hd8_reactionLine ⟨Nat.le_of_ble_eq_true rfl, Nat.le_of_ble_eq_true rfl⟩) (pre_V (G := wR G (ownV vC G s.heap.size)) hK (XW_narrow hX hBA) (Iv_own _ hI) (fun q h9 => Or.inr h9) va_S.rf hvt rfl rfl [.int (iI a0), .int (iI a1)]) rfl rfl hl.1 rfl (lv_room (Nat.le_of_ble_eq_true rfl)) dL_reactionLine_5 ⟨Nat.le_of_ble_eq_true rfl, Nat.le_of_ble_eq_true rfl⟩) (va_S.rf : va_S G.2.2.2.1 s.heap s.heap []) (fun q _ h9 => hBA q h9) (fun q h9 => hBA q h9) (fun q _ h9 => hBA q h9) (fun E ce q9 u t H1 locs1 ht hvm _ hB hz hk hS1 hce hcv hcl => ?_) (fun r u t H1 locs1 ht hvm hp hB hz hk hS1 => ?_)
  · obtain ⟨⟨k0, mE, hSC⟩, hI1, hK1⟩ := hB
    rw [ht] at hI1
    have ho1 := ho.kept (hk qo ho.lt hno)
    have hI2 := Iv_back hI1 hin
    by_cases e0 : E = "java/lang/IndexOutOfBoundsException"
    · subst e0
      have k1 : k = 1 := by rw [← mE]; decide
      subst k1
      refine vx_catch hown [] ⟨0, 9, 12, 25⟩ [] hE (fun z hz => by cases hz) (by decide) (by decide) (name := "java/lang/IndexOutOfBoundsException") (hts (.classLink RL 25 "java/lang/IndexOutOfBoundsException") (by decide +kernel)) (va_Nw.use rfl (hX.2.2.2.2.2.1 "java/lang/IndexOutOfBoundsException" (by decide))) hce hcv hcl ?_
      refine lv_astore (lv' := [(4, .ref q9), (0, .ref (G.2.2.1 8 0)), (1, .int (iI a0)), (2, .int (iI a1)), (3, .ref qo)]) hx hb dL_reactionLine_12 hl (by decide) rfl (fun ls hl => ?_)
      refine r_iconst (n := 1) hx hb dL_reactionLine_14 ?_
      refine W.widen (k := 2) (n := 12) (by decide) (by decide) ?_
      exact w_ret (k := 1) hx hb hr hlocks hK hI2 hS1 (by decide) hSC ⟨x0, ho1, fun z => absurd z (by decide)⟩ dL_reactionLine_15
    · exfalso
      unfold mO at mE
      rw [if_neg e0] at mE
      exact k0 mE.symm
  · obtain ⟨z, rfl, hk0, hP, hSC⟩ := hp
    subst hk0
    obtain ⟨hI1, hK1⟩ := hB
    rw [ht] at hI1
    have ho1 := ho.kept (hk qo ho.lt hno)
    refine W.widen (k := 2) (n := 12) (by decide) (by decide) ?_
    exact w_ok (cv := lI) (tgt := 16) hx hb hr hlocks hK hI1 hin hne hS1 hSC hP ho1 hqo dL_reactionLine_8 dL_reactionLine_9 (by decide) dL_reactionLine_16 dL_reactionLine_17
set_option maxHeartbeats 4000000 in
set_option maxRecDepth 100000 in
theorem wL_shearLine (l : Launch) (G : WG) (hfl : l.stackTraces = false) (qo : Nat) (hne : ∀ K i, vC K i → ¬ G.2.2.1 K i = qo) (st : St) (a0 a1 : Int) (k : Int) (P : Int → Prop) (a : Ab) (h : f8_shearLine (O8 k P a) (X8 mO k a) st a0 a1) : Met l yL_shearLine wsL_shearLine ({ frames := 8, cells := 2, slots := 12, locals := 139 }) (PcL G st qo [.ref (G.2.2.1 8 0), .int (iI a0), .int (iI a1), .ref qo]) (QcL G qo lI k P a) 2 12 G.2.2.2.1 := by
  refine met_ofWH (cc := cL_shearLine) (maxL := 5) (ret := some .int) (by decide) rfl ?_
  intro p e s m args below meth c s₁ B hml hvv
  obtain ⟨rfl, hA, hI, hK, hX, hN, hqo, x0, ho⟩ := hvv
  have hx := B.exec
  have hb := B.bytes
  have hr := B.returns
  have hts := atoms_spec (ws := wsL_shearLine) B.pre
  have hown : s.vm.findClass RL = some m.cls := findClass_of_methodNamed B.named
  have hlocks := B.notSynchronized
  have hE := vx_table (x := yL_shearLine) B (hts (.codeWith yL_shearLine cL_shearLine 5 (some .int) [(0, 9, 12, 25)]) List.mem_cons_self)
  have hvt : vC 8 0 := ⟨by decide, by decide, by decide, by decide⟩
  have hin : ∀ K i, vC K i → G.2.2.2.1 (G.2.2.1 K i) := fun K i v => Iv_in hI v
  have hBA := own_in (n := s.heap.size) hI hA
  have hno : ¬ ownV vC G s.heap.size qo := fun z => by
    rcases z with ⟨K, i, v, e9⟩ | z
    · exact hne K i v e9
    · exact absurd ho.lt (Nat.not_lt.mpr z)
  have hl := lv_entry ([.ref (G.2.2.1 8 0), .int (iI a0), .int (iI a1), .ref qo]) (n := 5) (Nat.le_of_ble_eq_true rfl)
  rw [lg_entry_eq]
  generalize (lg_sl ([.ref (G.2.2.1 8 0), .int (iI a0), .int (iI a1), .ref qo]) ++ List.replicate (5 - (lg_sl ([.ref (G.2.2.1 8 0), .int (iI a0), .int (iI a1), .ref qo])).length) Slot.unset).toArray = ls at hl ⊢
  have hl : lv_has ls 5 [(0, .ref (G.2.2.1 8 0)), (1, .int (iI a0)), (2, .int (iI a1)), (3, .ref qo)] := hl
  refine lv_aload_n hx hb dL_shearLine_0 rfl (lv_at hl 3 rfl) ?_
  refine r_iconst (n := 0) hx hb dL_shearLine_1 ?_
  refine lv_aload_n hx hb dL_shearLine_2 rfl (lv_at hl 0 rfl) ?_
  refine lv_iload_n hx hb dL_shearLine_3 rfl (lv_at hl 1 rfl) ?_
  refine lv_iload_n hx hb dL_shearLine_4 rfl (lv_at hl 2 rfl) ?_
  refine vx_calll (vx_runV (As := [.int (iI a0), .int (iI a1)]) (rest := [.int (iI 0), .ref qo]) ⟨hx, hb, hml, hown, hts⟩ (m8_shearLine l (wR G (ownV vC G s.heap.size)) hfl hvt _ _ st a0 a1 h) (cwV 2 hts gL_shearLine_X8_shearLine rfl rfl rfl hd8_shearLine ⟨Nat.le_of_ble_eq_true rfl, Nat.le_of_ble_eq_true rfl⟩) (pre_V (G := wR G (ownV vC G s.heap.size)) hK (XW_narrow hX hBA) (Iv_own _ hI) (fun q h9 => Or.inr h9) va_S.rf hvt rfl rfl [.int (iI a0), .int (iI a1)]) rfl rfl hl.1 rfl (lv_room (Nat.le_of_ble_eq_true rfl)) dL_shearLine_5 ⟨Nat.le_of_ble_eq_true rfl, Nat.le_of_ble_eq_true rfl⟩) (va_S.rf : va_S G.2.2.2.1 s.heap s.heap []) (fun q _ h9 => hBA q h9) (fun q h9 => hBA q h9) (fun q _ h9 => hBA q h9) (fun E ce q9 u t H1 locs1 ht hvm _ hB hz hk hS1 hce hcv hcl => ?_) (fun r u t H1 locs1 ht hvm hp hB hz hk hS1 => ?_)
  · obtain ⟨⟨k0, mE, hSC⟩, hI1, hK1⟩ := hB
    rw [ht] at hI1
    have ho1 := ho.kept (hk qo ho.lt hno)
    have hI2 := Iv_back hI1 hin
    by_cases e0 : E = "java/lang/IndexOutOfBoundsException"
    · subst e0
      have k1 : k = 1 := by rw [← mE]; decide
      subst k1
      refine vx_catch hown [] ⟨0, 9, 12, 25⟩ [] hE (fun z hz => by cases hz) (by decide) (by decide) (name := "java/lang/IndexOutOfBoundsException") (hts (.classLink RL 25 "java/lang/IndexOutOfBoundsException") (by decide +kernel)) (va_Nw.use rfl (hX.2.2.2.2.2.1 "java/lang/IndexOutOfBoundsException" (by decide))) hce hcv hcl ?_
      refine lv_astore (lv' := [(4, .ref q9), (0, .ref (G.2.2.1 8 0)), (1, .int (iI a0)), (2, .int (iI a1)), (3, .ref qo)]) hx hb dL_shearLine_12 hl (by decide) rfl (fun ls hl => ?_)
      refine r_iconst (n := 1) hx hb dL_shearLine_14 ?_
      refine W.widen (k := 2) (n := 12) (by decide) (by decide) ?_
      exact w_ret (k := 1) hx hb hr hlocks hK hI2 hS1 (by decide) hSC ⟨x0, ho1, fun z => absurd z (by decide)⟩ dL_shearLine_15
    · exfalso
      unfold mO at mE
      rw [if_neg e0] at mE
      exact k0 mE.symm
  · obtain ⟨z, rfl, hk0, hP, hSC⟩ := hp
    subst hk0
    obtain ⟨hI1, hK1⟩ := hB
    rw [ht] at hI1
    have ho1 := ho.kept (hk qo ho.lt hno)
    refine W.widen (k := 2) (n := 12) (by decide) (by decide) ?_
    exact w_ok (cv := lI) (tgt := 16) hx hb hr hlocks hK hI1 hin hne hS1 hSC hP ho1 hqo dL_shearLine_8 dL_shearLine_9 (by decide) dL_shearLine_16 dL_shearLine_17
set_option maxHeartbeats 4000000 in
set_option maxRecDepth 100000 in
theorem wL_momentLine (l : Launch) (G : WG) (hfl : l.stackTraces = false) (qo : Nat) (hne : ∀ K i, vC K i → ¬ G.2.2.1 K i = qo) (st : St) (a0 a1 : Int) (k : Int) (P : Int → Prop) (a : Ab) (h : f8_momentLine (O8 k P a) (X8 mO k a) st a0 a1) : Met l yL_momentLine wsL_momentLine ({ frames := 8, cells := 2, slots := 12, locals := 161 }) (PcL G st qo [.ref (G.2.2.1 8 0), .int (iI a0), .int (iI a1), .ref qo]) (QcL G qo lI k P a) 2 12 G.2.2.2.1 := by
  refine met_ofWH (cc := cL_momentLine) (maxL := 5) (ret := some .int) (by decide) rfl ?_
  intro p e s m args below meth c s₁ B hml hvv
  obtain ⟨rfl, hA, hI, hK, hX, hN, hqo, x0, ho⟩ := hvv
  have hx := B.exec
  have hb := B.bytes
  have hr := B.returns
  have hts := atoms_spec (ws := wsL_momentLine) B.pre
  have hown : s.vm.findClass RL = some m.cls := findClass_of_methodNamed B.named
  have hlocks := B.notSynchronized
  have hE := vx_table (x := yL_momentLine) B (hts (.codeWith yL_momentLine cL_momentLine 5 (some .int) [(0, 9, 12, 25)]) List.mem_cons_self)
  have hvt : vC 8 0 := ⟨by decide, by decide, by decide, by decide⟩
  have hin : ∀ K i, vC K i → G.2.2.2.1 (G.2.2.1 K i) := fun K i v => Iv_in hI v
  have hBA := own_in (n := s.heap.size) hI hA
  have hno : ¬ ownV vC G s.heap.size qo := fun z => by
    rcases z with ⟨K, i, v, e9⟩ | z
    · exact hne K i v e9
    · exact absurd ho.lt (Nat.not_lt.mpr z)
  have hl := lv_entry ([.ref (G.2.2.1 8 0), .int (iI a0), .int (iI a1), .ref qo]) (n := 5) (Nat.le_of_ble_eq_true rfl)
  rw [lg_entry_eq]
  generalize (lg_sl ([.ref (G.2.2.1 8 0), .int (iI a0), .int (iI a1), .ref qo]) ++ List.replicate (5 - (lg_sl ([.ref (G.2.2.1 8 0), .int (iI a0), .int (iI a1), .ref qo])).length) Slot.unset).toArray = ls at hl ⊢
  have hl : lv_has ls 5 [(0, .ref (G.2.2.1 8 0)), (1, .int (iI a0)), (2, .int (iI a1)), (3, .ref qo)] := hl
  refine lv_aload_n hx hb dL_momentLine_0 rfl (lv_at hl 3 rfl) ?_
  refine r_iconst (n := 0) hx hb dL_momentLine_1 ?_
  refine lv_aload_n hx hb dL_momentLine_2 rfl (lv_at hl 0 rfl) ?_
  refine lv_iload_n hx hb dL_momentLine_3 rfl (lv_at hl 1 rfl) ?_
  refine lv_iload_n hx hb dL_momentLine_4 rfl (lv_at hl 2 rfl) ?_
  refine vx_calll (vx_runV (As := [.int (iI a0), .int (iI a1)]) (rest := [.int (iI 0), .ref qo]) ⟨hx, hb, hml, hown, hts⟩ (m8_momentLine l (wR G (ownV vC G s.heap.size)) hfl hvt _ _ st a0 a1 h) (cwV 2 hts gL_momentLine_X8_momentLine rfl rfl rfl hd8_momentLine ⟨Nat.le_of_ble_eq_true rfl, Nat.le_of_ble_eq_true rfl⟩) (pre_V (G := wR G (ownV vC G s.heap.size)) hK (XW_narrow hX hBA) (Iv_own _ hI) (fun q h9 => Or.inr h9) va_S.rf hvt rfl rfl [.int (iI a0), .int (iI a1)]) rfl rfl hl.1 rfl (lv_room (Nat.le_of_ble_eq_true rfl)) dL_momentLine_5 ⟨Nat.le_of_ble_eq_true rfl, Nat.le_of_ble_eq_true rfl⟩) (va_S.rf : va_S G.2.2.2.1 s.heap s.heap []) (fun q _ h9 => hBA q h9) (fun q h9 => hBA q h9) (fun q _ h9 => hBA q h9) (fun E ce q9 u t H1 locs1 ht hvm _ hB hz hk hS1 hce hcv hcl => ?_) (fun r u t H1 locs1 ht hvm hp hB hz hk hS1 => ?_)
  · obtain ⟨⟨k0, mE, hSC⟩, hI1, hK1⟩ := hB
    rw [ht] at hI1
    have ho1 := ho.kept (hk qo ho.lt hno)
    have hI2 := Iv_back hI1 hin
    by_cases e0 : E = "java/lang/IndexOutOfBoundsException"
    · subst e0
      have k1 : k = 1 := by rw [← mE]; decide
      subst k1
      refine vx_catch hown [] ⟨0, 9, 12, 25⟩ [] hE (fun z hz => by cases hz) (by decide) (by decide) (name := "java/lang/IndexOutOfBoundsException") (hts (.classLink RL 25 "java/lang/IndexOutOfBoundsException") (by decide +kernel)) (va_Nw.use rfl (hX.2.2.2.2.2.1 "java/lang/IndexOutOfBoundsException" (by decide))) hce hcv hcl ?_
      refine lv_astore (lv' := [(4, .ref q9), (0, .ref (G.2.2.1 8 0)), (1, .int (iI a0)), (2, .int (iI a1)), (3, .ref qo)]) hx hb dL_momentLine_12 hl (by decide) rfl (fun ls hl => ?_)
      refine r_iconst (n := 1) hx hb dL_momentLine_14 ?_
      refine W.widen (k := 2) (n := 12) (by decide) (by decide) ?_
      exact w_ret (k := 1) hx hb hr hlocks hK hI2 hS1 (by decide) hSC ⟨x0, ho1, fun z => absurd z (by decide)⟩ dL_momentLine_15
    · exfalso
      unfold mO at mE
      rw [if_neg e0] at mE
      exact k0 mE.symm
  · obtain ⟨z, rfl, hk0, hP, hSC⟩ := hp
    subst hk0
    obtain ⟨hI1, hK1⟩ := hB
    rw [ht] at hI1
    have ho1 := ho.kept (hk qo ho.lt hno)
    refine W.widen (k := 2) (n := 12) (by decide) (by decide) ?_
    exact w_ok (cv := lI) (tgt := 16) hx hb hr hlocks hK hI1 hin hne hS1 hSC hP ho1 hqo dL_momentLine_8 dL_momentLine_9 (by decide) dL_momentLine_16 dL_momentLine_17
set_option maxHeartbeats 4000000 in
set_option maxRecDepth 100000 in
theorem wL_area (l : Launch) (G : WG) (hfl : l.stackTraces = false) (qo : Nat) (hne : ∀ K i, vC K i → ¬ G.2.2.1 K i = qo) (st : St) (a0 : Int) (k : Int) (P : Int → Prop) (a : Ab) (h : f8_area (O8 k P a) (X8 mO k a) st a0) : Met l yL_area wsL_area ({ frames := 8, cells := 1, slots := 6, locals := 163 }) (PcL G st qo [.ref (G.2.2.1 8 0), .int (iI a0), .ref qo]) (QcL G qo lI k P a) 1 6 G.2.2.2.1 := by
  refine met_ofWH (cc := cL_area) (maxL := 4) (ret := some .int) (by decide) rfl ?_
  intro p e s m args below meth c s₁ B hml hvv
  obtain ⟨rfl, hA, hI, hK, hX, hN, hqo, x0, ho⟩ := hvv
  have hx := B.exec
  have hb := B.bytes
  have hr := B.returns
  have hts := atoms_spec (ws := wsL_area) B.pre
  have hown : s.vm.findClass RL = some m.cls := findClass_of_methodNamed B.named
  have hlocks := B.notSynchronized
  have hE := vx_table (x := yL_area) B (hts (.codeWith yL_area cL_area 4 (some .int) [(0, 8, 11, 25)]) List.mem_cons_self)
  have hvt : vC 8 0 := ⟨by decide, by decide, by decide, by decide⟩
  have hin : ∀ K i, vC K i → G.2.2.2.1 (G.2.2.1 K i) := fun K i v => Iv_in hI v
  have hBA := own_in (n := s.heap.size) hI hA
  have hno : ¬ ownV vC G s.heap.size qo := fun z => by
    rcases z with ⟨K, i, v, e9⟩ | z
    · exact hne K i v e9
    · exact absurd ho.lt (Nat.not_lt.mpr z)
  have hl := lv_entry ([.ref (G.2.2.1 8 0), .int (iI a0), .ref qo]) (n := 4) (Nat.le_of_ble_eq_true rfl)
  rw [lg_entry_eq]
  generalize (lg_sl ([.ref (G.2.2.1 8 0), .int (iI a0), .ref qo]) ++ List.replicate (4 - (lg_sl ([.ref (G.2.2.1 8 0), .int (iI a0), .ref qo])).length) Slot.unset).toArray = ls at hl ⊢
  have hl : lv_has ls 4 [(0, .ref (G.2.2.1 8 0)), (1, .int (iI a0)), (2, .ref qo)] := hl
  refine lv_aload_n hx hb dL_area_0 rfl (lv_at hl 2 rfl) ?_
  refine r_iconst (n := 0) hx hb dL_area_1 ?_
  refine lv_aload_n hx hb dL_area_2 rfl (lv_at hl 0 rfl) ?_
  refine lv_iload_n hx hb dL_area_3 rfl (lv_at hl 1 rfl) ?_
  refine vx_calll (vx_runV (As := [.int (iI a0)]) (rest := [.int (iI 0), .ref qo]) ⟨hx, hb, hml, hown, hts⟩ (m8_area l (wR G (ownV vC G s.heap.size)) hfl hvt _ _ st a0 h) (cwV 1 hts gL_area_X8_area rfl rfl rfl hd8_area ⟨Nat.le_of_ble_eq_true rfl, Nat.le_of_ble_eq_true rfl⟩) (pre_V (G := wR G (ownV vC G s.heap.size)) hK (XW_narrow hX hBA) (Iv_own _ hI) (fun q h9 => Or.inr h9) va_S.rf hvt rfl rfl [.int (iI a0)]) rfl rfl hl.1 rfl (lv_room (Nat.le_of_ble_eq_true rfl)) dL_area_4 ⟨Nat.le_of_ble_eq_true rfl, Nat.le_of_ble_eq_true rfl⟩) (va_S.rf : va_S G.2.2.2.1 s.heap s.heap []) (fun q _ h9 => hBA q h9) (fun q h9 => hBA q h9) (fun q _ h9 => hBA q h9) (fun E ce q9 u t H1 locs1 ht hvm _ hB hz hk hS1 hce hcv hcl => ?_) (fun r u t H1 locs1 ht hvm hp hB hz hk hS1 => ?_)
  · obtain ⟨⟨k0, mE, hSC⟩, hI1, hK1⟩ := hB
    rw [ht] at hI1
    have ho1 := ho.kept (hk qo ho.lt hno)
    have hI2 := Iv_back hI1 hin
    by_cases e0 : E = "java/lang/IndexOutOfBoundsException"
    · subst e0
      have k1 : k = 1 := by rw [← mE]; decide
      subst k1
      refine vx_catch hown [] ⟨0, 8, 11, 25⟩ [] hE (fun z hz => by cases hz) (by decide) (by decide) (name := "java/lang/IndexOutOfBoundsException") (hts (.classLink RL 25 "java/lang/IndexOutOfBoundsException") (by decide +kernel)) (va_Nw.use rfl (hX.2.2.2.2.2.1 "java/lang/IndexOutOfBoundsException" (by decide))) hce hcv hcl ?_
      refine lv_astore_n (lv' := [(3, .ref q9), (0, .ref (G.2.2.1 8 0)), (1, .int (iI a0)), (2, .ref qo)]) hx hb dL_area_11 rfl hl (by decide) rfl (fun ls hl => ?_)
      refine r_iconst (n := 1) hx hb dL_area_12 ?_
      refine W.widen (k := 1) (n := 6) (by decide) (by decide) ?_
      exact w_ret (k := 1) hx hb hr hlocks hK hI2 hS1 (by decide) hSC ⟨x0, ho1, fun z => absurd z (by decide)⟩ dL_area_13
    · exfalso
      unfold mO at mE
      rw [if_neg e0] at mE
      exact k0 mE.symm
  · obtain ⟨z, rfl, hk0, hP, hSC⟩ := hp
    subst hk0
    obtain ⟨hI1, hK1⟩ := hB
    rw [ht] at hI1
    have ho1 := ho.kept (hk qo ho.lt hno)
    refine W.widen (k := 1) (n := 6) (by decide) (by decide) ?_
    exact w_ok (cv := lI) (tgt := 14) hx hb hr hlocks hK hI1 hin hne hS1 hSC hP ho1 hqo dL_area_7 dL_area_8 (by decide) dL_area_14 dL_area_15
set_option maxHeartbeats 4000000 in
set_option maxRecDepth 100000 in
theorem wL_still (l : Launch) (G : WG) (hfl : l.stackTraces = false) (qo : Nat) (hne : ∀ K i, vC K i → ¬ G.2.2.1 K i = qo) (st : St) (a0 : Int) (k : Int) (P : Int → Prop) (a : Ab) (h : f8_still (O8 k P a) (X8 mO k a) st a0) : Met l yL_still wsL_still ({ frames := 8, cells := 1, slots := 6, locals := 162 }) (PcL G st qo [.ref (G.2.2.1 8 0), .int (iI a0), .ref qo]) (QcL G qo cvI k P a) 1 6 G.2.2.2.1 := by
  refine met_ofWH (cc := cL_still) (maxL := 4) (ret := some .int) (by decide) rfl ?_
  intro p e s m args below meth c s₁ B hml hvv
  obtain ⟨rfl, hA, hI, hK, hX, hN, hqo, x0, ho⟩ := hvv
  have hx := B.exec
  have hb := B.bytes
  have hr := B.returns
  have hts := atoms_spec (ws := wsL_still) B.pre
  have hown : s.vm.findClass RL = some m.cls := findClass_of_methodNamed B.named
  have hlocks := B.notSynchronized
  have hE := vx_table (x := yL_still) B (hts (.codeWith yL_still cL_still 4 (some .int) [(0, 9, 12, 25)]) List.mem_cons_self)
  have hvt : vC 8 0 := ⟨by decide, by decide, by decide, by decide⟩
  have hin : ∀ K i, vC K i → G.2.2.2.1 (G.2.2.1 K i) := fun K i v => Iv_in hI v
  have hBA := own_in (n := s.heap.size) hI hA
  have hno : ¬ ownV vC G s.heap.size qo := fun z => by
    rcases z with ⟨K, i, v, e9⟩ | z
    · exact hne K i v e9
    · exact absurd ho.lt (Nat.not_lt.mpr z)
  have hl := lv_entry ([.ref (G.2.2.1 8 0), .int (iI a0), .ref qo]) (n := 4) (Nat.le_of_ble_eq_true rfl)
  rw [lg_entry_eq]
  generalize (lg_sl ([.ref (G.2.2.1 8 0), .int (iI a0), .ref qo]) ++ List.replicate (4 - (lg_sl ([.ref (G.2.2.1 8 0), .int (iI a0), .ref qo])).length) Slot.unset).toArray = ls at hl ⊢
  have hl : lv_has ls 4 [(0, .ref (G.2.2.1 8 0)), (1, .int (iI a0)), (2, .ref qo)] := hl
  refine lv_aload_n hx hb dL_still_0 rfl (lv_at hl 2 rfl) ?_
  refine r_iconst (n := 0) hx hb dL_still_1 ?_
  refine lv_aload_n hx hb dL_still_2 rfl (lv_at hl 0 rfl) ?_
  refine lv_iload_n hx hb dL_still_3 rfl (lv_at hl 1 rfl) ?_
  refine vx_calli (vx_runV (As := [.int (iI a0)]) (rest := [.int (iI 0), .ref qo]) ⟨hx, hb, hml, hown, hts⟩ (m8_still l (wR G (ownV vC G s.heap.size)) hfl hvt _ _ st a0 h) (cwV 1 hts gL_still_X8_still rfl rfl rfl hd8_still ⟨Nat.le_of_ble_eq_true rfl, Nat.le_of_ble_eq_true rfl⟩) (pre_V (G := wR G (ownV vC G s.heap.size)) hK (XW_narrow hX hBA) (Iv_own _ hI) (fun q h9 => Or.inr h9) va_S.rf hvt rfl rfl [.int (iI a0)]) rfl rfl hl.1 rfl (lv_room (Nat.le_of_ble_eq_true rfl)) dL_still_4 ⟨Nat.le_of_ble_eq_true rfl, Nat.le_of_ble_eq_true rfl⟩) (va_S.rf : va_S G.2.2.2.1 s.heap s.heap []) (fun q _ h9 => hBA q h9) (fun q h9 => hBA q h9) (fun q _ h9 => hBA q h9) (fun E ce q9 u t H1 locs1 ht hvm _ hB hz hk hS1 hce hcv hcl => ?_) (fun r u t H1 locs1 ht hvm hp hB hz hk hS1 => ?_)
  · obtain ⟨⟨k0, mE, hSC⟩, hI1, hK1⟩ := hB
    rw [ht] at hI1
    have ho1 := ho.kept (hk qo ho.lt hno)
    have hI2 := Iv_back hI1 hin
    by_cases e0 : E = "java/lang/IndexOutOfBoundsException"
    · subst e0
      have k1 : k = 1 := by rw [← mE]; decide
      subst k1
      refine vx_catch hown [] ⟨0, 9, 12, 25⟩ [] hE (fun z hz => by cases hz) (by decide) (by decide) (name := "java/lang/IndexOutOfBoundsException") (hts (.classLink RL 25 "java/lang/IndexOutOfBoundsException") (by decide +kernel)) (va_Nw.use rfl (hX.2.2.2.2.2.1 "java/lang/IndexOutOfBoundsException" (by decide))) hce hcv hcl ?_
      refine lv_astore_n (lv' := [(3, .ref q9), (0, .ref (G.2.2.1 8 0)), (1, .int (iI a0)), (2, .ref qo)]) hx hb dL_still_12 rfl hl (by decide) rfl (fun ls hl => ?_)
      refine r_iconst (n := 1) hx hb dL_still_13 ?_
      refine W.widen (k := 1) (n := 6) (by decide) (by decide) ?_
      exact w_ret (k := 1) hx hb hr hlocks hK hI2 hS1 (by decide) hSC ⟨x0, ho1, fun z => absurd z (by decide)⟩ dL_still_14
    · exfalso
      unfold mO at mE
      rw [if_neg e0] at mE
      exact k0 mE.symm
  · obtain ⟨z, rfl, hk0, hP, hSC⟩ := hp
    subst hk0
    obtain ⟨hI1, hK1⟩ := hB
    rw [ht] at hI1
    have ho1 := ho.kept (hk qo ho.lt hno)
    refine lv_i2l (v := cvI z) hx hb dL_still_7 rfl ?_
    refine W.widen (k := 1) (n := 6) (by decide) (by decide) ?_
    exact w_ok (cv := cvI) (tgt := 15) hx hb hr hlocks hK hI1 hin hne hS1 hSC hP ho1 hqo dL_still_8 dL_still_9 (by decide) dL_still_15 dL_still_16
set_option maxHeartbeats 4000000 in
set_option maxRecDepth 100000 in
theorem wL_gap (l : Launch) (G : WG) (hfl : l.stackTraces = false) (qo : Nat) (hne : ∀ K i, vC K i → ¬ G.2.2.1 K i = qo) (st : St) (a0 a1 : Int) (k : Int) (P : Int → Prop) (a : Ab) (h : f8_gap (O8 k P a) (X8 mO k a) st a0 a1) : Met l yL_gap wsL_gap ({ frames := 8, cells := 2, slots := 12, locals := 161 }) (PcL G st qo [.ref (G.2.2.1 8 0), .int (iI a0), .int (iI a1), .ref qo]) (QcL G qo lI k P a) 2 12 G.2.2.2.1 := by
  refine met_ofWH (cc := cL_gap) (maxL := 5) (ret := some .int) (by decide) rfl ?_
  intro p e s m args below meth c s₁ B hml hvv
  obtain ⟨rfl, hA, hI, hK, hX, hN, hqo, x0, ho⟩ := hvv
  have hx := B.exec
  have hb := B.bytes
  have hr := B.returns
  have hts := atoms_spec (ws := wsL_gap) B.pre
  have hown : s.vm.findClass RL = some m.cls := findClass_of_methodNamed B.named
  have hlocks := B.notSynchronized
  have hE := vx_table (x := yL_gap) B (hts (.codeWith yL_gap cL_gap 5 (some .int) [(0, 9, 12, 25)]) List.mem_cons_self)
  have hvt : vC 8 0 := ⟨by decide, by decide, by decide, by decide⟩
  have hin : ∀ K i, vC K i → G.2.2.2.1 (G.2.2.1 K i) := fun K i v => Iv_in hI v
  have hBA := own_in (n := s.heap.size) hI hA
  have hno : ¬ ownV vC G s.heap.size qo := fun z => by
    rcases z with ⟨K, i, v, e9⟩ | z
    · exact hne K i v e9
    · exact absurd ho.lt (Nat.not_lt.mpr z)
  have hl := lv_entry ([.ref (G.2.2.1 8 0), .int (iI a0), .int (iI a1), .ref qo]) (n := 5) (Nat.le_of_ble_eq_true rfl)
  rw [lg_entry_eq]
  generalize (lg_sl ([.ref (G.2.2.1 8 0), .int (iI a0), .int (iI a1), .ref qo]) ++ List.replicate (5 - (lg_sl ([.ref (G.2.2.1 8 0), .int (iI a0), .int (iI a1), .ref qo])).length) Slot.unset).toArray = ls at hl ⊢
  have hl : lv_has ls 5 [(0, .ref (G.2.2.1 8 0)), (1, .int (iI a0)), (2, .int (iI a1)), (3, .ref qo)] := hl
  refine lv_aload_n hx hb dL_gap_0 rfl (lv_at hl 3 rfl) ?_
  refine r_iconst (n := 0) hx hb dL_gap_1 ?_
  refine lv_aload_n hx hb dL_gap_2 rfl (lv_at hl 0 rfl) ?_
  refine lv_iload_n hx hb dL_gap_3 rfl (lv_at hl 1 rfl) ?_
  refine lv_iload_n hx hb dL_gap_4 rfl (lv_at hl 2 rfl) ?_
  refine vx_calll (vx_runV (As := [.int (iI a0), .int (iI a1)]) (rest := [.int (iI 0), .ref qo]) ⟨hx, hb, hml, hown, hts⟩ (m8_gap l (wR G (ownV vC G s.heap.size)) hfl hvt _ _ st a0 a1 h) (cwV 2 hts gL_gap_X8_gap rfl rfl rfl hd8_gap ⟨Nat.le_of_ble_eq_true rfl, Nat.le_of_ble_eq_true rfl⟩) (pre_V (G := wR G (ownV vC G s.heap.size)) hK (XW_narrow hX hBA) (Iv_own _ hI) (fun q h9 => Or.inr h9) va_S.rf hvt rfl rfl [.int (iI a0), .int (iI a1)]) rfl rfl hl.1 rfl (lv_room (Nat.le_of_ble_eq_true rfl)) dL_gap_5 ⟨Nat.le_of_ble_eq_true rfl, Nat.le_of_ble_eq_true rfl⟩) (va_S.rf : va_S G.2.2.2.1 s.heap s.heap []) (fun q _ h9 => hBA q h9) (fun q h9 => hBA q h9) (fun q _ h9 => hBA q h9) (fun E ce q9 u t H1 locs1 ht hvm _ hB hz hk hS1 hce hcv hcl => ?_) (fun r u t H1 locs1 ht hvm hp hB hz hk hS1 => ?_)
  · obtain ⟨⟨k0, mE, hSC⟩, hI1, hK1⟩ := hB
    rw [ht] at hI1
    have ho1 := ho.kept (hk qo ho.lt hno)
    have hI2 := Iv_back hI1 hin
    by_cases e0 : E = "java/lang/IndexOutOfBoundsException"
    · subst e0
      have k1 : k = 1 := by rw [← mE]; decide
      subst k1
      refine vx_catch hown [] ⟨0, 9, 12, 25⟩ [] hE (fun z hz => by cases hz) (by decide) (by decide) (name := "java/lang/IndexOutOfBoundsException") (hts (.classLink RL 25 "java/lang/IndexOutOfBoundsException") (by decide +kernel)) (va_Nw.use rfl (hX.2.2.2.2.2.1 "java/lang/IndexOutOfBoundsException" (by decide))) hce hcv hcl ?_
      refine lv_astore (lv' := [(4, .ref q9), (0, .ref (G.2.2.1 8 0)), (1, .int (iI a0)), (2, .int (iI a1)), (3, .ref qo)]) hx hb dL_gap_12 hl (by decide) rfl (fun ls hl => ?_)
      refine r_iconst (n := 1) hx hb dL_gap_14 ?_
      refine W.widen (k := 2) (n := 12) (by decide) (by decide) ?_
      exact w_ret (k := 1) hx hb hr hlocks hK hI2 hS1 (by decide) hSC ⟨x0, ho1, fun z => absurd z (by decide)⟩ dL_gap_15
    · exfalso
      unfold mO at mE
      rw [if_neg e0] at mE
      exact k0 mE.symm
  · obtain ⟨z, rfl, hk0, hP, hSC⟩ := hp
    subst hk0
    obtain ⟨hI1, hK1⟩ := hB
    rw [ht] at hI1
    have ho1 := ho.kept (hk qo ho.lt hno)
    refine W.widen (k := 2) (n := 12) (by decide) (by decide) ?_
    exact w_ok (cv := lI) (tgt := 16) hx hb hr hlocks hK hI1 hin hne hS1 hSC hP ho1 hqo dL_gap_8 dL_gap_9 (by decide) dL_gap_16 dL_gap_17
set_option maxHeartbeats 4000000 in
set_option maxRecDepth 100000 in
theorem wL_reaction (l : Launch) (G : WG) (hfl : l.stackTraces = false) (qo : Nat) (hne : ∀ K i, vC K i → ¬ G.2.2.1 K i = qo) (st : St) (a0 a1 : Int) (k : Int) (P : Int → Prop) (a : Ab) (h : f8_reaction (O8 k P a) (X8 mI k a) st a0 a1) : Met l yL_reaction wsL_reaction ({ frames := 9, cells := 2, slots := 12, locals := 155 }) (PcL G st qo [.ref (G.2.2.1 8 0), .int (iI a0), .int (iI a1), .ref qo]) (QcL G qo lI k P a) 2 12 G.2.2.2.1 := by
  refine met_ofWH (cc := cL_reaction) (maxL := 5) (ret := some .int) (by decide) rfl ?_
  intro p e s m args below meth c s₁ B hml hvv
  obtain ⟨rfl, hA, hI, hK, hX, hN, hqo, x0, ho⟩ := hvv
  have hx := B.exec
  have hb := B.bytes
  have hr := B.returns
  have hts := atoms_spec (ws := wsL_reaction) B.pre
  have hown : s.vm.findClass RL = some m.cls := findClass_of_methodNamed B.named
  have hlocks := B.notSynchronized
  have hE := vx_table (x := yL_reaction) B (hts (.codeWith yL_reaction cL_reaction 5 (some .int) [(0, 9, 12, 25), (0, 9, 16, 19)]) List.mem_cons_self)
  have hvt : vC 8 0 := ⟨by decide, by decide, by decide, by decide⟩
  have hin : ∀ K i, vC K i → G.2.2.2.1 (G.2.2.1 K i) := fun K i v => Iv_in hI v
  have hBA := own_in (n := s.heap.size) hI hA
  have hno : ¬ ownV vC G s.heap.size qo := fun z => by
    rcases z with ⟨K, i, v, e9⟩ | z
    · exact hne K i v e9
    · exact absurd ho.lt (Nat.not_lt.mpr z)
  have hl := lv_entry ([.ref (G.2.2.1 8 0), .int (iI a0), .int (iI a1), .ref qo]) (n := 5) (Nat.le_of_ble_eq_true rfl)
  rw [lg_entry_eq]
  generalize (lg_sl ([.ref (G.2.2.1 8 0), .int (iI a0), .int (iI a1), .ref qo]) ++ List.replicate (5 - (lg_sl ([.ref (G.2.2.1 8 0), .int (iI a0), .int (iI a1), .ref qo])).length) Slot.unset).toArray = ls at hl ⊢
  have hl : lv_has ls 5 [(0, .ref (G.2.2.1 8 0)), (1, .int (iI a0)), (2, .int (iI a1)), (3, .ref qo)] := hl
  refine lv_aload_n hx hb dL_reaction_0 rfl (lv_at hl 3 rfl) ?_
  refine r_iconst (n := 0) hx hb dL_reaction_1 ?_
  refine lv_aload_n hx hb dL_reaction_2 rfl (lv_at hl 0 rfl) ?_
  refine lv_iload_n hx hb dL_reaction_3 rfl (lv_at hl 1 rfl) ?_
  refine lv_iload_n hx hb dL_reaction_4 rfl (lv_at hl 2 rfl) ?_
  refine vx_calll (vx_runV (As := [.int (iI a0), .int (iI a1)]) (rest := [.int (iI 0), .ref qo]) ⟨hx, hb, hml, hown, hts⟩ (m8_reaction l (wR G (ownV vC G s.heap.size)) hfl hvt _ _ st a0 a1 h) (cwV 2 hts gL_reaction_X8_reaction rfl rfl rfl hd8_reaction ⟨Nat.le_of_ble_eq_true rfl, Nat.le_of_ble_eq_true rfl⟩) (pre_V (G := wR G (ownV vC G s.heap.size)) hK (XW_narrow hX hBA) (Iv_own _ hI) (fun q h9 => Or.inr h9) va_S.rf hvt rfl rfl [.int (iI a0), .int (iI a1)]) rfl rfl hl.1 rfl (lv_room (Nat.le_of_ble_eq_true rfl)) dL_reaction_5 ⟨Nat.le_of_ble_eq_true rfl, Nat.le_of_ble_eq_true rfl⟩) (va_S.rf : va_S G.2.2.2.1 s.heap s.heap []) (fun q _ h9 => hBA q h9) (fun q h9 => hBA q h9) (fun q _ h9 => hBA q h9) (fun E ce q9 u t H1 locs1 ht hvm _ hB hz hk hS1 hce hcv hcl => ?_) (fun r u t H1 locs1 ht hvm hp hB hz hk hS1 => ?_)
  · obtain ⟨⟨k0, mE, hSC⟩, hI1, hK1⟩ := hB
    rw [ht] at hI1
    have ho1 := ho.kept (hk qo ho.lt hno)
    have hI2 := Iv_back hI1 hin
    by_cases e0 : E = "java/lang/IndexOutOfBoundsException"
    · subst e0
      have k1 : k = 1 := by rw [← mE]; decide
      subst k1
      refine vx_catch hown [] ⟨0, 9, 12, 25⟩ [⟨0, 9, 16, 19⟩] hE (fun z hz => by cases hz) (by decide) (by decide) (name := "java/lang/IndexOutOfBoundsException") (hts (.classLink RL 25 "java/lang/IndexOutOfBoundsException") (by decide +kernel)) (va_Nw.use rfl (hX.2.2.2.2.2.1 "java/lang/IndexOutOfBoundsException" (by decide))) hce hcv hcl ?_
      refine lv_astore (lv' := [(4, .ref q9), (0, .ref (G.2.2.1 8 0)), (1, .int (iI a0)), (2, .int (iI a1)), (3, .ref qo)]) hx hb dL_reaction_12 hl (by decide) rfl (fun ls hl => ?_)
      refine r_iconst (n := 1) hx hb dL_reaction_14 ?_
      refine W.widen (k := 2) (n := 12) (by decide) (by decide) ?_
      exact w_ret (k := 1) hx hb hr hlocks hK hI2 hS1 (by decide) hSC ⟨x0, ho1, fun z => absurd z (by decide)⟩ dL_reaction_15
    by_cases e1 : E = "java/lang/IllegalArgumentException"
    · subst e1
      have k1 : k = 2 := by rw [← mE]; decide
      subst k1
      refine vx_catch hown [⟨0, 9, 12, 25⟩] ⟨0, 9, 16, 19⟩ [] hE (fun z hz => by cases hz with | head => exact Or.inr ⟨by decide, "java/lang/IndexOutOfBoundsException", hts (.classLink RL 25 "java/lang/IndexOutOfBoundsException") (by decide +kernel), hN.1⟩ | tail _ q => cases q) (by decide) (by decide) (name := "java/lang/IllegalArgumentException") (hts (.classLink RL 19 "java/lang/IllegalArgumentException") (by decide +kernel)) (va_Nw.use rfl (hX.2.2.2.2.2.1 "java/lang/IllegalArgumentException" (by decide))) hce hcv hcl ?_
      refine lv_astore (lv' := [(4, .ref q9), (0, .ref (G.2.2.1 8 0)), (1, .int (iI a0)), (2, .int (iI a1)), (3, .ref qo)]) hx hb dL_reaction_16 hl (by decide) rfl (fun ls hl => ?_)
      refine r_iconst (n := 2) hx hb dL_reaction_18 ?_
      refine W.widen (k := 2) (n := 12) (by decide) (by decide) ?_
      exact w_ret (k := 2) hx hb hr hlocks hK hI2 hS1 (by decide) hSC ⟨x0, ho1, fun z => absurd z (by decide)⟩ dL_reaction_19
    · exfalso
      unfold mI at mE
      rw [if_neg e0, if_neg e1] at mE
      exact k0 mE.symm
  · obtain ⟨z, rfl, hk0, hP, hSC⟩ := hp
    subst hk0
    obtain ⟨hI1, hK1⟩ := hB
    rw [ht] at hI1
    have ho1 := ho.kept (hk qo ho.lt hno)
    refine W.widen (k := 2) (n := 12) (by decide) (by decide) ?_
    exact w_ok (cv := lI) (tgt := 20) hx hb hr hlocks hK hI1 hin hne hS1 hSC hP ho1 hqo dL_reaction_8 dL_reaction_9 (by decide) dL_reaction_20 dL_reaction_21
set_option maxHeartbeats 4000000 in
set_option maxRecDepth 100000 in
theorem wL_shear (l : Launch) (G : WG) (hfl : l.stackTraces = false) (qo : Nat) (hne : ∀ K i, vC K i → ¬ G.2.2.1 K i = qo) (st : St) (a0 a1 : Int) (k : Int) (P : Int → Prop) (a : Ab) (h : f8_shear (O8 k P a) (X8 mI k a) st a0 a1) : Met l yL_shear wsL_shear ({ frames := 9, cells := 2, slots := 12, locals := 155 }) (PcL G st qo [.ref (G.2.2.1 8 0), .int (iI a0), .int (iI a1), .ref qo]) (QcL G qo lI k P a) 2 12 G.2.2.2.1 := by
  refine met_ofWH (cc := cL_shear) (maxL := 5) (ret := some .int) (by decide) rfl ?_
  intro p e s m args below meth c s₁ B hml hvv
  obtain ⟨rfl, hA, hI, hK, hX, hN, hqo, x0, ho⟩ := hvv
  have hx := B.exec
  have hb := B.bytes
  have hr := B.returns
  have hts := atoms_spec (ws := wsL_shear) B.pre
  have hown : s.vm.findClass RL = some m.cls := findClass_of_methodNamed B.named
  have hlocks := B.notSynchronized
  have hE := vx_table (x := yL_shear) B (hts (.codeWith yL_shear cL_shear 5 (some .int) [(0, 9, 12, 25), (0, 9, 16, 19)]) List.mem_cons_self)
  have hvt : vC 8 0 := ⟨by decide, by decide, by decide, by decide⟩
  have hin : ∀ K i, vC K i → G.2.2.2.1 (G.2.2.1 K i) := fun K i v => Iv_in hI v
  have hBA := own_in (n := s.heap.size) hI hA
  have hno : ¬ ownV vC G s.heap.size qo := fun z => by
    rcases z with ⟨K, i, v, e9⟩ | z
    · exact hne K i v e9
    · exact absurd ho.lt (Nat.not_lt.mpr z)
  have hl := lv_entry ([.ref (G.2.2.1 8 0), .int (iI a0), .int (iI a1), .ref qo]) (n := 5) (Nat.le_of_ble_eq_true rfl)
  rw [lg_entry_eq]
  generalize (lg_sl ([.ref (G.2.2.1 8 0), .int (iI a0), .int (iI a1), .ref qo]) ++ List.replicate (5 - (lg_sl ([.ref (G.2.2.1 8 0), .int (iI a0), .int (iI a1), .ref qo])).length) Slot.unset).toArray = ls at hl ⊢
  have hl : lv_has ls 5 [(0, .ref (G.2.2.1 8 0)), (1, .int (iI a0)), (2, .int (iI a1)), (3, .ref qo)] := hl
  refine lv_aload_n hx hb dL_shear_0 rfl (lv_at hl 3 rfl) ?_
  refine r_iconst (n := 0) hx hb dL_shear_1 ?_
  refine lv_aload_n hx hb dL_shear_2 rfl (lv_at hl 0 rfl) ?_
  refine lv_iload_n hx hb dL_shear_3 rfl (lv_at hl 1 rfl) ?_
  refine lv_iload_n hx hb dL_shear_4 rfl (lv_at hl 2 rfl) ?_
  refine vx_calll (vx_runV (As := [.int (iI a0), .int (iI a1)]) (rest := [.int (iI 0), .ref qo]) ⟨hx, hb, hml, hown, hts⟩ (m8_shear l (wR G (ownV vC G s.heap.size)) hfl hvt _ _ st a0 a1 h) (cwV 2 hts gL_shear_X8_shear rfl rfl rfl hd8_shear ⟨Nat.le_of_ble_eq_true rfl, Nat.le_of_ble_eq_true rfl⟩) (pre_V (G := wR G (ownV vC G s.heap.size)) hK (XW_narrow hX hBA) (Iv_own _ hI) (fun q h9 => Or.inr h9) va_S.rf hvt rfl rfl [.int (iI a0), .int (iI a1)]) rfl rfl hl.1 rfl (lv_room (Nat.le_of_ble_eq_true rfl)) dL_shear_5 ⟨Nat.le_of_ble_eq_true rfl, Nat.le_of_ble_eq_true rfl⟩) (va_S.rf : va_S G.2.2.2.1 s.heap s.heap []) (fun q _ h9 => hBA q h9) (fun q h9 => hBA q h9) (fun q _ h9 => hBA q h9) (fun E ce q9 u t H1 locs1 ht hvm _ hB hz hk hS1 hce hcv hcl => ?_) (fun r u t H1 locs1 ht hvm hp hB hz hk hS1 => ?_)
  · obtain ⟨⟨k0, mE, hSC⟩, hI1, hK1⟩ := hB
    rw [ht] at hI1
    have ho1 := ho.kept (hk qo ho.lt hno)
    have hI2 := Iv_back hI1 hin
    by_cases e0 : E = "java/lang/IndexOutOfBoundsException"
    · subst e0
      have k1 : k = 1 := by rw [← mE]; decide
      subst k1
      refine vx_catch hown [] ⟨0, 9, 12, 25⟩ [⟨0, 9, 16, 19⟩] hE (fun z hz => by cases hz) (by decide) (by decide) (name := "java/lang/IndexOutOfBoundsException") (hts (.classLink RL 25 "java/lang/IndexOutOfBoundsException") (by decide +kernel)) (va_Nw.use rfl (hX.2.2.2.2.2.1 "java/lang/IndexOutOfBoundsException" (by decide))) hce hcv hcl ?_
      refine lv_astore (lv' := [(4, .ref q9), (0, .ref (G.2.2.1 8 0)), (1, .int (iI a0)), (2, .int (iI a1)), (3, .ref qo)]) hx hb dL_shear_12 hl (by decide) rfl (fun ls hl => ?_)
      refine r_iconst (n := 1) hx hb dL_shear_14 ?_
      refine W.widen (k := 2) (n := 12) (by decide) (by decide) ?_
      exact w_ret (k := 1) hx hb hr hlocks hK hI2 hS1 (by decide) hSC ⟨x0, ho1, fun z => absurd z (by decide)⟩ dL_shear_15
    by_cases e1 : E = "java/lang/IllegalArgumentException"
    · subst e1
      have k1 : k = 2 := by rw [← mE]; decide
      subst k1
      refine vx_catch hown [⟨0, 9, 12, 25⟩] ⟨0, 9, 16, 19⟩ [] hE (fun z hz => by cases hz with | head => exact Or.inr ⟨by decide, "java/lang/IndexOutOfBoundsException", hts (.classLink RL 25 "java/lang/IndexOutOfBoundsException") (by decide +kernel), hN.1⟩ | tail _ q => cases q) (by decide) (by decide) (name := "java/lang/IllegalArgumentException") (hts (.classLink RL 19 "java/lang/IllegalArgumentException") (by decide +kernel)) (va_Nw.use rfl (hX.2.2.2.2.2.1 "java/lang/IllegalArgumentException" (by decide))) hce hcv hcl ?_
      refine lv_astore (lv' := [(4, .ref q9), (0, .ref (G.2.2.1 8 0)), (1, .int (iI a0)), (2, .int (iI a1)), (3, .ref qo)]) hx hb dL_shear_16 hl (by decide) rfl (fun ls hl => ?_)
      refine r_iconst (n := 2) hx hb dL_shear_18 ?_
      refine W.widen (k := 2) (n := 12) (by decide) (by decide) ?_
      exact w_ret (k := 2) hx hb hr hlocks hK hI2 hS1 (by decide) hSC ⟨x0, ho1, fun z => absurd z (by decide)⟩ dL_shear_19
    · exfalso
      unfold mI at mE
      rw [if_neg e0, if_neg e1] at mE
      exact k0 mE.symm
  · obtain ⟨z, rfl, hk0, hP, hSC⟩ := hp
    subst hk0
    obtain ⟨hI1, hK1⟩ := hB
    rw [ht] at hI1
    have ho1 := ho.kept (hk qo ho.lt hno)
    refine W.widen (k := 2) (n := 12) (by decide) (by decide) ?_
    exact w_ok (cv := lI) (tgt := 20) hx hb hr hlocks hK hI1 hin hne hS1 hSC hP ho1 hqo dL_shear_8 dL_shear_9 (by decide) dL_shear_20 dL_shear_21
set_option maxHeartbeats 4000000 in
set_option maxRecDepth 100000 in
theorem wL_moment (l : Launch) (G : WG) (hfl : l.stackTraces = false) (qo : Nat) (hne : ∀ K i, vC K i → ¬ G.2.2.1 K i = qo) (st : St) (a0 a1 : Int) (k : Int) (P : Int → Prop) (a : Ab) (h : f8_moment (O8 k P a) (X8 mI k a) st a0 a1) : Met l yL_moment wsL_moment ({ frames := 9, cells := 2, slots := 12, locals := 155 }) (PcL G st qo [.ref (G.2.2.1 8 0), .int (iI a0), .int (iI a1), .ref qo]) (QcL G qo lI k P a) 2 12 G.2.2.2.1 := by
  refine met_ofWH (cc := cL_moment) (maxL := 5) (ret := some .int) (by decide) rfl ?_
  intro p e s m args below meth c s₁ B hml hvv
  obtain ⟨rfl, hA, hI, hK, hX, hN, hqo, x0, ho⟩ := hvv
  have hx := B.exec
  have hb := B.bytes
  have hr := B.returns
  have hts := atoms_spec (ws := wsL_moment) B.pre
  have hown : s.vm.findClass RL = some m.cls := findClass_of_methodNamed B.named
  have hlocks := B.notSynchronized
  have hE := vx_table (x := yL_moment) B (hts (.codeWith yL_moment cL_moment 5 (some .int) [(0, 9, 12, 25), (0, 9, 16, 19)]) List.mem_cons_self)
  have hvt : vC 8 0 := ⟨by decide, by decide, by decide, by decide⟩
  have hin : ∀ K i, vC K i → G.2.2.2.1 (G.2.2.1 K i) := fun K i v => Iv_in hI v
  have hBA := own_in (n := s.heap.size) hI hA
  have hno : ¬ ownV vC G s.heap.size qo := fun z => by
    rcases z with ⟨K, i, v, e9⟩ | z
    · exact hne K i v e9
    · exact absurd ho.lt (Nat.not_lt.mpr z)
  have hl := lv_entry ([.ref (G.2.2.1 8 0), .int (iI a0), .int (iI a1), .ref qo]) (n := 5) (Nat.le_of_ble_eq_true rfl)
  rw [lg_entry_eq]
  generalize (lg_sl ([.ref (G.2.2.1 8 0), .int (iI a0), .int (iI a1), .ref qo]) ++ List.replicate (5 - (lg_sl ([.ref (G.2.2.1 8 0), .int (iI a0), .int (iI a1), .ref qo])).length) Slot.unset).toArray = ls at hl ⊢
  have hl : lv_has ls 5 [(0, .ref (G.2.2.1 8 0)), (1, .int (iI a0)), (2, .int (iI a1)), (3, .ref qo)] := hl
  refine lv_aload_n hx hb dL_moment_0 rfl (lv_at hl 3 rfl) ?_
  refine r_iconst (n := 0) hx hb dL_moment_1 ?_
  refine lv_aload_n hx hb dL_moment_2 rfl (lv_at hl 0 rfl) ?_
  refine lv_iload_n hx hb dL_moment_3 rfl (lv_at hl 1 rfl) ?_
  refine lv_iload_n hx hb dL_moment_4 rfl (lv_at hl 2 rfl) ?_
  refine vx_calll (vx_runV (As := [.int (iI a0), .int (iI a1)]) (rest := [.int (iI 0), .ref qo]) ⟨hx, hb, hml, hown, hts⟩ (m8_moment l (wR G (ownV vC G s.heap.size)) hfl hvt _ _ st a0 a1 h) (cwV 2 hts gL_moment_X8_moment rfl rfl rfl hd8_moment ⟨Nat.le_of_ble_eq_true rfl, Nat.le_of_ble_eq_true rfl⟩) (pre_V (G := wR G (ownV vC G s.heap.size)) hK (XW_narrow hX hBA) (Iv_own _ hI) (fun q h9 => Or.inr h9) va_S.rf hvt rfl rfl [.int (iI a0), .int (iI a1)]) rfl rfl hl.1 rfl (lv_room (Nat.le_of_ble_eq_true rfl)) dL_moment_5 ⟨Nat.le_of_ble_eq_true rfl, Nat.le_of_ble_eq_true rfl⟩) (va_S.rf : va_S G.2.2.2.1 s.heap s.heap []) (fun q _ h9 => hBA q h9) (fun q h9 => hBA q h9) (fun q _ h9 => hBA q h9) (fun E ce q9 u t H1 locs1 ht hvm _ hB hz hk hS1 hce hcv hcl => ?_) (fun r u t H1 locs1 ht hvm hp hB hz hk hS1 => ?_)
  · obtain ⟨⟨k0, mE, hSC⟩, hI1, hK1⟩ := hB
    rw [ht] at hI1
    have ho1 := ho.kept (hk qo ho.lt hno)
    have hI2 := Iv_back hI1 hin
    by_cases e0 : E = "java/lang/IndexOutOfBoundsException"
    · subst e0
      have k1 : k = 1 := by rw [← mE]; decide
      subst k1
      refine vx_catch hown [] ⟨0, 9, 12, 25⟩ [⟨0, 9, 16, 19⟩] hE (fun z hz => by cases hz) (by decide) (by decide) (name := "java/lang/IndexOutOfBoundsException") (hts (.classLink RL 25 "java/lang/IndexOutOfBoundsException") (by decide +kernel)) (va_Nw.use rfl (hX.2.2.2.2.2.1 "java/lang/IndexOutOfBoundsException" (by decide))) hce hcv hcl ?_
      refine lv_astore (lv' := [(4, .ref q9), (0, .ref (G.2.2.1 8 0)), (1, .int (iI a0)), (2, .int (iI a1)), (3, .ref qo)]) hx hb dL_moment_12 hl (by decide) rfl (fun ls hl => ?_)
      refine r_iconst (n := 1) hx hb dL_moment_14 ?_
      refine W.widen (k := 2) (n := 12) (by decide) (by decide) ?_
      exact w_ret (k := 1) hx hb hr hlocks hK hI2 hS1 (by decide) hSC ⟨x0, ho1, fun z => absurd z (by decide)⟩ dL_moment_15
    by_cases e1 : E = "java/lang/IllegalArgumentException"
    · subst e1
      have k1 : k = 2 := by rw [← mE]; decide
      subst k1
      refine vx_catch hown [⟨0, 9, 12, 25⟩] ⟨0, 9, 16, 19⟩ [] hE (fun z hz => by cases hz with | head => exact Or.inr ⟨by decide, "java/lang/IndexOutOfBoundsException", hts (.classLink RL 25 "java/lang/IndexOutOfBoundsException") (by decide +kernel), hN.1⟩ | tail _ q => cases q) (by decide) (by decide) (name := "java/lang/IllegalArgumentException") (hts (.classLink RL 19 "java/lang/IllegalArgumentException") (by decide +kernel)) (va_Nw.use rfl (hX.2.2.2.2.2.1 "java/lang/IllegalArgumentException" (by decide))) hce hcv hcl ?_
      refine lv_astore (lv' := [(4, .ref q9), (0, .ref (G.2.2.1 8 0)), (1, .int (iI a0)), (2, .int (iI a1)), (3, .ref qo)]) hx hb dL_moment_16 hl (by decide) rfl (fun ls hl => ?_)
      refine r_iconst (n := 2) hx hb dL_moment_18 ?_
      refine W.widen (k := 2) (n := 12) (by decide) (by decide) ?_
      exact w_ret (k := 2) hx hb hr hlocks hK hI2 hS1 (by decide) hSC ⟨x0, ho1, fun z => absurd z (by decide)⟩ dL_moment_19
    · exfalso
      unfold mI at mE
      rw [if_neg e0, if_neg e1] at mE
      exact k0 mE.symm
  · obtain ⟨z, rfl, hk0, hP, hSC⟩ := hp
    subst hk0
    obtain ⟨hI1, hK1⟩ := hB
    rw [ht] at hI1
    have ho1 := ho.kept (hk qo ho.lt hno)
    refine W.widen (k := 2) (n := 12) (by decide) (by decide) ?_
    exact w_ok (cv := lI) (tgt := 20) hx hb hr hlocks hK hI1 hin hne hS1 hSC hP ho1 hqo dL_moment_8 dL_moment_9 (by decide) dL_moment_20 dL_moment_21
set_option maxHeartbeats 4000000 in
set_option maxRecDepth 100000 in
theorem wL_worstForReaction (l : Launch) (G : WG) (hfl : l.stackTraces = false) (qo : Nat) (hne : ∀ K i, vC K i → ¬ G.2.2.1 K i = qo) (st : St) (a0 a1 : Int) (k : Int) (P : Int → Prop) (a : Ab) (h : f8_worstForReaction (O8 k P a) (X8 mO k a) st a0 a1) : Met l yL_worstForReaction wsL_worstForReaction ({ frames := 8, cells := 1, slots := 6, locals := 171 }) (PcL G st qo [.ref (G.2.2.1 8 0), .int (iI a0), .int (iI a1), .ref qo]) (QcL G qo cvI k P a) 1 6 G.2.2.2.1 := by
  refine met_ofWH (cc := cL_worstForReaction) (maxL := 5) (ret := some .int) (by decide) rfl ?_
  intro p e s m args below meth c s₁ B hml hvv
  obtain ⟨rfl, hA, hI, hK, hX, hN, hqo, x0, ho⟩ := hvv
  have hx := B.exec
  have hb := B.bytes
  have hr := B.returns
  have hts := atoms_spec (ws := wsL_worstForReaction) B.pre
  have hown : s.vm.findClass RL = some m.cls := findClass_of_methodNamed B.named
  have hlocks := B.notSynchronized
  have hE := vx_table (x := yL_worstForReaction) B (hts (.codeWith yL_worstForReaction cL_worstForReaction 5 (some .int) [(0, 10, 13, 25)]) List.mem_cons_self)
  have hvt : vC 8 0 := ⟨by decide, by decide, by decide, by decide⟩
  have hin : ∀ K i, vC K i → G.2.2.2.1 (G.2.2.1 K i) := fun K i v => Iv_in hI v
  have hBA := own_in (n := s.heap.size) hI hA
  have hno : ¬ ownV vC G s.heap.size qo := fun z => by
    rcases z with ⟨K, i, v, e9⟩ | z
    · exact hne K i v e9
    · exact absurd ho.lt (Nat.not_lt.mpr z)
  have hl := lv_entry ([.ref (G.2.2.1 8 0), .int (iI a0), .int (iI a1), .ref qo]) (n := 5) (Nat.le_of_ble_eq_true rfl)
  rw [lg_entry_eq]
  generalize (lg_sl ([.ref (G.2.2.1 8 0), .int (iI a0), .int (iI a1), .ref qo]) ++ List.replicate (5 - (lg_sl ([.ref (G.2.2.1 8 0), .int (iI a0), .int (iI a1), .ref qo])).length) Slot.unset).toArray = ls at hl ⊢
  have hl : lv_has ls 5 [(0, .ref (G.2.2.1 8 0)), (1, .int (iI a0)), (2, .int (iI a1)), (3, .ref qo)] := hl
  refine lv_aload_n hx hb dL_worstForReaction_0 rfl (lv_at hl 3 rfl) ?_
  refine r_iconst (n := 0) hx hb dL_worstForReaction_1 ?_
  refine lv_aload_n hx hb dL_worstForReaction_2 rfl (lv_at hl 0 rfl) ?_
  refine lv_iload_n hx hb dL_worstForReaction_3 rfl (lv_at hl 1 rfl) ?_
  refine lv_iload_n hx hb dL_worstForReaction_4 rfl (lv_at hl 2 rfl) ?_
  refine vx_calli (vx_runV (As := [.int (iI a0), .int (iI a1)]) (rest := [.int (iI 0), .ref qo]) ⟨hx, hb, hml, hown, hts⟩ (m8_worstForReaction l (wR G (ownV vC G s.heap.size)) hfl hvt _ _ st a0 a1 h) (cwV 2 hts gL_worstForReaction_X8_worstForReaction rfl rfl rfl hd8_worstForReaction ⟨Nat.le_of_ble_eq_true rfl, Nat.le_of_ble_eq_true rfl⟩) (pre_V (G := wR G (ownV vC G s.heap.size)) hK (XW_narrow hX hBA) (Iv_own _ hI) (fun q h9 => Or.inr h9) va_S.rf hvt rfl rfl [.int (iI a0), .int (iI a1)]) rfl rfl hl.1 rfl (lv_room (Nat.le_of_ble_eq_true rfl)) dL_worstForReaction_5 ⟨Nat.le_of_ble_eq_true rfl, Nat.le_of_ble_eq_true rfl⟩) (va_S.rf : va_S G.2.2.2.1 s.heap s.heap []) (fun q _ h9 => hBA q h9) (fun q h9 => hBA q h9) (fun q _ h9 => hBA q h9) (fun E ce q9 u t H1 locs1 ht hvm _ hB hz hk hS1 hce hcv hcl => ?_) (fun r u t H1 locs1 ht hvm hp hB hz hk hS1 => ?_)
  · obtain ⟨⟨k0, mE, hSC⟩, hI1, hK1⟩ := hB
    rw [ht] at hI1
    have ho1 := ho.kept (hk qo ho.lt hno)
    have hI2 := Iv_back hI1 hin
    by_cases e0 : E = "java/lang/IndexOutOfBoundsException"
    · subst e0
      have k1 : k = 1 := by rw [← mE]; decide
      subst k1
      refine vx_catch hown [] ⟨0, 10, 13, 25⟩ [] hE (fun z hz => by cases hz) (by decide) (by decide) (name := "java/lang/IndexOutOfBoundsException") (hts (.classLink RL 25 "java/lang/IndexOutOfBoundsException") (by decide +kernel)) (va_Nw.use rfl (hX.2.2.2.2.2.1 "java/lang/IndexOutOfBoundsException" (by decide))) hce hcv hcl ?_
      refine lv_astore (lv' := [(4, .ref q9), (0, .ref (G.2.2.1 8 0)), (1, .int (iI a0)), (2, .int (iI a1)), (3, .ref qo)]) hx hb dL_worstForReaction_13 hl (by decide) rfl (fun ls hl => ?_)
      refine r_iconst (n := 1) hx hb dL_worstForReaction_15 ?_
      refine W.widen (k := 1) (n := 6) (by decide) (by decide) ?_
      exact w_ret (k := 1) hx hb hr hlocks hK hI2 hS1 (by decide) hSC ⟨x0, ho1, fun z => absurd z (by decide)⟩ dL_worstForReaction_16
    · exfalso
      unfold mO at mE
      rw [if_neg e0] at mE
      exact k0 mE.symm
  · obtain ⟨z, rfl, hk0, hP, hSC⟩ := hp
    subst hk0
    obtain ⟨hI1, hK1⟩ := hB
    rw [ht] at hI1
    have ho1 := ho.kept (hk qo ho.lt hno)
    refine lv_i2l (v := cvI z) hx hb dL_worstForReaction_8 rfl ?_
    refine W.widen (k := 1) (n := 6) (by decide) (by decide) ?_
    exact w_ok (cv := cvI) (tgt := 17) hx hb hr hlocks hK hI1 hin hne hS1 hSC hP ho1 hqo dL_worstForReaction_9 dL_worstForReaction_10 (by decide) dL_worstForReaction_17 dL_worstForReaction_18
set_option maxHeartbeats 4000000 in
set_option maxRecDepth 100000 in
theorem wL_worstForShear (l : Launch) (G : WG) (hfl : l.stackTraces = false) (qo : Nat) (hne : ∀ K i, vC K i → ¬ G.2.2.1 K i = qo) (st : St) (a0 a1 : Int) (k : Int) (P : Int → Prop) (a : Ab) (h : f8_worstForShear (O8 k P a) (X8 mO k a) st a0 a1) : Met l yL_worstForShear wsL_worstForShear ({ frames := 8, cells := 1, slots := 6, locals := 171 }) (PcL G st qo [.ref (G.2.2.1 8 0), .int (iI a0), .int (iI a1), .ref qo]) (QcL G qo cvI k P a) 1 6 G.2.2.2.1 := by
  refine met_ofWH (cc := cL_worstForShear) (maxL := 5) (ret := some .int) (by decide) rfl ?_
  intro p e s m args below meth c s₁ B hml hvv
  obtain ⟨rfl, hA, hI, hK, hX, hN, hqo, x0, ho⟩ := hvv
  have hx := B.exec
  have hb := B.bytes
  have hr := B.returns
  have hts := atoms_spec (ws := wsL_worstForShear) B.pre
  have hown : s.vm.findClass RL = some m.cls := findClass_of_methodNamed B.named
  have hlocks := B.notSynchronized
  have hE := vx_table (x := yL_worstForShear) B (hts (.codeWith yL_worstForShear cL_worstForShear 5 (some .int) [(0, 10, 13, 25)]) List.mem_cons_self)
  have hvt : vC 8 0 := ⟨by decide, by decide, by decide, by decide⟩
  have hin : ∀ K i, vC K i → G.2.2.2.1 (G.2.2.1 K i) := fun K i v => Iv_in hI v
  have hBA := own_in (n := s.heap.size) hI hA
  have hno : ¬ ownV vC G s.heap.size qo := fun z => by
    rcases z with ⟨K, i, v, e9⟩ | z
    · exact hne K i v e9
    · exact absurd ho.lt (Nat.not_lt.mpr z)
  have hl := lv_entry ([.ref (G.2.2.1 8 0), .int (iI a0), .int (iI a1), .ref qo]) (n := 5) (Nat.le_of_ble_eq_true rfl)
  rw [lg_entry_eq]
  generalize (lg_sl ([.ref (G.2.2.1 8 0), .int (iI a0), .int (iI a1), .ref qo]) ++ List.replicate (5 - (lg_sl ([.ref (G.2.2.1 8 0), .int (iI a0), .int (iI a1), .ref qo])).length) Slot.unset).toArray = ls at hl ⊢
  have hl : lv_has ls 5 [(0, .ref (G.2.2.1 8 0)), (1, .int (iI a0)), (2, .int (iI a1)), (3, .ref qo)] := hl
  refine lv_aload_n hx hb dL_worstForShear_0 rfl (lv_at hl 3 rfl) ?_
  refine r_iconst (n := 0) hx hb dL_worstForShear_1 ?_
  refine lv_aload_n hx hb dL_worstForShear_2 rfl (lv_at hl 0 rfl) ?_
  refine lv_iload_n hx hb dL_worstForShear_3 rfl (lv_at hl 1 rfl) ?_
  refine lv_iload_n hx hb dL_worstForShear_4 rfl (lv_at hl 2 rfl) ?_
  refine vx_calli (vx_runV (As := [.int (iI a0), .int (iI a1)]) (rest := [.int (iI 0), .ref qo]) ⟨hx, hb, hml, hown, hts⟩ (m8_worstForShear l (wR G (ownV vC G s.heap.size)) hfl hvt _ _ st a0 a1 h) (cwV 2 hts gL_worstForShear_X8_worstForShear rfl rfl rfl hd8_worstForShear ⟨Nat.le_of_ble_eq_true rfl, Nat.le_of_ble_eq_true rfl⟩) (pre_V (G := wR G (ownV vC G s.heap.size)) hK (XW_narrow hX hBA) (Iv_own _ hI) (fun q h9 => Or.inr h9) va_S.rf hvt rfl rfl [.int (iI a0), .int (iI a1)]) rfl rfl hl.1 rfl (lv_room (Nat.le_of_ble_eq_true rfl)) dL_worstForShear_5 ⟨Nat.le_of_ble_eq_true rfl, Nat.le_of_ble_eq_true rfl⟩) (va_S.rf : va_S G.2.2.2.1 s.heap s.heap []) (fun q _ h9 => hBA q h9) (fun q h9 => hBA q h9) (fun q _ h9 => hBA q h9) (fun E ce q9 u t H1 locs1 ht hvm _ hB hz hk hS1 hce hcv hcl => ?_) (fun r u t H1 locs1 ht hvm hp hB hz hk hS1 => ?_)
  · obtain ⟨⟨k0, mE, hSC⟩, hI1, hK1⟩ := hB
    rw [ht] at hI1
    have ho1 := ho.kept (hk qo ho.lt hno)
    have hI2 := Iv_back hI1 hin
    by_cases e0 : E = "java/lang/IndexOutOfBoundsException"
    · subst e0
      have k1 : k = 1 := by rw [← mE]; decide
      subst k1
      refine vx_catch hown [] ⟨0, 10, 13, 25⟩ [] hE (fun z hz => by cases hz) (by decide) (by decide) (name := "java/lang/IndexOutOfBoundsException") (hts (.classLink RL 25 "java/lang/IndexOutOfBoundsException") (by decide +kernel)) (va_Nw.use rfl (hX.2.2.2.2.2.1 "java/lang/IndexOutOfBoundsException" (by decide))) hce hcv hcl ?_
      refine lv_astore (lv' := [(4, .ref q9), (0, .ref (G.2.2.1 8 0)), (1, .int (iI a0)), (2, .int (iI a1)), (3, .ref qo)]) hx hb dL_worstForShear_13 hl (by decide) rfl (fun ls hl => ?_)
      refine r_iconst (n := 1) hx hb dL_worstForShear_15 ?_
      refine W.widen (k := 1) (n := 6) (by decide) (by decide) ?_
      exact w_ret (k := 1) hx hb hr hlocks hK hI2 hS1 (by decide) hSC ⟨x0, ho1, fun z => absurd z (by decide)⟩ dL_worstForShear_16
    · exfalso
      unfold mO at mE
      rw [if_neg e0] at mE
      exact k0 mE.symm
  · obtain ⟨z, rfl, hk0, hP, hSC⟩ := hp
    subst hk0
    obtain ⟨hI1, hK1⟩ := hB
    rw [ht] at hI1
    have ho1 := ho.kept (hk qo ho.lt hno)
    refine lv_i2l (v := cvI z) hx hb dL_worstForShear_8 rfl ?_
    refine W.widen (k := 1) (n := 6) (by decide) (by decide) ?_
    exact w_ok (cv := cvI) (tgt := 17) hx hb hr hlocks hK hI1 hin hne hS1 hSC hP ho1 hqo dL_worstForShear_9 dL_worstForShear_10 (by decide) dL_worstForShear_17 dL_worstForShear_18
set_option maxHeartbeats 4000000 in
set_option maxRecDepth 100000 in
theorem wL_worstForMoment (l : Launch) (G : WG) (hfl : l.stackTraces = false) (qo : Nat) (hne : ∀ K i, vC K i → ¬ G.2.2.1 K i = qo) (st : St) (a0 a1 : Int) (k : Int) (P : Int → Prop) (a : Ab) (h : f8_worstForMoment (O8 k P a) (X8 mO k a) st a0 a1) : Met l yL_worstForMoment wsL_worstForMoment ({ frames := 8, cells := 1, slots := 6, locals := 171 }) (PcL G st qo [.ref (G.2.2.1 8 0), .int (iI a0), .int (iI a1), .ref qo]) (QcL G qo cvI k P a) 1 6 G.2.2.2.1 := by
  refine met_ofWH (cc := cL_worstForMoment) (maxL := 5) (ret := some .int) (by decide) rfl ?_
  intro p e s m args below meth c s₁ B hml hvv
  obtain ⟨rfl, hA, hI, hK, hX, hN, hqo, x0, ho⟩ := hvv
  have hx := B.exec
  have hb := B.bytes
  have hr := B.returns
  have hts := atoms_spec (ws := wsL_worstForMoment) B.pre
  have hown : s.vm.findClass RL = some m.cls := findClass_of_methodNamed B.named
  have hlocks := B.notSynchronized
  have hE := vx_table (x := yL_worstForMoment) B (hts (.codeWith yL_worstForMoment cL_worstForMoment 5 (some .int) [(0, 10, 13, 25)]) List.mem_cons_self)
  have hvt : vC 8 0 := ⟨by decide, by decide, by decide, by decide⟩
  have hin : ∀ K i, vC K i → G.2.2.2.1 (G.2.2.1 K i) := fun K i v => Iv_in hI v
  have hBA := own_in (n := s.heap.size) hI hA
  have hno : ¬ ownV vC G s.heap.size qo := fun z => by
    rcases z with ⟨K, i, v, e9⟩ | z
    · exact hne K i v e9
    · exact absurd ho.lt (Nat.not_lt.mpr z)
  have hl := lv_entry ([.ref (G.2.2.1 8 0), .int (iI a0), .int (iI a1), .ref qo]) (n := 5) (Nat.le_of_ble_eq_true rfl)
  rw [lg_entry_eq]
  generalize (lg_sl ([.ref (G.2.2.1 8 0), .int (iI a0), .int (iI a1), .ref qo]) ++ List.replicate (5 - (lg_sl ([.ref (G.2.2.1 8 0), .int (iI a0), .int (iI a1), .ref qo])).length) Slot.unset).toArray = ls at hl ⊢
  have hl : lv_has ls 5 [(0, .ref (G.2.2.1 8 0)), (1, .int (iI a0)), (2, .int (iI a1)), (3, .ref qo)] := hl
  refine lv_aload_n hx hb dL_worstForMoment_0 rfl (lv_at hl 3 rfl) ?_
  refine r_iconst (n := 0) hx hb dL_worstForMoment_1 ?_
  refine lv_aload_n hx hb dL_worstForMoment_2 rfl (lv_at hl 0 rfl) ?_
  refine lv_iload_n hx hb dL_worstForMoment_3 rfl (lv_at hl 1 rfl) ?_
  refine lv_iload_n hx hb dL_worstForMoment_4 rfl (lv_at hl 2 rfl) ?_
  refine vx_calli (vx_runV (As := [.int (iI a0), .int (iI a1)]) (rest := [.int (iI 0), .ref qo]) ⟨hx, hb, hml, hown, hts⟩ (m8_worstForMoment l (wR G (ownV vC G s.heap.size)) hfl hvt _ _ st a0 a1 h) (cwV 2 hts gL_worstForMoment_X8_worstForMoment rfl rfl rfl hd8_worstForMoment ⟨Nat.le_of_ble_eq_true rfl, Nat.le_of_ble_eq_true rfl⟩) (pre_V (G := wR G (ownV vC G s.heap.size)) hK (XW_narrow hX hBA) (Iv_own _ hI) (fun q h9 => Or.inr h9) va_S.rf hvt rfl rfl [.int (iI a0), .int (iI a1)]) rfl rfl hl.1 rfl (lv_room (Nat.le_of_ble_eq_true rfl)) dL_worstForMoment_5 ⟨Nat.le_of_ble_eq_true rfl, Nat.le_of_ble_eq_true rfl⟩) (va_S.rf : va_S G.2.2.2.1 s.heap s.heap []) (fun q _ h9 => hBA q h9) (fun q h9 => hBA q h9) (fun q _ h9 => hBA q h9) (fun E ce q9 u t H1 locs1 ht hvm _ hB hz hk hS1 hce hcv hcl => ?_) (fun r u t H1 locs1 ht hvm hp hB hz hk hS1 => ?_)
  · obtain ⟨⟨k0, mE, hSC⟩, hI1, hK1⟩ := hB
    rw [ht] at hI1
    have ho1 := ho.kept (hk qo ho.lt hno)
    have hI2 := Iv_back hI1 hin
    by_cases e0 : E = "java/lang/IndexOutOfBoundsException"
    · subst e0
      have k1 : k = 1 := by rw [← mE]; decide
      subst k1
      refine vx_catch hown [] ⟨0, 10, 13, 25⟩ [] hE (fun z hz => by cases hz) (by decide) (by decide) (name := "java/lang/IndexOutOfBoundsException") (hts (.classLink RL 25 "java/lang/IndexOutOfBoundsException") (by decide +kernel)) (va_Nw.use rfl (hX.2.2.2.2.2.1 "java/lang/IndexOutOfBoundsException" (by decide))) hce hcv hcl ?_
      refine lv_astore (lv' := [(4, .ref q9), (0, .ref (G.2.2.1 8 0)), (1, .int (iI a0)), (2, .int (iI a1)), (3, .ref qo)]) hx hb dL_worstForMoment_13 hl (by decide) rfl (fun ls hl => ?_)
      refine r_iconst (n := 1) hx hb dL_worstForMoment_15 ?_
      refine W.widen (k := 1) (n := 6) (by decide) (by decide) ?_
      exact w_ret (k := 1) hx hb hr hlocks hK hI2 hS1 (by decide) hSC ⟨x0, ho1, fun z => absurd z (by decide)⟩ dL_worstForMoment_16
    · exfalso
      unfold mO at mE
      rw [if_neg e0] at mE
      exact k0 mE.symm
  · obtain ⟨z, rfl, hk0, hP, hSC⟩ := hp
    subst hk0
    obtain ⟨hI1, hK1⟩ := hB
    rw [ht] at hI1
    have ho1 := ho.kept (hk qo ho.lt hno)
    refine lv_i2l (v := cvI z) hx hb dL_worstForMoment_8 rfl ?_
    refine W.widen (k := 1) (n := 6) (by decide) (by decide) ?_
    exact w_ok (cv := cvI) (tgt := 17) hx hb hr hlocks hK hI1 hin hne hS1 hSC hP ho1 hqo dL_worstForMoment_9 dL_worstForMoment_10 (by decide) dL_worstForMoment_17 dL_worstForMoment_18
set_option maxHeartbeats 4000000 in
set_option maxRecDepth 100000 in
theorem wL_danger (l : Launch) (G : WG) (hfl : l.stackTraces = false) (qo : Nat) (hne : ∀ K i, vC K i → ¬ G.2.2.1 K i = qo) (st : St) (a0 : Int) (k : Int) (P : Int → Prop) (a : Ab) (h : f8_danger (O8 k P a) (X8 mA k a) st a0) : Met l yL_danger wsL_danger ({ frames := 9, cells := 1, slots := 6, locals := 160 }) (PcL G st qo [.ref (G.2.2.1 8 0), .int (iI a0), .ref qo]) (QcL G qo cvI k P a) 1 6 G.2.2.2.1 := by
  refine met_ofWH (cc := cL_danger) (maxL := 4) (ret := some .int) (by decide) rfl ?_
  intro p e s m args below meth c s₁ B hml hvv
  obtain ⟨rfl, hA, hI, hK, hX, hN, hqo, x0, ho⟩ := hvv
  have hx := B.exec
  have hb := B.bytes
  have hr := B.returns
  have hts := atoms_spec (ws := wsL_danger) B.pre
  have hown : s.vm.findClass RL = some m.cls := findClass_of_methodNamed B.named
  have hlocks := B.notSynchronized
  have hE := vx_table (x := yL_danger) B (hts (.codeWith yL_danger cL_danger 4 (some .int) [(0, 9, 12, 19)]) List.mem_cons_self)
  have hvt : vC 8 0 := ⟨by decide, by decide, by decide, by decide⟩
  have hin : ∀ K i, vC K i → G.2.2.2.1 (G.2.2.1 K i) := fun K i v => Iv_in hI v
  have hBA := own_in (n := s.heap.size) hI hA
  have hno : ¬ ownV vC G s.heap.size qo := fun z => by
    rcases z with ⟨K, i, v, e9⟩ | z
    · exact hne K i v e9
    · exact absurd ho.lt (Nat.not_lt.mpr z)
  have hl := lv_entry ([.ref (G.2.2.1 8 0), .int (iI a0), .ref qo]) (n := 4) (Nat.le_of_ble_eq_true rfl)
  rw [lg_entry_eq]
  generalize (lg_sl ([.ref (G.2.2.1 8 0), .int (iI a0), .ref qo]) ++ List.replicate (4 - (lg_sl ([.ref (G.2.2.1 8 0), .int (iI a0), .ref qo])).length) Slot.unset).toArray = ls at hl ⊢
  have hl : lv_has ls 4 [(0, .ref (G.2.2.1 8 0)), (1, .int (iI a0)), (2, .ref qo)] := hl
  refine lv_aload_n hx hb dL_danger_0 rfl (lv_at hl 2 rfl) ?_
  refine r_iconst (n := 0) hx hb dL_danger_1 ?_
  refine lv_aload_n hx hb dL_danger_2 rfl (lv_at hl 0 rfl) ?_
  refine lv_iload_n hx hb dL_danger_3 rfl (lv_at hl 1 rfl) ?_
  refine vx_calli (vx_runV (As := [.int (iI a0)]) (rest := [.int (iI 0), .ref qo]) ⟨hx, hb, hml, hown, hts⟩ (m8_danger l (wR G (ownV vC G s.heap.size)) hfl hvt _ _ st a0 h) (cwV 1 hts gL_danger_X8_danger rfl rfl rfl hd8_danger ⟨Nat.le_of_ble_eq_true rfl, Nat.le_of_ble_eq_true rfl⟩) (pre_V (G := wR G (ownV vC G s.heap.size)) hK (XW_narrow hX hBA) (Iv_own _ hI) (fun q h9 => Or.inr h9) va_S.rf hvt rfl rfl [.int (iI a0)]) rfl rfl hl.1 rfl (lv_room (Nat.le_of_ble_eq_true rfl)) dL_danger_4 ⟨Nat.le_of_ble_eq_true rfl, Nat.le_of_ble_eq_true rfl⟩) (va_S.rf : va_S G.2.2.2.1 s.heap s.heap []) (fun q _ h9 => hBA q h9) (fun q h9 => hBA q h9) (fun q _ h9 => hBA q h9) (fun E ce q9 u t H1 locs1 ht hvm _ hB hz hk hS1 hce hcv hcl => ?_) (fun r u t H1 locs1 ht hvm hp hB hz hk hS1 => ?_)
  · obtain ⟨⟨k0, mE, hSC⟩, hI1, hK1⟩ := hB
    rw [ht] at hI1
    have ho1 := ho.kept (hk qo ho.lt hno)
    have hI2 := Iv_back hI1 hin
    by_cases e0 : E = "java/lang/IllegalArgumentException"
    · subst e0
      have k1 : k = 1 := by rw [← mE]; decide
      subst k1
      refine vx_catch hown [] ⟨0, 9, 12, 19⟩ [] hE (fun z hz => by cases hz) (by decide) (by decide) (name := "java/lang/IllegalArgumentException") (hts (.classLink RL 19 "java/lang/IllegalArgumentException") (by decide +kernel)) (va_Nw.use rfl (hX.2.2.2.2.2.1 "java/lang/IllegalArgumentException" (by decide))) hce hcv hcl ?_
      refine lv_astore_n (lv' := [(3, .ref q9), (0, .ref (G.2.2.1 8 0)), (1, .int (iI a0)), (2, .ref qo)]) hx hb dL_danger_12 rfl hl (by decide) rfl (fun ls hl => ?_)
      refine r_iconst (n := 1) hx hb dL_danger_13 ?_
      refine W.widen (k := 1) (n := 6) (by decide) (by decide) ?_
      exact w_ret (k := 1) hx hb hr hlocks hK hI2 hS1 (by decide) hSC ⟨x0, ho1, fun z => absurd z (by decide)⟩ dL_danger_14
    · exfalso
      unfold mA at mE
      rw [if_neg e0] at mE
      exact k0 mE.symm
  · obtain ⟨z, rfl, hk0, hP, hSC⟩ := hp
    subst hk0
    obtain ⟨hI1, hK1⟩ := hB
    rw [ht] at hI1
    have ho1 := ho.kept (hk qo ho.lt hno)
    refine lv_i2l (v := cvI z) hx hb dL_danger_7 rfl ?_
    refine W.widen (k := 1) (n := 6) (by decide) (by decide) ?_
    exact w_ok (cv := cvI) (tgt := 15) hx hb hr hlocks hK hI1 hin hne hS1 hSC hP ho1 hqo dL_danger_8 dL_danger_9 (by decide) dL_danger_15 dL_danger_16
set_option maxHeartbeats 4000000 in
set_option maxRecDepth 100000 in
theorem wL_share (l : Launch) (G : WG) (hfl : l.stackTraces = false) (cD : ClassId) (qo : Nat) (hne : ∀ K i, vC K i → ¬ G.2.2.1 K i = qo) (st : St) (a0 a1 : Int) (k : Int) (v : UInt64) (a : Ab) (h : f8_share (O8d k v a) (X8 mI k a) st a0 a1) : Met l yL_share wsL_share ({ frames := 9, cells := 2, slots := 12, locals := 157 }) (PcD G cD st qo [.ref (G.2.2.1 8 0), .int (iI a0), .int (iI a1), .ref qo]) (QcD G cD qo k v a) 2 12 G.2.2.2.1 := by
  refine met_ofWH (cc := cL_share) (maxL := 5) (ret := some .int) (by decide) rfl ?_
  intro p e s m args below meth c s₁ B hml hvv
  obtain ⟨rfl, hA, hI, hK, hX, hN, hqo, hT, x0, ho⟩ := hvv
  have hx := B.exec
  have hb := B.bytes
  have hr := B.returns
  have hts := atoms_spec (ws := wsL_share) B.pre
  have hown : s.vm.findClass RL = some m.cls := findClass_of_methodNamed B.named
  have hlocks := B.notSynchronized
  have hE := vx_table (x := yL_share) B (hts (.codeWith yL_share cL_share 5 (some .int) [(0, 9, 12, 25), (0, 9, 16, 19)]) List.mem_cons_self)
  have hvt : vC 8 0 := ⟨by decide, by decide, by decide, by decide⟩
  have hin : ∀ K i, vC K i → G.2.2.2.1 (G.2.2.1 K i) := fun K i v => Iv_in hI v
  have hBA := own_in (n := s.heap.size) hI hA
  have hno : ¬ ownV vC G s.heap.size qo := fun z => by
    rcases z with ⟨K, i, v, e9⟩ | z
    · exact hne K i v e9
    · exact absurd ho.lt (Nat.not_lt.mpr z)
  have hl := lv_entry ([.ref (G.2.2.1 8 0), .int (iI a0), .int (iI a1), .ref qo]) (n := 5) (Nat.le_of_ble_eq_true rfl)
  rw [lg_entry_eq]
  generalize (lg_sl ([.ref (G.2.2.1 8 0), .int (iI a0), .int (iI a1), .ref qo]) ++ List.replicate (5 - (lg_sl ([.ref (G.2.2.1 8 0), .int (iI a0), .int (iI a1), .ref qo])).length) Slot.unset).toArray = ls at hl ⊢
  have hl : lv_has ls 5 [(0, .ref (G.2.2.1 8 0)), (1, .int (iI a0)), (2, .int (iI a1)), (3, .ref qo)] := hl
  refine lv_aload_n hx hb dL_share_0 rfl (lv_at hl 3 rfl) ?_
  refine r_iconst (n := 0) hx hb dL_share_1 ?_
  refine lv_aload_n hx hb dL_share_2 rfl (lv_at hl 0 rfl) ?_
  refine lv_iload_n hx hb dL_share_3 rfl (lv_at hl 1 rfl) ?_
  refine lv_iload_n hx hb dL_share_4 rfl (lv_at hl 2 rfl) ?_
  refine vx_calld (vx_runV (As := [.int (iI a0), .int (iI a1)]) (rest := [.int (iI 0), .ref qo]) ⟨hx, hb, hml, hown, hts⟩ (m8_share l (wR G (ownV vC G s.heap.size)) hfl hvt _ _ st a0 a1 h) (cwV 2 hts gL_share_X8_share rfl rfl rfl hd8_share ⟨Nat.le_of_ble_eq_true rfl, Nat.le_of_ble_eq_true rfl⟩) (pre_V (G := wR G (ownV vC G s.heap.size)) hK (XW_narrow hX hBA) (Iv_own _ hI) (fun q h9 => Or.inr h9) va_S.rf hvt rfl rfl [.int (iI a0), .int (iI a1)]) rfl rfl hl.1 rfl (lv_room (Nat.le_of_ble_eq_true rfl)) dL_share_5 ⟨Nat.le_of_ble_eq_true rfl, Nat.le_of_ble_eq_true rfl⟩) (va_S.rf : va_S G.2.2.2.1 s.heap s.heap []) (fun q _ h9 => hBA q h9) (fun q h9 => hBA q h9) (fun q _ h9 => hBA q h9) (fun E ce q9 u t H1 locs1 ht hvm _ hB hz hk hS1 hce hcv hcl => ?_) (fun r u t H1 locs1 ht hvm hp hB hz hk hS1 => ?_)
  · obtain ⟨⟨k0, mE, hSC⟩, hI1, hK1⟩ := hB
    rw [ht] at hI1
    have ho1 := ho.kept (hk qo ho.lt hno)
    have hI2 := Iv_back hI1 hin
    by_cases e0 : E = "java/lang/IndexOutOfBoundsException"
    · subst e0
      have k1 : k = 1 := by rw [← mE]; decide
      subst k1
      refine vx_catch hown [] ⟨0, 9, 12, 25⟩ [⟨0, 9, 16, 19⟩] hE (fun z hz => by cases hz) (by decide) (by decide) (name := "java/lang/IndexOutOfBoundsException") (hts (.classLink RL 25 "java/lang/IndexOutOfBoundsException") (by decide +kernel)) (va_Nw.use rfl (hX.2.2.2.2.2.1 "java/lang/IndexOutOfBoundsException" (by decide))) hce hcv hcl ?_
      refine lv_astore (lv' := [(4, .ref q9), (0, .ref (G.2.2.1 8 0)), (1, .int (iI a0)), (2, .int (iI a1)), (3, .ref qo)]) hx hb dL_share_12 hl (by decide) rfl (fun ls hl => ?_)
      refine r_iconst (n := 1) hx hb dL_share_14 ?_
      refine W.widen (k := 2) (n := 12) (by decide) (by decide) ?_
      exact w_retD (k := 1) hx hb hr hlocks hK hI2 hS1 (by decide) hSC ⟨x0, ho1, fun z => absurd z (by decide)⟩ dL_share_15
    by_cases e1 : E = "java/lang/IllegalArgumentException"
    · subst e1
      have k1 : k = 2 := by rw [← mE]; decide
      subst k1
      refine vx_catch hown [⟨0, 9, 12, 25⟩] ⟨0, 9, 16, 19⟩ [] hE (fun z hz => by cases hz with | head => exact Or.inr ⟨by decide, "java/lang/IndexOutOfBoundsException", hts (.classLink RL 25 "java/lang/IndexOutOfBoundsException") (by decide +kernel), hN.1⟩ | tail _ q => cases q) (by decide) (by decide) (name := "java/lang/IllegalArgumentException") (hts (.classLink RL 19 "java/lang/IllegalArgumentException") (by decide +kernel)) (va_Nw.use rfl (hX.2.2.2.2.2.1 "java/lang/IllegalArgumentException" (by decide))) hce hcv hcl ?_
      refine lv_astore (lv' := [(4, .ref q9), (0, .ref (G.2.2.1 8 0)), (1, .int (iI a0)), (2, .int (iI a1)), (3, .ref qo)]) hx hb dL_share_16 hl (by decide) rfl (fun ls hl => ?_)
      refine r_iconst (n := 2) hx hb dL_share_18 ?_
      refine W.widen (k := 2) (n := 12) (by decide) (by decide) ?_
      exact w_retD (k := 2) hx hb hr hlocks hK hI2 hS1 (by decide) hSC ⟨x0, ho1, fun z => absurd z (by decide)⟩ dL_share_19
    · exfalso
      unfold mI at mE
      rw [if_neg e0, if_neg e1] at mE
      exact k0 mE.symm
  · obtain ⟨hk0, hv0, hSC⟩ := hp
    subst hk0
    subst hv0
    obtain ⟨hI1, hK1⟩ := hB
    rw [ht] at hI1
    have ho1 := ho.kept (hk qo ho.lt hno)
    refine W.widen (k := 2) (n := 12) (by decide) (by decide) ?_
    exact w_okD (tgt := 20) hx hb hr hlocks hK hT hI1 hin hne hS1 hSC ho1 hqo dL_share_8 dL_share_9 (by decide) dL_share_20 dL_share_21
set_option maxHeartbeats 4000000 in
set_option maxRecDepth 100000 in
theorem wL_tryHinge (l : Launch) (G : WG) (hfl : l.stackTraces = false) (qo : Nat) (hne : ∀ K i, vC K i → ¬ G.2.2.1 K i = qo) (st : St) (a0 a1 : Int) (k : Int) (P : Int → Prop) (a : Ab) (h : f8_tryHinge (O8 k P a) (X8 mI k a) st a0 a1) : Met l yL_tryHinge wsL_tryHinge ({ frames := 9, cells := 2, slots := 12, locals := 159 }) (PcL G st qo [.ref (G.2.2.1 8 0), .int (iI a0), .int (iI a1), .ref qo]) (QcL G qo cvI k P a) 2 12 G.2.2.2.1 := by
  refine met_ofWH (cc := cL_tryHinge) (maxL := 5) (ret := some .int) (by decide) rfl ?_
  intro p e s m args below meth c s₁ B hml hvv
  obtain ⟨rfl, hA, hI, hK, hX, hN, hqo, x0, ho⟩ := hvv
  have hx := B.exec
  have hb := B.bytes
  have hr := B.returns
  have hts := atoms_spec (ws := wsL_tryHinge) B.pre
  have hown : s.vm.findClass RL = some m.cls := findClass_of_methodNamed B.named
  have hlocks := B.notSynchronized
  have hE := vx_table (x := yL_tryHinge) B (hts (.codeWith yL_tryHinge cL_tryHinge 5 (some .int) [(0, 10, 13, 25), (0, 10, 17, 19)]) List.mem_cons_self)
  have hvt : vC 8 0 := ⟨by decide, by decide, by decide, by decide⟩
  have hin : ∀ K i, vC K i → G.2.2.2.1 (G.2.2.1 K i) := fun K i v => Iv_in hI v
  have hBA := own_in (n := s.heap.size) hI hA
  have hno : ¬ ownV vC G s.heap.size qo := fun z => by
    rcases z with ⟨K, i, v, e9⟩ | z
    · exact hne K i v e9
    · exact absurd ho.lt (Nat.not_lt.mpr z)
  have hl := lv_entry ([.ref (G.2.2.1 8 0), .int (iI a0), .int (iI a1), .ref qo]) (n := 5) (Nat.le_of_ble_eq_true rfl)
  rw [lg_entry_eq]
  generalize (lg_sl ([.ref (G.2.2.1 8 0), .int (iI a0), .int (iI a1), .ref qo]) ++ List.replicate (5 - (lg_sl ([.ref (G.2.2.1 8 0), .int (iI a0), .int (iI a1), .ref qo])).length) Slot.unset).toArray = ls at hl ⊢
  have hl : lv_has ls 5 [(0, .ref (G.2.2.1 8 0)), (1, .int (iI a0)), (2, .int (iI a1)), (3, .ref qo)] := hl
  refine lv_aload_n hx hb dL_tryHinge_0 rfl (lv_at hl 3 rfl) ?_
  refine r_iconst (n := 0) hx hb dL_tryHinge_1 ?_
  refine lv_aload_n hx hb dL_tryHinge_2 rfl (lv_at hl 0 rfl) ?_
  refine lv_iload_n hx hb dL_tryHinge_3 rfl (lv_at hl 1 rfl) ?_
  refine lv_iload_n hx hb dL_tryHinge_4 rfl (lv_at hl 2 rfl) ?_
  refine vx_calli (vx_runV (As := [.int (iI a0), .int (iI a1)]) (rest := [.int (iI 0), .ref qo]) ⟨hx, hb, hml, hown, hts⟩ (m8_tryHinge l (wR G (ownV vC G s.heap.size)) hfl hvt _ _ st a0 a1 h) (cwV 2 hts gL_tryHinge_X8_tryHinge rfl rfl rfl hd8_tryHinge ⟨Nat.le_of_ble_eq_true rfl, Nat.le_of_ble_eq_true rfl⟩) (pre_V (G := wR G (ownV vC G s.heap.size)) hK (XW_narrow hX hBA) (Iv_own _ hI) (fun q h9 => Or.inr h9) va_S.rf hvt rfl rfl [.int (iI a0), .int (iI a1)]) rfl rfl hl.1 rfl (lv_room (Nat.le_of_ble_eq_true rfl)) dL_tryHinge_5 ⟨Nat.le_of_ble_eq_true rfl, Nat.le_of_ble_eq_true rfl⟩) (va_S.rf : va_S G.2.2.2.1 s.heap s.heap []) (fun q _ h9 => hBA q h9) (fun q h9 => hBA q h9) (fun q _ h9 => hBA q h9) (fun E ce q9 u t H1 locs1 ht hvm _ hB hz hk hS1 hce hcv hcl => ?_) (fun r u t H1 locs1 ht hvm hp hB hz hk hS1 => ?_)
  · obtain ⟨⟨k0, mE, hSC⟩, hI1, hK1⟩ := hB
    rw [ht] at hI1
    have ho1 := ho.kept (hk qo ho.lt hno)
    have hI2 := Iv_back hI1 hin
    by_cases e0 : E = "java/lang/IndexOutOfBoundsException"
    · subst e0
      have k1 : k = 1 := by rw [← mE]; decide
      subst k1
      refine vx_catch hown [] ⟨0, 10, 13, 25⟩ [⟨0, 10, 17, 19⟩] hE (fun z hz => by cases hz) (by decide) (by decide) (name := "java/lang/IndexOutOfBoundsException") (hts (.classLink RL 25 "java/lang/IndexOutOfBoundsException") (by decide +kernel)) (va_Nw.use rfl (hX.2.2.2.2.2.1 "java/lang/IndexOutOfBoundsException" (by decide))) hce hcv hcl ?_
      refine lv_astore (lv' := [(4, .ref q9), (0, .ref (G.2.2.1 8 0)), (1, .int (iI a0)), (2, .int (iI a1)), (3, .ref qo)]) hx hb dL_tryHinge_13 hl (by decide) rfl (fun ls hl => ?_)
      refine r_iconst (n := 1) hx hb dL_tryHinge_15 ?_
      refine W.widen (k := 2) (n := 12) (by decide) (by decide) ?_
      exact w_ret (k := 1) hx hb hr hlocks hK hI2 hS1 (by decide) hSC ⟨x0, ho1, fun z => absurd z (by decide)⟩ dL_tryHinge_16
    by_cases e1 : E = "java/lang/IllegalArgumentException"
    · subst e1
      have k1 : k = 2 := by rw [← mE]; decide
      subst k1
      refine vx_catch hown [⟨0, 10, 13, 25⟩] ⟨0, 10, 17, 19⟩ [] hE (fun z hz => by cases hz with | head => exact Or.inr ⟨by decide, "java/lang/IndexOutOfBoundsException", hts (.classLink RL 25 "java/lang/IndexOutOfBoundsException") (by decide +kernel), hN.1⟩ | tail _ q => cases q) (by decide) (by decide) (name := "java/lang/IllegalArgumentException") (hts (.classLink RL 19 "java/lang/IllegalArgumentException") (by decide +kernel)) (va_Nw.use rfl (hX.2.2.2.2.2.1 "java/lang/IllegalArgumentException" (by decide))) hce hcv hcl ?_
      refine lv_astore (lv' := [(4, .ref q9), (0, .ref (G.2.2.1 8 0)), (1, .int (iI a0)), (2, .int (iI a1)), (3, .ref qo)]) hx hb dL_tryHinge_17 hl (by decide) rfl (fun ls hl => ?_)
      refine r_iconst (n := 2) hx hb dL_tryHinge_19 ?_
      refine W.widen (k := 2) (n := 12) (by decide) (by decide) ?_
      exact w_ret (k := 2) hx hb hr hlocks hK hI2 hS1 (by decide) hSC ⟨x0, ho1, fun z => absurd z (by decide)⟩ dL_tryHinge_20
    · exfalso
      unfold mI at mE
      rw [if_neg e0, if_neg e1] at mE
      exact k0 mE.symm
  · obtain ⟨z, rfl, hk0, hP, hSC⟩ := hp
    subst hk0
    obtain ⟨hI1, hK1⟩ := hB
    rw [ht] at hI1
    have ho1 := ho.kept (hk qo ho.lt hno)
    refine lv_i2l (v := cvI z) hx hb dL_tryHinge_8 rfl ?_
    refine W.widen (k := 2) (n := 12) (by decide) (by decide) ?_
    exact w_ok (cv := cvI) (tgt := 21) hx hb hr hlocks hK hI1 hin hne hS1 hSC hP ho1 hqo dL_tryHinge_9 dL_tryHinge_10 (by decide) dL_tryHinge_21 dL_tryHinge_22
set_option maxHeartbeats 4000000 in
set_option maxRecDepth 100000 in
theorem wL_bestHinge (l : Launch) (G : WG) (hfl : l.stackTraces = false) (qo : Nat) (hne : ∀ K i, vC K i → ¬ G.2.2.1 K i = qo) (st : St) (a0 : Int) (k : Int) (P : Int → Prop) (a : Ab) (h : f8_bestHinge (O8 k P a) (X8 mO k a) st a0) : Met l yL_bestHinge wsL_bestHinge ({ frames := 8, cells := 1, slots := 6, locals := 171 }) (PcL G st qo [.ref (G.2.2.1 8 0), .int (iI a0), .ref qo]) (QcL G qo cvI k P a) 1 6 G.2.2.2.1 := by
  refine met_ofWH (cc := cL_bestHinge) (maxL := 4) (ret := some .int) (by decide) rfl ?_
  intro p e s m args below meth c s₁ B hml hvv
  obtain ⟨rfl, hA, hI, hK, hX, hN, hqo, x0, ho⟩ := hvv
  have hx := B.exec
  have hb := B.bytes
  have hr := B.returns
  have hts := atoms_spec (ws := wsL_bestHinge) B.pre
  have hown : s.vm.findClass RL = some m.cls := findClass_of_methodNamed B.named
  have hlocks := B.notSynchronized
  have hE := vx_table (x := yL_bestHinge) B (hts (.codeWith yL_bestHinge cL_bestHinge 4 (some .int) [(0, 9, 12, 25)]) List.mem_cons_self)
  have hvt : vC 8 0 := ⟨by decide, by decide, by decide, by decide⟩
  have hin : ∀ K i, vC K i → G.2.2.2.1 (G.2.2.1 K i) := fun K i v => Iv_in hI v
  have hBA := own_in (n := s.heap.size) hI hA
  have hno : ¬ ownV vC G s.heap.size qo := fun z => by
    rcases z with ⟨K, i, v, e9⟩ | z
    · exact hne K i v e9
    · exact absurd ho.lt (Nat.not_lt.mpr z)
  have hl := lv_entry ([.ref (G.2.2.1 8 0), .int (iI a0), .ref qo]) (n := 4) (Nat.le_of_ble_eq_true rfl)
  rw [lg_entry_eq]
  generalize (lg_sl ([.ref (G.2.2.1 8 0), .int (iI a0), .ref qo]) ++ List.replicate (4 - (lg_sl ([.ref (G.2.2.1 8 0), .int (iI a0), .ref qo])).length) Slot.unset).toArray = ls at hl ⊢
  have hl : lv_has ls 4 [(0, .ref (G.2.2.1 8 0)), (1, .int (iI a0)), (2, .ref qo)] := hl
  refine lv_aload_n hx hb dL_bestHinge_0 rfl (lv_at hl 2 rfl) ?_
  refine r_iconst (n := 0) hx hb dL_bestHinge_1 ?_
  refine lv_aload_n hx hb dL_bestHinge_2 rfl (lv_at hl 0 rfl) ?_
  refine lv_iload_n hx hb dL_bestHinge_3 rfl (lv_at hl 1 rfl) ?_
  refine vx_calli (vx_runV (As := [.int (iI a0)]) (rest := [.int (iI 0), .ref qo]) ⟨hx, hb, hml, hown, hts⟩ (m8_bestHinge l (wR G (ownV vC G s.heap.size)) hfl hvt _ _ st a0 h) (cwV 1 hts gL_bestHinge_X8_bestHinge rfl rfl rfl hd8_bestHinge ⟨Nat.le_of_ble_eq_true rfl, Nat.le_of_ble_eq_true rfl⟩) (pre_V (G := wR G (ownV vC G s.heap.size)) hK (XW_narrow hX hBA) (Iv_own _ hI) (fun q h9 => Or.inr h9) va_S.rf hvt rfl rfl [.int (iI a0)]) rfl rfl hl.1 rfl (lv_room (Nat.le_of_ble_eq_true rfl)) dL_bestHinge_4 ⟨Nat.le_of_ble_eq_true rfl, Nat.le_of_ble_eq_true rfl⟩) (va_S.rf : va_S G.2.2.2.1 s.heap s.heap []) (fun q _ h9 => hBA q h9) (fun q h9 => hBA q h9) (fun q _ h9 => hBA q h9) (fun E ce q9 u t H1 locs1 ht hvm _ hB hz hk hS1 hce hcv hcl => ?_) (fun r u t H1 locs1 ht hvm hp hB hz hk hS1 => ?_)
  · obtain ⟨⟨k0, mE, hSC⟩, hI1, hK1⟩ := hB
    rw [ht] at hI1
    have ho1 := ho.kept (hk qo ho.lt hno)
    have hI2 := Iv_back hI1 hin
    by_cases e0 : E = "java/lang/IndexOutOfBoundsException"
    · subst e0
      have k1 : k = 1 := by rw [← mE]; decide
      subst k1
      refine vx_catch hown [] ⟨0, 9, 12, 25⟩ [] hE (fun z hz => by cases hz) (by decide) (by decide) (name := "java/lang/IndexOutOfBoundsException") (hts (.classLink RL 25 "java/lang/IndexOutOfBoundsException") (by decide +kernel)) (va_Nw.use rfl (hX.2.2.2.2.2.1 "java/lang/IndexOutOfBoundsException" (by decide))) hce hcv hcl ?_
      refine lv_astore_n (lv' := [(3, .ref q9), (0, .ref (G.2.2.1 8 0)), (1, .int (iI a0)), (2, .ref qo)]) hx hb dL_bestHinge_12 rfl hl (by decide) rfl (fun ls hl => ?_)
      refine r_iconst (n := 1) hx hb dL_bestHinge_13 ?_
      refine W.widen (k := 1) (n := 6) (by decide) (by decide) ?_
      exact w_ret (k := 1) hx hb hr hlocks hK hI2 hS1 (by decide) hSC ⟨x0, ho1, fun z => absurd z (by decide)⟩ dL_bestHinge_14
    · exfalso
      unfold mO at mE
      rw [if_neg e0] at mE
      exact k0 mE.symm
  · obtain ⟨z, rfl, hk0, hP, hSC⟩ := hp
    subst hk0
    obtain ⟨hI1, hK1⟩ := hB
    rw [ht] at hI1
    have ho1 := ho.kept (hk qo ho.lt hno)
    refine lv_i2l (v := cvI z) hx hb dL_bestHinge_7 rfl ?_
    refine W.widen (k := 1) (n := 6) (by decide) (by decide) ?_
    exact w_ok (cv := cvI) (tgt := 15) hx hb hr hlocks hK hI1 hin hne hS1 hSC hP ho1 hqo dL_bestHinge_8 dL_bestHinge_9 (by decide) dL_bestHinge_15 dL_bestHinge_16
set_option maxHeartbeats 4000000 in
set_option maxRecDepth 100000 in
theorem wL_moveSupport (l : Launch) (G : WG) (hfl : l.stackTraces = false) (qo : Nat) (hne : ∀ K i, vC K i → ¬ G.2.2.1 K i = qo) (st : St) (a0 a1 : Int) (k : Int) (P : Int → Prop) (a : Ab) (h : f8_moveSupport (O8 k P a) (X8 mO k a) st a0 a1) : Met l yL_moveSupport wsL_moveSupport ({ frames := 8, cells := 2, slots := 12, locals := 157 }) (PcL G st qo [.ref (G.2.2.1 8 0), .int (iI a0), .int (iI a1), .ref qo]) (QcL G qo cvI k P a) 2 12 G.2.2.2.1 := by
  refine met_ofWH (cc := cL_moveSupport) (maxL := 5) (ret := some .int) (by decide) rfl ?_
  intro p e s m args below meth c s₁ B hml hvv
  obtain ⟨rfl, hA, hI, hK, hX, hN, hqo, x0, ho⟩ := hvv
  have hx := B.exec
  have hb := B.bytes
  have hr := B.returns
  have hts := atoms_spec (ws := wsL_moveSupport) B.pre
  have hown : s.vm.findClass RL = some m.cls := findClass_of_methodNamed B.named
  have hlocks := B.notSynchronized
  have hE := vx_table (x := yL_moveSupport) B (hts (.codeWith yL_moveSupport cL_moveSupport 5 (some .int) [(0, 10, 13, 25)]) List.mem_cons_self)
  have hvt : vC 8 0 := ⟨by decide, by decide, by decide, by decide⟩
  have hin : ∀ K i, vC K i → G.2.2.2.1 (G.2.2.1 K i) := fun K i v => Iv_in hI v
  have hBA := own_in (n := s.heap.size) hI hA
  have hno : ¬ ownV vC G s.heap.size qo := fun z => by
    rcases z with ⟨K, i, v, e9⟩ | z
    · exact hne K i v e9
    · exact absurd ho.lt (Nat.not_lt.mpr z)
  have hl := lv_entry ([.ref (G.2.2.1 8 0), .int (iI a0), .int (iI a1), .ref qo]) (n := 5) (Nat.le_of_ble_eq_true rfl)
  rw [lg_entry_eq]
  generalize (lg_sl ([.ref (G.2.2.1 8 0), .int (iI a0), .int (iI a1), .ref qo]) ++ List.replicate (5 - (lg_sl ([.ref (G.2.2.1 8 0), .int (iI a0), .int (iI a1), .ref qo])).length) Slot.unset).toArray = ls at hl ⊢
  have hl : lv_has ls 5 [(0, .ref (G.2.2.1 8 0)), (1, .int (iI a0)), (2, .int (iI a1)), (3, .ref qo)] := hl
  refine lv_aload_n hx hb dL_moveSupport_0 rfl (lv_at hl 3 rfl) ?_
  refine r_iconst (n := 0) hx hb dL_moveSupport_1 ?_
  refine lv_aload_n hx hb dL_moveSupport_2 rfl (lv_at hl 0 rfl) ?_
  refine lv_iload_n hx hb dL_moveSupport_3 rfl (lv_at hl 1 rfl) ?_
  refine lv_iload_n hx hb dL_moveSupport_4 rfl (lv_at hl 2 rfl) ?_
  refine vx_calli (vx_runV (As := [.int (iI a0), .int (iI a1)]) (rest := [.int (iI 0), .ref qo]) ⟨hx, hb, hml, hown, hts⟩ (m8_moveSupport l (wR G (ownV vC G s.heap.size)) hfl hvt _ _ st a0 a1 h) (cwV 2 hts gL_moveSupport_X8_moveSupport rfl rfl rfl hd8_moveSupport ⟨Nat.le_of_ble_eq_true rfl, Nat.le_of_ble_eq_true rfl⟩) (pre_V (G := wR G (ownV vC G s.heap.size)) hK (XW_narrow hX hBA) (Iv_own _ hI) (fun q h9 => Or.inr h9) va_S.rf hvt rfl rfl [.int (iI a0), .int (iI a1)]) rfl rfl hl.1 rfl (lv_room (Nat.le_of_ble_eq_true rfl)) dL_moveSupport_5 ⟨Nat.le_of_ble_eq_true rfl, Nat.le_of_ble_eq_true rfl⟩) (va_S.rf : va_S G.2.2.2.1 s.heap s.heap []) (fun q _ h9 => hBA q h9) (fun q h9 => hBA q h9) (fun q _ h9 => hBA q h9) (fun E ce q9 u t H1 locs1 ht hvm _ hB hz hk hS1 hce hcv hcl => ?_) (fun r u t H1 locs1 ht hvm hp hB hz hk hS1 => ?_)
  · obtain ⟨⟨k0, mE, hSC⟩, hI1, hK1⟩ := hB
    rw [ht] at hI1
    have ho1 := ho.kept (hk qo ho.lt hno)
    have hI2 := Iv_back hI1 hin
    by_cases e0 : E = "java/lang/IndexOutOfBoundsException"
    · subst e0
      have k1 : k = 1 := by rw [← mE]; decide
      subst k1
      refine vx_catch hown [] ⟨0, 10, 13, 25⟩ [] hE (fun z hz => by cases hz) (by decide) (by decide) (name := "java/lang/IndexOutOfBoundsException") (hts (.classLink RL 25 "java/lang/IndexOutOfBoundsException") (by decide +kernel)) (va_Nw.use rfl (hX.2.2.2.2.2.1 "java/lang/IndexOutOfBoundsException" (by decide))) hce hcv hcl ?_
      refine lv_astore (lv' := [(4, .ref q9), (0, .ref (G.2.2.1 8 0)), (1, .int (iI a0)), (2, .int (iI a1)), (3, .ref qo)]) hx hb dL_moveSupport_13 hl (by decide) rfl (fun ls hl => ?_)
      refine r_iconst (n := 1) hx hb dL_moveSupport_15 ?_
      refine W.widen (k := 2) (n := 12) (by decide) (by decide) ?_
      exact w_ret (k := 1) hx hb hr hlocks hK hI2 hS1 (by decide) hSC ⟨x0, ho1, fun z => absurd z (by decide)⟩ dL_moveSupport_16
    · exfalso
      unfold mO at mE
      rw [if_neg e0] at mE
      exact k0 mE.symm
  · obtain ⟨z, rfl, hk0, hP, hSC⟩ := hp
    subst hk0
    obtain ⟨hI1, hK1⟩ := hB
    rw [ht] at hI1
    have ho1 := ho.kept (hk qo ho.lt hno)
    refine lv_i2l (v := cvI z) hx hb dL_moveSupport_8 rfl ?_
    refine W.widen (k := 2) (n := 12) (by decide) (by decide) ?_
    exact w_ok (cv := cvI) (tgt := 17) hx hb hr hlocks hK hI1 hin hne hS1 hSC hP ho1 hqo dL_moveSupport_9 dL_moveSupport_10 (by decide) dL_moveSupport_17 dL_moveSupport_18
set_option maxHeartbeats 4000000 in
set_option maxRecDepth 100000 in
theorem wL_moveHinge (l : Launch) (G : WG) (hfl : l.stackTraces = false) (qo : Nat) (hne : ∀ K i, vC K i → ¬ G.2.2.1 K i = qo) (st : St) (a0 a1 : Int) (k : Int) (P : Int → Prop) (a : Ab) (h : f8_moveHinge (O8 k P a) (X8 mI k a) st a0 a1) : Met l yL_moveHinge wsL_moveHinge ({ frames := 9, cells := 2, slots := 12, locals := 159 }) (PcL G st qo [.ref (G.2.2.1 8 0), .int (iI a0), .int (iI a1), .ref qo]) (QcL G qo cvI k P a) 2 12 G.2.2.2.1 := by
  refine met_ofWH (cc := cL_moveHinge) (maxL := 5) (ret := some .int) (by decide) rfl ?_
  intro p e s m args below meth c s₁ B hml hvv
  obtain ⟨rfl, hA, hI, hK, hX, hN, hqo, x0, ho⟩ := hvv
  have hx := B.exec
  have hb := B.bytes
  have hr := B.returns
  have hts := atoms_spec (ws := wsL_moveHinge) B.pre
  have hown : s.vm.findClass RL = some m.cls := findClass_of_methodNamed B.named
  have hlocks := B.notSynchronized
  have hE := vx_table (x := yL_moveHinge) B (hts (.codeWith yL_moveHinge cL_moveHinge 5 (some .int) [(0, 10, 13, 25), (0, 10, 17, 19)]) List.mem_cons_self)
  have hvt : vC 8 0 := ⟨by decide, by decide, by decide, by decide⟩
  have hin : ∀ K i, vC K i → G.2.2.2.1 (G.2.2.1 K i) := fun K i v => Iv_in hI v
  have hBA := own_in (n := s.heap.size) hI hA
  have hno : ¬ ownV vC G s.heap.size qo := fun z => by
    rcases z with ⟨K, i, v, e9⟩ | z
    · exact hne K i v e9
    · exact absurd ho.lt (Nat.not_lt.mpr z)
  have hl := lv_entry ([.ref (G.2.2.1 8 0), .int (iI a0), .int (iI a1), .ref qo]) (n := 5) (Nat.le_of_ble_eq_true rfl)
  rw [lg_entry_eq]
  generalize (lg_sl ([.ref (G.2.2.1 8 0), .int (iI a0), .int (iI a1), .ref qo]) ++ List.replicate (5 - (lg_sl ([.ref (G.2.2.1 8 0), .int (iI a0), .int (iI a1), .ref qo])).length) Slot.unset).toArray = ls at hl ⊢
  have hl : lv_has ls 5 [(0, .ref (G.2.2.1 8 0)), (1, .int (iI a0)), (2, .int (iI a1)), (3, .ref qo)] := hl
  refine lv_aload_n hx hb dL_moveHinge_0 rfl (lv_at hl 3 rfl) ?_
  refine r_iconst (n := 0) hx hb dL_moveHinge_1 ?_
  refine lv_aload_n hx hb dL_moveHinge_2 rfl (lv_at hl 0 rfl) ?_
  refine lv_iload_n hx hb dL_moveHinge_3 rfl (lv_at hl 1 rfl) ?_
  refine lv_iload_n hx hb dL_moveHinge_4 rfl (lv_at hl 2 rfl) ?_
  refine vx_calli (vx_runV (As := [.int (iI a0), .int (iI a1)]) (rest := [.int (iI 0), .ref qo]) ⟨hx, hb, hml, hown, hts⟩ (m8_moveHinge l (wR G (ownV vC G s.heap.size)) hfl hvt _ _ st a0 a1 h) (cwV 2 hts gL_moveHinge_X8_moveHinge rfl rfl rfl hd8_moveHinge ⟨Nat.le_of_ble_eq_true rfl, Nat.le_of_ble_eq_true rfl⟩) (pre_V (G := wR G (ownV vC G s.heap.size)) hK (XW_narrow hX hBA) (Iv_own _ hI) (fun q h9 => Or.inr h9) va_S.rf hvt rfl rfl [.int (iI a0), .int (iI a1)]) rfl rfl hl.1 rfl (lv_room (Nat.le_of_ble_eq_true rfl)) dL_moveHinge_5 ⟨Nat.le_of_ble_eq_true rfl, Nat.le_of_ble_eq_true rfl⟩) (va_S.rf : va_S G.2.2.2.1 s.heap s.heap []) (fun q _ h9 => hBA q h9) (fun q h9 => hBA q h9) (fun q _ h9 => hBA q h9) (fun E ce q9 u t H1 locs1 ht hvm _ hB hz hk hS1 hce hcv hcl => ?_) (fun r u t H1 locs1 ht hvm hp hB hz hk hS1 => ?_)
  · obtain ⟨⟨k0, mE, hSC⟩, hI1, hK1⟩ := hB
    rw [ht] at hI1
    have ho1 := ho.kept (hk qo ho.lt hno)
    have hI2 := Iv_back hI1 hin
    by_cases e0 : E = "java/lang/IndexOutOfBoundsException"
    · subst e0
      have k1 : k = 1 := by rw [← mE]; decide
      subst k1
      refine vx_catch hown [] ⟨0, 10, 13, 25⟩ [⟨0, 10, 17, 19⟩] hE (fun z hz => by cases hz) (by decide) (by decide) (name := "java/lang/IndexOutOfBoundsException") (hts (.classLink RL 25 "java/lang/IndexOutOfBoundsException") (by decide +kernel)) (va_Nw.use rfl (hX.2.2.2.2.2.1 "java/lang/IndexOutOfBoundsException" (by decide))) hce hcv hcl ?_
      refine lv_astore (lv' := [(4, .ref q9), (0, .ref (G.2.2.1 8 0)), (1, .int (iI a0)), (2, .int (iI a1)), (3, .ref qo)]) hx hb dL_moveHinge_13 hl (by decide) rfl (fun ls hl => ?_)
      refine r_iconst (n := 1) hx hb dL_moveHinge_15 ?_
      refine W.widen (k := 2) (n := 12) (by decide) (by decide) ?_
      exact w_ret (k := 1) hx hb hr hlocks hK hI2 hS1 (by decide) hSC ⟨x0, ho1, fun z => absurd z (by decide)⟩ dL_moveHinge_16
    by_cases e1 : E = "java/lang/IllegalArgumentException"
    · subst e1
      have k1 : k = 2 := by rw [← mE]; decide
      subst k1
      refine vx_catch hown [⟨0, 10, 13, 25⟩] ⟨0, 10, 17, 19⟩ [] hE (fun z hz => by cases hz with | head => exact Or.inr ⟨by decide, "java/lang/IndexOutOfBoundsException", hts (.classLink RL 25 "java/lang/IndexOutOfBoundsException") (by decide +kernel), hN.1⟩ | tail _ q => cases q) (by decide) (by decide) (name := "java/lang/IllegalArgumentException") (hts (.classLink RL 19 "java/lang/IllegalArgumentException") (by decide +kernel)) (va_Nw.use rfl (hX.2.2.2.2.2.1 "java/lang/IllegalArgumentException" (by decide))) hce hcv hcl ?_
      refine lv_astore (lv' := [(4, .ref q9), (0, .ref (G.2.2.1 8 0)), (1, .int (iI a0)), (2, .int (iI a1)), (3, .ref qo)]) hx hb dL_moveHinge_17 hl (by decide) rfl (fun ls hl => ?_)
      refine r_iconst (n := 2) hx hb dL_moveHinge_19 ?_
      refine W.widen (k := 2) (n := 12) (by decide) (by decide) ?_
      exact w_ret (k := 2) hx hb hr hlocks hK hI2 hS1 (by decide) hSC ⟨x0, ho1, fun z => absurd z (by decide)⟩ dL_moveHinge_20
    · exfalso
      unfold mI at mE
      rw [if_neg e0, if_neg e1] at mE
      exact k0 mE.symm
  · obtain ⟨z, rfl, hk0, hP, hSC⟩ := hp
    subst hk0
    obtain ⟨hI1, hK1⟩ := hB
    rw [ht] at hI1
    have ho1 := ho.kept (hk qo ho.lt hno)
    refine lv_i2l (v := cvI z) hx hb dL_moveHinge_8 rfl ?_
    refine W.widen (k := 2) (n := 12) (by decide) (by decide) ?_
    exact w_ok (cv := cvI) (tgt := 21) hx hb hr hlocks hK hI1 hin hne hS1 hSC hP ho1 hqo dL_moveHinge_9 dL_moveHinge_10 (by decide) dL_moveHinge_21 dL_moveHinge_22
set_option maxHeartbeats 4000000 in
set_option maxRecDepth 100000 in
theorem wL_addLoad (l : Launch) (G : WG) (hfl : l.stackTraces = false) (qo : Nat) (hne : ∀ K i, vC K i → ¬ G.2.2.1 K i = qo) (st : St) (a0 a1 : Int) (k : Int) (P : Int → Prop) (a : Ab) (h : f8_addLoad (O8 k P a) (X8 mI k a) st a0 a1) : Met l yL_addLoad wsL_addLoad ({ frames := 8, cells := 2, slots := 12, locals := 152 }) (PcL G st qo [.ref (G.2.2.1 8 0), .int (iI a0), .int (iI a1), .ref qo]) (QcL G qo cvI k P a) 2 12 G.2.2.2.1 := by
  refine met_ofWH (cc := cL_addLoad) (maxL := 5) (ret := some .int) (by decide) rfl ?_
  intro p e s m args below meth c s₁ B hml hvv
  obtain ⟨rfl, hA, hI, hK, hX, hN, hqo, x0, ho⟩ := hvv
  have hx := B.exec
  have hb := B.bytes
  have hr := B.returns
  have hts := atoms_spec (ws := wsL_addLoad) B.pre
  have hown : s.vm.findClass RL = some m.cls := findClass_of_methodNamed B.named
  have hlocks := B.notSynchronized
  have hE := vx_table (x := yL_addLoad) B (hts (.codeWith yL_addLoad cL_addLoad 5 (some .int) [(0, 10, 13, 25), (0, 10, 17, 19)]) List.mem_cons_self)
  have hvt : vC 8 0 := ⟨by decide, by decide, by decide, by decide⟩
  have hin : ∀ K i, vC K i → G.2.2.2.1 (G.2.2.1 K i) := fun K i v => Iv_in hI v
  have hBA := own_in (n := s.heap.size) hI hA
  have hno : ¬ ownV vC G s.heap.size qo := fun z => by
    rcases z with ⟨K, i, v, e9⟩ | z
    · exact hne K i v e9
    · exact absurd ho.lt (Nat.not_lt.mpr z)
  have hl := lv_entry ([.ref (G.2.2.1 8 0), .int (iI a0), .int (iI a1), .ref qo]) (n := 5) (Nat.le_of_ble_eq_true rfl)
  rw [lg_entry_eq]
  generalize (lg_sl ([.ref (G.2.2.1 8 0), .int (iI a0), .int (iI a1), .ref qo]) ++ List.replicate (5 - (lg_sl ([.ref (G.2.2.1 8 0), .int (iI a0), .int (iI a1), .ref qo])).length) Slot.unset).toArray = ls at hl ⊢
  have hl : lv_has ls 5 [(0, .ref (G.2.2.1 8 0)), (1, .int (iI a0)), (2, .int (iI a1)), (3, .ref qo)] := hl
  refine lv_aload_n hx hb dL_addLoad_0 rfl (lv_at hl 3 rfl) ?_
  refine r_iconst (n := 0) hx hb dL_addLoad_1 ?_
  refine lv_aload_n hx hb dL_addLoad_2 rfl (lv_at hl 0 rfl) ?_
  refine lv_iload_n hx hb dL_addLoad_3 rfl (lv_at hl 1 rfl) ?_
  refine lv_iload_n hx hb dL_addLoad_4 rfl (lv_at hl 2 rfl) ?_
  refine vx_calli (vx_runV (As := [.int (iI a0), .int (iI a1)]) (rest := [.int (iI 0), .ref qo]) ⟨hx, hb, hml, hown, hts⟩ (m8_addLoad l (wR G (ownV vC G s.heap.size)) hfl hvt _ _ st a0 a1 h) (cwV 2 hts gL_addLoad_X8_addLoad rfl rfl rfl hd8_addLoad ⟨Nat.le_of_ble_eq_true rfl, Nat.le_of_ble_eq_true rfl⟩) (pre_V (G := wR G (ownV vC G s.heap.size)) hK (XW_narrow hX hBA) (Iv_own _ hI) (fun q h9 => Or.inr h9) va_S.rf hvt rfl rfl [.int (iI a0), .int (iI a1)]) rfl rfl hl.1 rfl (lv_room (Nat.le_of_ble_eq_true rfl)) dL_addLoad_5 ⟨Nat.le_of_ble_eq_true rfl, Nat.le_of_ble_eq_true rfl⟩) (va_S.rf : va_S G.2.2.2.1 s.heap s.heap []) (fun q _ h9 => hBA q h9) (fun q h9 => hBA q h9) (fun q _ h9 => hBA q h9) (fun E ce q9 u t H1 locs1 ht hvm _ hB hz hk hS1 hce hcv hcl => ?_) (fun r u t H1 locs1 ht hvm hp hB hz hk hS1 => ?_)
  · obtain ⟨⟨k0, mE, hSC⟩, hI1, hK1⟩ := hB
    rw [ht] at hI1
    have ho1 := ho.kept (hk qo ho.lt hno)
    have hI2 := Iv_back hI1 hin
    by_cases e0 : E = "java/lang/IndexOutOfBoundsException"
    · subst e0
      have k1 : k = 1 := by rw [← mE]; decide
      subst k1
      refine vx_catch hown [] ⟨0, 10, 13, 25⟩ [⟨0, 10, 17, 19⟩] hE (fun z hz => by cases hz) (by decide) (by decide) (name := "java/lang/IndexOutOfBoundsException") (hts (.classLink RL 25 "java/lang/IndexOutOfBoundsException") (by decide +kernel)) (va_Nw.use rfl (hX.2.2.2.2.2.1 "java/lang/IndexOutOfBoundsException" (by decide))) hce hcv hcl ?_
      refine lv_astore (lv' := [(4, .ref q9), (0, .ref (G.2.2.1 8 0)), (1, .int (iI a0)), (2, .int (iI a1)), (3, .ref qo)]) hx hb dL_addLoad_13 hl (by decide) rfl (fun ls hl => ?_)
      refine r_iconst (n := 1) hx hb dL_addLoad_15 ?_
      refine W.widen (k := 2) (n := 12) (by decide) (by decide) ?_
      exact w_ret (k := 1) hx hb hr hlocks hK hI2 hS1 (by decide) hSC ⟨x0, ho1, fun z => absurd z (by decide)⟩ dL_addLoad_16
    by_cases e1 : E = "java/lang/IllegalArgumentException"
    · subst e1
      have k1 : k = 2 := by rw [← mE]; decide
      subst k1
      refine vx_catch hown [⟨0, 10, 13, 25⟩] ⟨0, 10, 17, 19⟩ [] hE (fun z hz => by cases hz with | head => exact Or.inr ⟨by decide, "java/lang/IndexOutOfBoundsException", hts (.classLink RL 25 "java/lang/IndexOutOfBoundsException") (by decide +kernel), hN.1⟩ | tail _ q => cases q) (by decide) (by decide) (name := "java/lang/IllegalArgumentException") (hts (.classLink RL 19 "java/lang/IllegalArgumentException") (by decide +kernel)) (va_Nw.use rfl (hX.2.2.2.2.2.1 "java/lang/IllegalArgumentException" (by decide))) hce hcv hcl ?_
      refine lv_astore (lv' := [(4, .ref q9), (0, .ref (G.2.2.1 8 0)), (1, .int (iI a0)), (2, .int (iI a1)), (3, .ref qo)]) hx hb dL_addLoad_17 hl (by decide) rfl (fun ls hl => ?_)
      refine r_iconst (n := 2) hx hb dL_addLoad_19 ?_
      refine W.widen (k := 2) (n := 12) (by decide) (by decide) ?_
      exact w_ret (k := 2) hx hb hr hlocks hK hI2 hS1 (by decide) hSC ⟨x0, ho1, fun z => absurd z (by decide)⟩ dL_addLoad_20
    · exfalso
      unfold mI at mE
      rw [if_neg e0, if_neg e1] at mE
      exact k0 mE.symm
  · obtain ⟨z, rfl, hk0, hP, hSC⟩ := hp
    subst hk0
    obtain ⟨hI1, hK1⟩ := hB
    rw [ht] at hI1
    have ho1 := ho.kept (hk qo ho.lt hno)
    refine lv_i2l (v := cvI z) hx hb dL_addLoad_8 rfl ?_
    refine W.widen (k := 2) (n := 12) (by decide) (by decide) ?_
    exact w_ok (cv := cvI) (tgt := 21) hx hb hr hlocks hK hI1 hin hne hS1 hSC hP ho1 hqo dL_addLoad_9 dL_addLoad_10 (by decide) dL_addLoad_21 dL_addLoad_22
set_option maxHeartbeats 4000000 in
set_option maxRecDepth 100000 in
theorem wL_dropLoad (l : Launch) (G : WG) (hfl : l.stackTraces = false) (qo : Nat) (hne : ∀ K i, vC K i → ¬ G.2.2.1 K i = qo) (st : St) (a0 : Int) (k : Int) (P : Int → Prop) (a : Ab) (h : f8_dropLoad (O8 k P a) (X8 mO k a) st a0) : Met l yL_dropLoad wsL_dropLoad ({ frames := 9, cells := 1, slots := 6, locals := 155 }) (PcL G st qo [.ref (G.2.2.1 8 0), .int (iI a0), .ref qo]) (QcL G qo cvI k P a) 1 6 G.2.2.2.1 := by
  refine met_ofWH (cc := cL_dropLoad) (maxL := 4) (ret := some .int) (by decide) rfl ?_
  intro p e s m args below meth c s₁ B hml hvv
  obtain ⟨rfl, hA, hI, hK, hX, hN, hqo, x0, ho⟩ := hvv
  have hx := B.exec
  have hb := B.bytes
  have hr := B.returns
  have hts := atoms_spec (ws := wsL_dropLoad) B.pre
  have hown : s.vm.findClass RL = some m.cls := findClass_of_methodNamed B.named
  have hlocks := B.notSynchronized
  have hE := vx_table (x := yL_dropLoad) B (hts (.codeWith yL_dropLoad cL_dropLoad 4 (some .int) [(0, 9, 12, 25)]) List.mem_cons_self)
  have hvt : vC 8 0 := ⟨by decide, by decide, by decide, by decide⟩
  have hin : ∀ K i, vC K i → G.2.2.2.1 (G.2.2.1 K i) := fun K i v => Iv_in hI v
  have hBA := own_in (n := s.heap.size) hI hA
  have hno : ¬ ownV vC G s.heap.size qo := fun z => by
    rcases z with ⟨K, i, v, e9⟩ | z
    · exact hne K i v e9
    · exact absurd ho.lt (Nat.not_lt.mpr z)
  have hl := lv_entry ([.ref (G.2.2.1 8 0), .int (iI a0), .ref qo]) (n := 4) (Nat.le_of_ble_eq_true rfl)
  rw [lg_entry_eq]
  generalize (lg_sl ([.ref (G.2.2.1 8 0), .int (iI a0), .ref qo]) ++ List.replicate (4 - (lg_sl ([.ref (G.2.2.1 8 0), .int (iI a0), .ref qo])).length) Slot.unset).toArray = ls at hl ⊢
  have hl : lv_has ls 4 [(0, .ref (G.2.2.1 8 0)), (1, .int (iI a0)), (2, .ref qo)] := hl
  refine lv_aload_n hx hb dL_dropLoad_0 rfl (lv_at hl 2 rfl) ?_
  refine r_iconst (n := 0) hx hb dL_dropLoad_1 ?_
  refine lv_aload_n hx hb dL_dropLoad_2 rfl (lv_at hl 0 rfl) ?_
  refine lv_iload_n hx hb dL_dropLoad_3 rfl (lv_at hl 1 rfl) ?_
  refine vx_calli (vx_runV (As := [.int (iI a0)]) (rest := [.int (iI 0), .ref qo]) ⟨hx, hb, hml, hown, hts⟩ (m8_dropLoad l (wR G (ownV vC G s.heap.size)) hfl hvt _ _ st a0 h) (cwV 1 hts gL_dropLoad_X8_dropLoad rfl rfl rfl hd8_dropLoad ⟨Nat.le_of_ble_eq_true rfl, Nat.le_of_ble_eq_true rfl⟩) (pre_V (G := wR G (ownV vC G s.heap.size)) hK (XW_narrow hX hBA) (Iv_own _ hI) (fun q h9 => Or.inr h9) va_S.rf hvt rfl rfl [.int (iI a0)]) rfl rfl hl.1 rfl (lv_room (Nat.le_of_ble_eq_true rfl)) dL_dropLoad_4 ⟨Nat.le_of_ble_eq_true rfl, Nat.le_of_ble_eq_true rfl⟩) (va_S.rf : va_S G.2.2.2.1 s.heap s.heap []) (fun q _ h9 => hBA q h9) (fun q h9 => hBA q h9) (fun q _ h9 => hBA q h9) (fun E ce q9 u t H1 locs1 ht hvm _ hB hz hk hS1 hce hcv hcl => ?_) (fun r u t H1 locs1 ht hvm hp hB hz hk hS1 => ?_)
  · obtain ⟨⟨k0, mE, hSC⟩, hI1, hK1⟩ := hB
    rw [ht] at hI1
    have ho1 := ho.kept (hk qo ho.lt hno)
    have hI2 := Iv_back hI1 hin
    by_cases e0 : E = "java/lang/IndexOutOfBoundsException"
    · subst e0
      have k1 : k = 1 := by rw [← mE]; decide
      subst k1
      refine vx_catch hown [] ⟨0, 9, 12, 25⟩ [] hE (fun z hz => by cases hz) (by decide) (by decide) (name := "java/lang/IndexOutOfBoundsException") (hts (.classLink RL 25 "java/lang/IndexOutOfBoundsException") (by decide +kernel)) (va_Nw.use rfl (hX.2.2.2.2.2.1 "java/lang/IndexOutOfBoundsException" (by decide))) hce hcv hcl ?_
      refine lv_astore_n (lv' := [(3, .ref q9), (0, .ref (G.2.2.1 8 0)), (1, .int (iI a0)), (2, .ref qo)]) hx hb dL_dropLoad_12 rfl hl (by decide) rfl (fun ls hl => ?_)
      refine r_iconst (n := 1) hx hb dL_dropLoad_13 ?_
      refine W.widen (k := 1) (n := 6) (by decide) (by decide) ?_
      exact w_ret (k := 1) hx hb hr hlocks hK hI2 hS1 (by decide) hSC ⟨x0, ho1, fun z => absurd z (by decide)⟩ dL_dropLoad_14
    · exfalso
      unfold mO at mE
      rw [if_neg e0] at mE
      exact k0 mE.symm
  · obtain ⟨z, rfl, hk0, hP, hSC⟩ := hp
    subst hk0
    obtain ⟨hI1, hK1⟩ := hB
    rw [ht] at hI1
    have ho1 := ho.kept (hk qo ho.lt hno)
    refine lv_i2l (v := cvI z) hx hb dL_dropLoad_7 rfl ?_
    refine W.widen (k := 1) (n := 6) (by decide) (by decide) ?_
    exact w_ok (cv := cvI) (tgt := 15) hx hb hr hlocks hK hI1 hin hne hS1 hSC hP ho1 hqo dL_dropLoad_8 dL_dropLoad_9 (by decide) dL_dropLoad_15 dL_dropLoad_16
set_option maxHeartbeats 4000000 in
set_option maxRecDepth 100000 in
theorem wL_addAxle (l : Launch) (G : WG) (hfl : l.stackTraces = false) (qo : Nat) (hne : ∀ K i, vC K i → ¬ G.2.2.1 K i = qo) (st : St) (a0 a1 : Int) (k : Int) (P : Int → Prop) (a : Ab) (h : f8_addAxle (O8 k P a) (X8 mA k a) st a0 a1) : Met l yL_addAxle wsL_addAxle ({ frames := 8, cells := 2, slots := 12, locals := 152 }) (PcL G st qo [.ref (G.2.2.1 8 0), .int (iI a0), .int (iI a1), .ref qo]) (QcL G qo cvI k P a) 2 12 G.2.2.2.1 := by
  refine met_ofWH (cc := cL_addAxle) (maxL := 5) (ret := some .int) (by decide) rfl ?_
  intro p e s m args below meth c s₁ B hml hvv
  obtain ⟨rfl, hA, hI, hK, hX, hN, hqo, x0, ho⟩ := hvv
  have hx := B.exec
  have hb := B.bytes
  have hr := B.returns
  have hts := atoms_spec (ws := wsL_addAxle) B.pre
  have hown : s.vm.findClass RL = some m.cls := findClass_of_methodNamed B.named
  have hlocks := B.notSynchronized
  have hE := vx_table (x := yL_addAxle) B (hts (.codeWith yL_addAxle cL_addAxle 5 (some .int) [(0, 10, 13, 19)]) List.mem_cons_self)
  have hvt : vC 8 0 := ⟨by decide, by decide, by decide, by decide⟩
  have hin : ∀ K i, vC K i → G.2.2.2.1 (G.2.2.1 K i) := fun K i v => Iv_in hI v
  have hBA := own_in (n := s.heap.size) hI hA
  have hno : ¬ ownV vC G s.heap.size qo := fun z => by
    rcases z with ⟨K, i, v, e9⟩ | z
    · exact hne K i v e9
    · exact absurd ho.lt (Nat.not_lt.mpr z)
  have hl := lv_entry ([.ref (G.2.2.1 8 0), .int (iI a0), .int (iI a1), .ref qo]) (n := 5) (Nat.le_of_ble_eq_true rfl)
  rw [lg_entry_eq]
  generalize (lg_sl ([.ref (G.2.2.1 8 0), .int (iI a0), .int (iI a1), .ref qo]) ++ List.replicate (5 - (lg_sl ([.ref (G.2.2.1 8 0), .int (iI a0), .int (iI a1), .ref qo])).length) Slot.unset).toArray = ls at hl ⊢
  have hl : lv_has ls 5 [(0, .ref (G.2.2.1 8 0)), (1, .int (iI a0)), (2, .int (iI a1)), (3, .ref qo)] := hl
  refine lv_aload_n hx hb dL_addAxle_0 rfl (lv_at hl 3 rfl) ?_
  refine r_iconst (n := 0) hx hb dL_addAxle_1 ?_
  refine lv_aload_n hx hb dL_addAxle_2 rfl (lv_at hl 0 rfl) ?_
  refine lv_iload_n hx hb dL_addAxle_3 rfl (lv_at hl 1 rfl) ?_
  refine lv_iload_n hx hb dL_addAxle_4 rfl (lv_at hl 2 rfl) ?_
  refine vx_calli (vx_runV (As := [.int (iI a0), .int (iI a1)]) (rest := [.int (iI 0), .ref qo]) ⟨hx, hb, hml, hown, hts⟩ (m8_addAxle l (wR G (ownV vC G s.heap.size)) hfl hvt _ _ st a0 a1 h) (cwV 2 hts gL_addAxle_X8_addAxle rfl rfl rfl hd8_addAxle ⟨Nat.le_of_ble_eq_true rfl, Nat.le_of_ble_eq_true rfl⟩) (pre_V (G := wR G (ownV vC G s.heap.size)) hK (XW_narrow hX hBA) (Iv_own _ hI) (fun q h9 => Or.inr h9) va_S.rf hvt rfl rfl [.int (iI a0), .int (iI a1)]) rfl rfl hl.1 rfl (lv_room (Nat.le_of_ble_eq_true rfl)) dL_addAxle_5 ⟨Nat.le_of_ble_eq_true rfl, Nat.le_of_ble_eq_true rfl⟩) (va_S.rf : va_S G.2.2.2.1 s.heap s.heap []) (fun q _ h9 => hBA q h9) (fun q h9 => hBA q h9) (fun q _ h9 => hBA q h9) (fun E ce q9 u t H1 locs1 ht hvm _ hB hz hk hS1 hce hcv hcl => ?_) (fun r u t H1 locs1 ht hvm hp hB hz hk hS1 => ?_)
  · obtain ⟨⟨k0, mE, hSC⟩, hI1, hK1⟩ := hB
    rw [ht] at hI1
    have ho1 := ho.kept (hk qo ho.lt hno)
    have hI2 := Iv_back hI1 hin
    by_cases e0 : E = "java/lang/IllegalArgumentException"
    · subst e0
      have k1 : k = 1 := by rw [← mE]; decide
      subst k1
      refine vx_catch hown [] ⟨0, 10, 13, 19⟩ [] hE (fun z hz => by cases hz) (by decide) (by decide) (name := "java/lang/IllegalArgumentException") (hts (.classLink RL 19 "java/lang/IllegalArgumentException") (by decide +kernel)) (va_Nw.use rfl (hX.2.2.2.2.2.1 "java/lang/IllegalArgumentException" (by decide))) hce hcv hcl ?_
      refine lv_astore (lv' := [(4, .ref q9), (0, .ref (G.2.2.1 8 0)), (1, .int (iI a0)), (2, .int (iI a1)), (3, .ref qo)]) hx hb dL_addAxle_13 hl (by decide) rfl (fun ls hl => ?_)
      refine r_iconst (n := 1) hx hb dL_addAxle_15 ?_
      refine W.widen (k := 2) (n := 12) (by decide) (by decide) ?_
      exact w_ret (k := 1) hx hb hr hlocks hK hI2 hS1 (by decide) hSC ⟨x0, ho1, fun z => absurd z (by decide)⟩ dL_addAxle_16
    · exfalso
      unfold mA at mE
      rw [if_neg e0] at mE
      exact k0 mE.symm
  · obtain ⟨z, rfl, hk0, hP, hSC⟩ := hp
    subst hk0
    obtain ⟨hI1, hK1⟩ := hB
    rw [ht] at hI1
    have ho1 := ho.kept (hk qo ho.lt hno)
    refine lv_i2l (v := cvI z) hx hb dL_addAxle_8 rfl ?_
    refine W.widen (k := 2) (n := 12) (by decide) (by decide) ?_
    exact w_ok (cv := cvI) (tgt := 17) hx hb hr hlocks hK hI1 hin hne hS1 hSC hP ho1 hqo dL_addAxle_9 dL_addAxle_10 (by decide) dL_addAxle_17 dL_addAxle_18
set_option maxHeartbeats 4000000 in
set_option maxRecDepth 100000 in
theorem wL_dropAxle (l : Launch) (G : WG) (hfl : l.stackTraces = false) (qo : Nat) (hne : ∀ K i, vC K i → ¬ G.2.2.1 K i = qo) (st : St) (a0 : Int) (k : Int) (P : Int → Prop) (a : Ab) (h : f8_dropAxle (O8 k P a) (X8 mO k a) st a0) : Met l yL_dropAxle wsL_dropAxle ({ frames := 9, cells := 1, slots := 6, locals := 155 }) (PcL G st qo [.ref (G.2.2.1 8 0), .int (iI a0), .ref qo]) (QcL G qo cvI k P a) 1 6 G.2.2.2.1 := by
  refine met_ofWH (cc := cL_dropAxle) (maxL := 4) (ret := some .int) (by decide) rfl ?_
  intro p e s m args below meth c s₁ B hml hvv
  obtain ⟨rfl, hA, hI, hK, hX, hN, hqo, x0, ho⟩ := hvv
  have hx := B.exec
  have hb := B.bytes
  have hr := B.returns
  have hts := atoms_spec (ws := wsL_dropAxle) B.pre
  have hown : s.vm.findClass RL = some m.cls := findClass_of_methodNamed B.named
  have hlocks := B.notSynchronized
  have hE := vx_table (x := yL_dropAxle) B (hts (.codeWith yL_dropAxle cL_dropAxle 4 (some .int) [(0, 9, 12, 25)]) List.mem_cons_self)
  have hvt : vC 8 0 := ⟨by decide, by decide, by decide, by decide⟩
  have hin : ∀ K i, vC K i → G.2.2.2.1 (G.2.2.1 K i) := fun K i v => Iv_in hI v
  have hBA := own_in (n := s.heap.size) hI hA
  have hno : ¬ ownV vC G s.heap.size qo := fun z => by
    rcases z with ⟨K, i, v, e9⟩ | z
    · exact hne K i v e9
    · exact absurd ho.lt (Nat.not_lt.mpr z)
  have hl := lv_entry ([.ref (G.2.2.1 8 0), .int (iI a0), .ref qo]) (n := 4) (Nat.le_of_ble_eq_true rfl)
  rw [lg_entry_eq]
  generalize (lg_sl ([.ref (G.2.2.1 8 0), .int (iI a0), .ref qo]) ++ List.replicate (4 - (lg_sl ([.ref (G.2.2.1 8 0), .int (iI a0), .ref qo])).length) Slot.unset).toArray = ls at hl ⊢
  have hl : lv_has ls 4 [(0, .ref (G.2.2.1 8 0)), (1, .int (iI a0)), (2, .ref qo)] := hl
  refine lv_aload_n hx hb dL_dropAxle_0 rfl (lv_at hl 2 rfl) ?_
  refine r_iconst (n := 0) hx hb dL_dropAxle_1 ?_
  refine lv_aload_n hx hb dL_dropAxle_2 rfl (lv_at hl 0 rfl) ?_
  refine lv_iload_n hx hb dL_dropAxle_3 rfl (lv_at hl 1 rfl) ?_
  refine vx_calli (vx_runV (As := [.int (iI a0)]) (rest := [.int (iI 0), .ref qo]) ⟨hx, hb, hml, hown, hts⟩ (m8_dropAxle l (wR G (ownV vC G s.heap.size)) hfl hvt _ _ st a0 h) (cwV 1 hts gL_dropAxle_X8_dropAxle rfl rfl rfl hd8_dropAxle ⟨Nat.le_of_ble_eq_true rfl, Nat.le_of_ble_eq_true rfl⟩) (pre_V (G := wR G (ownV vC G s.heap.size)) hK (XW_narrow hX hBA) (Iv_own _ hI) (fun q h9 => Or.inr h9) va_S.rf hvt rfl rfl [.int (iI a0)]) rfl rfl hl.1 rfl (lv_room (Nat.le_of_ble_eq_true rfl)) dL_dropAxle_4 ⟨Nat.le_of_ble_eq_true rfl, Nat.le_of_ble_eq_true rfl⟩) (va_S.rf : va_S G.2.2.2.1 s.heap s.heap []) (fun q _ h9 => hBA q h9) (fun q h9 => hBA q h9) (fun q _ h9 => hBA q h9) (fun E ce q9 u t H1 locs1 ht hvm _ hB hz hk hS1 hce hcv hcl => ?_) (fun r u t H1 locs1 ht hvm hp hB hz hk hS1 => ?_)
  · obtain ⟨⟨k0, mE, hSC⟩, hI1, hK1⟩ := hB
    rw [ht] at hI1
    have ho1 := ho.kept (hk qo ho.lt hno)
    have hI2 := Iv_back hI1 hin
    by_cases e0 : E = "java/lang/IndexOutOfBoundsException"
    · subst e0
      have k1 : k = 1 := by rw [← mE]; decide
      subst k1
      refine vx_catch hown [] ⟨0, 9, 12, 25⟩ [] hE (fun z hz => by cases hz) (by decide) (by decide) (name := "java/lang/IndexOutOfBoundsException") (hts (.classLink RL 25 "java/lang/IndexOutOfBoundsException") (by decide +kernel)) (va_Nw.use rfl (hX.2.2.2.2.2.1 "java/lang/IndexOutOfBoundsException" (by decide))) hce hcv hcl ?_
      refine lv_astore_n (lv' := [(3, .ref q9), (0, .ref (G.2.2.1 8 0)), (1, .int (iI a0)), (2, .ref qo)]) hx hb dL_dropAxle_12 rfl hl (by decide) rfl (fun ls hl => ?_)
      refine r_iconst (n := 1) hx hb dL_dropAxle_13 ?_
      refine W.widen (k := 1) (n := 6) (by decide) (by decide) ?_
      exact w_ret (k := 1) hx hb hr hlocks hK hI2 hS1 (by decide) hSC ⟨x0, ho1, fun z => absurd z (by decide)⟩ dL_dropAxle_14
    · exfalso
      unfold mO at mE
      rw [if_neg e0] at mE
      exact k0 mE.symm
  · obtain ⟨z, rfl, hk0, hP, hSC⟩ := hp
    subst hk0
    obtain ⟨hI1, hK1⟩ := hB
    rw [ht] at hI1
    have ho1 := ho.kept (hk qo ho.lt hno)
    refine lv_i2l (v := cvI z) hx hb dL_dropAxle_7 rfl ?_
    refine W.widen (k := 1) (n := 6) (by decide) (by decide) ?_
    exact w_ok (cv := cvI) (tgt := 15) hx hb hr hlocks hK hI1 hin hne hS1 hSC hP ho1 hqo dL_dropAxle_8 dL_dropAxle_9 (by decide) dL_dropAxle_15 dL_dropAxle_16
set_option maxHeartbeats 4000000 in
set_option maxRecDepth 100000 in
theorem wL_setBearing (l : Launch) (G : WG) (hfl : l.stackTraces = false) (qo : Nat) (hne : ∀ K i, vC K i → ¬ G.2.2.1 K i = qo) (st : St) (a0 a1 : Int) (k : Int) (P : Int → Prop) (a : Ab) (h : f8_setBearing (O8 k P a) (X8 mI k a) st a0 a1) : Met l yL_setBearing wsL_setBearing ({ frames := 8, cells := 2, slots := 12, locals := 135 }) (PcL G st qo [.ref (G.2.2.1 8 0), .int (iI a0), .int (iI a1), .ref qo]) (QcL G qo cvI k P a) 2 12 G.2.2.2.1 := by
  refine met_ofWH (cc := cL_setBearing) (maxL := 5) (ret := some .int) (by decide) rfl ?_
  intro p e s m args below meth c s₁ B hml hvv
  obtain ⟨rfl, hA, hI, hK, hX, hN, hqo, x0, ho⟩ := hvv
  have hx := B.exec
  have hb := B.bytes
  have hr := B.returns
  have hts := atoms_spec (ws := wsL_setBearing) B.pre
  have hown : s.vm.findClass RL = some m.cls := findClass_of_methodNamed B.named
  have hlocks := B.notSynchronized
  have hE := vx_table (x := yL_setBearing) B (hts (.codeWith yL_setBearing cL_setBearing 5 (some .int) [(0, 10, 13, 25), (0, 10, 17, 19)]) List.mem_cons_self)
  have hvt : vC 8 0 := ⟨by decide, by decide, by decide, by decide⟩
  have hin : ∀ K i, vC K i → G.2.2.2.1 (G.2.2.1 K i) := fun K i v => Iv_in hI v
  have hBA := own_in (n := s.heap.size) hI hA
  have hno : ¬ ownV vC G s.heap.size qo := fun z => by
    rcases z with ⟨K, i, v, e9⟩ | z
    · exact hne K i v e9
    · exact absurd ho.lt (Nat.not_lt.mpr z)
  have hl := lv_entry ([.ref (G.2.2.1 8 0), .int (iI a0), .int (iI a1), .ref qo]) (n := 5) (Nat.le_of_ble_eq_true rfl)
  rw [lg_entry_eq]
  generalize (lg_sl ([.ref (G.2.2.1 8 0), .int (iI a0), .int (iI a1), .ref qo]) ++ List.replicate (5 - (lg_sl ([.ref (G.2.2.1 8 0), .int (iI a0), .int (iI a1), .ref qo])).length) Slot.unset).toArray = ls at hl ⊢
  have hl : lv_has ls 5 [(0, .ref (G.2.2.1 8 0)), (1, .int (iI a0)), (2, .int (iI a1)), (3, .ref qo)] := hl
  refine lv_aload_n hx hb dL_setBearing_0 rfl (lv_at hl 3 rfl) ?_
  refine r_iconst (n := 0) hx hb dL_setBearing_1 ?_
  refine lv_aload_n hx hb dL_setBearing_2 rfl (lv_at hl 0 rfl) ?_
  refine lv_iload_n hx hb dL_setBearing_3 rfl (lv_at hl 1 rfl) ?_
  refine lv_iload_n hx hb dL_setBearing_4 rfl (lv_at hl 2 rfl) ?_
  refine vx_calli (vx_runV (As := [.int (iI a0), .int (iI a1)]) (rest := [.int (iI 0), .ref qo]) ⟨hx, hb, hml, hown, hts⟩ (m8_setBearing l (wR G (ownV vC G s.heap.size)) hfl hvt _ _ st a0 a1 h) (cwV 2 hts gL_setBearing_X8_setBearing rfl rfl rfl hd8_setBearing ⟨Nat.le_of_ble_eq_true rfl, Nat.le_of_ble_eq_true rfl⟩) (pre_V (G := wR G (ownV vC G s.heap.size)) hK (XW_narrow hX hBA) (Iv_own _ hI) (fun q h9 => Or.inr h9) va_S.rf hvt rfl rfl [.int (iI a0), .int (iI a1)]) rfl rfl hl.1 rfl (lv_room (Nat.le_of_ble_eq_true rfl)) dL_setBearing_5 ⟨Nat.le_of_ble_eq_true rfl, Nat.le_of_ble_eq_true rfl⟩) (va_S.rf : va_S G.2.2.2.1 s.heap s.heap []) (fun q _ h9 => hBA q h9) (fun q h9 => hBA q h9) (fun q _ h9 => hBA q h9) (fun E ce q9 u t H1 locs1 ht hvm _ hB hz hk hS1 hce hcv hcl => ?_) (fun r u t H1 locs1 ht hvm hp hB hz hk hS1 => ?_)
  · obtain ⟨⟨k0, mE, hSC⟩, hI1, hK1⟩ := hB
    rw [ht] at hI1
    have ho1 := ho.kept (hk qo ho.lt hno)
    have hI2 := Iv_back hI1 hin
    by_cases e0 : E = "java/lang/IndexOutOfBoundsException"
    · subst e0
      have k1 : k = 1 := by rw [← mE]; decide
      subst k1
      refine vx_catch hown [] ⟨0, 10, 13, 25⟩ [⟨0, 10, 17, 19⟩] hE (fun z hz => by cases hz) (by decide) (by decide) (name := "java/lang/IndexOutOfBoundsException") (hts (.classLink RL 25 "java/lang/IndexOutOfBoundsException") (by decide +kernel)) (va_Nw.use rfl (hX.2.2.2.2.2.1 "java/lang/IndexOutOfBoundsException" (by decide))) hce hcv hcl ?_
      refine lv_astore (lv' := [(4, .ref q9), (0, .ref (G.2.2.1 8 0)), (1, .int (iI a0)), (2, .int (iI a1)), (3, .ref qo)]) hx hb dL_setBearing_13 hl (by decide) rfl (fun ls hl => ?_)
      refine r_iconst (n := 1) hx hb dL_setBearing_15 ?_
      refine W.widen (k := 2) (n := 12) (by decide) (by decide) ?_
      exact w_ret (k := 1) hx hb hr hlocks hK hI2 hS1 (by decide) hSC ⟨x0, ho1, fun z => absurd z (by decide)⟩ dL_setBearing_16
    by_cases e1 : E = "java/lang/IllegalArgumentException"
    · subst e1
      have k1 : k = 2 := by rw [← mE]; decide
      subst k1
      refine vx_catch hown [⟨0, 10, 13, 25⟩] ⟨0, 10, 17, 19⟩ [] hE (fun z hz => by cases hz with | head => exact Or.inr ⟨by decide, "java/lang/IndexOutOfBoundsException", hts (.classLink RL 25 "java/lang/IndexOutOfBoundsException") (by decide +kernel), hN.1⟩ | tail _ q => cases q) (by decide) (by decide) (name := "java/lang/IllegalArgumentException") (hts (.classLink RL 19 "java/lang/IllegalArgumentException") (by decide +kernel)) (va_Nw.use rfl (hX.2.2.2.2.2.1 "java/lang/IllegalArgumentException" (by decide))) hce hcv hcl ?_
      refine lv_astore (lv' := [(4, .ref q9), (0, .ref (G.2.2.1 8 0)), (1, .int (iI a0)), (2, .int (iI a1)), (3, .ref qo)]) hx hb dL_setBearing_17 hl (by decide) rfl (fun ls hl => ?_)
      refine r_iconst (n := 2) hx hb dL_setBearing_19 ?_
      refine W.widen (k := 2) (n := 12) (by decide) (by decide) ?_
      exact w_ret (k := 2) hx hb hr hlocks hK hI2 hS1 (by decide) hSC ⟨x0, ho1, fun z => absurd z (by decide)⟩ dL_setBearing_20
    · exfalso
      unfold mI at mE
      rw [if_neg e0, if_neg e1] at mE
      exact k0 mE.symm
  · obtain ⟨z, rfl, hk0, hP, hSC⟩ := hp
    subst hk0
    obtain ⟨hI1, hK1⟩ := hB
    rw [ht] at hI1
    have ho1 := ho.kept (hk qo ho.lt hno)
    refine lv_i2l (v := cvI z) hx hb dL_setBearing_8 rfl ?_
    refine W.widen (k := 2) (n := 12) (by decide) (by decide) ?_
    exact w_ok (cv := cvI) (tgt := 21) hx hb hr hlocks hK hI1 hin hne hS1 hSC hP ho1 hqo dL_setBearing_9 dL_setBearing_10 (by decide) dL_setBearing_21 dL_setBearing_22
set_option maxHeartbeats 4000000 in
set_option maxRecDepth 100000 in
theorem wL_setMost (l : Launch) (G : WG) (hfl : l.stackTraces = false) (qo : Nat) (hne : ∀ K i, vC K i → ¬ G.2.2.1 K i = qo) (st : St) (a0 : Int) (k : Int) (P : Int → Prop) (a : Ab) (h : f8_setMost (O8 k P a) (X8 mA k a) st a0) : Met l yL_setMost wsL_setMost ({ frames := 8, cells := 1, slots := 6, locals := 134 }) (PcL G st qo [.ref (G.2.2.1 8 0), .int (iI a0), .ref qo]) (QcL G qo cvI k P a) 1 6 G.2.2.2.1 := by
  refine met_ofWH (cc := cL_setMost) (maxL := 4) (ret := some .int) (by decide) rfl ?_
  intro p e s m args below meth c s₁ B hml hvv
  obtain ⟨rfl, hA, hI, hK, hX, hN, hqo, x0, ho⟩ := hvv
  have hx := B.exec
  have hb := B.bytes
  have hr := B.returns
  have hts := atoms_spec (ws := wsL_setMost) B.pre
  have hown : s.vm.findClass RL = some m.cls := findClass_of_methodNamed B.named
  have hlocks := B.notSynchronized
  have hE := vx_table (x := yL_setMost) B (hts (.codeWith yL_setMost cL_setMost 4 (some .int) [(0, 9, 12, 19)]) List.mem_cons_self)
  have hvt : vC 8 0 := ⟨by decide, by decide, by decide, by decide⟩
  have hin : ∀ K i, vC K i → G.2.2.2.1 (G.2.2.1 K i) := fun K i v => Iv_in hI v
  have hBA := own_in (n := s.heap.size) hI hA
  have hno : ¬ ownV vC G s.heap.size qo := fun z => by
    rcases z with ⟨K, i, v, e9⟩ | z
    · exact hne K i v e9
    · exact absurd ho.lt (Nat.not_lt.mpr z)
  have hl := lv_entry ([.ref (G.2.2.1 8 0), .int (iI a0), .ref qo]) (n := 4) (Nat.le_of_ble_eq_true rfl)
  rw [lg_entry_eq]
  generalize (lg_sl ([.ref (G.2.2.1 8 0), .int (iI a0), .ref qo]) ++ List.replicate (4 - (lg_sl ([.ref (G.2.2.1 8 0), .int (iI a0), .ref qo])).length) Slot.unset).toArray = ls at hl ⊢
  have hl : lv_has ls 4 [(0, .ref (G.2.2.1 8 0)), (1, .int (iI a0)), (2, .ref qo)] := hl
  refine lv_aload_n hx hb dL_setMost_0 rfl (lv_at hl 2 rfl) ?_
  refine r_iconst (n := 0) hx hb dL_setMost_1 ?_
  refine lv_aload_n hx hb dL_setMost_2 rfl (lv_at hl 0 rfl) ?_
  refine lv_iload_n hx hb dL_setMost_3 rfl (lv_at hl 1 rfl) ?_
  refine vx_calli (vx_runV (As := [.int (iI a0)]) (rest := [.int (iI 0), .ref qo]) ⟨hx, hb, hml, hown, hts⟩ (m8_setMost l (wR G (ownV vC G s.heap.size)) hfl hvt _ _ st a0 h) (cwV 1 hts gL_setMost_X8_setMost rfl rfl rfl hd8_setMost ⟨Nat.le_of_ble_eq_true rfl, Nat.le_of_ble_eq_true rfl⟩) (pre_V (G := wR G (ownV vC G s.heap.size)) hK (XW_narrow hX hBA) (Iv_own _ hI) (fun q h9 => Or.inr h9) va_S.rf hvt rfl rfl [.int (iI a0)]) rfl rfl hl.1 rfl (lv_room (Nat.le_of_ble_eq_true rfl)) dL_setMost_4 ⟨Nat.le_of_ble_eq_true rfl, Nat.le_of_ble_eq_true rfl⟩) (va_S.rf : va_S G.2.2.2.1 s.heap s.heap []) (fun q _ h9 => hBA q h9) (fun q h9 => hBA q h9) (fun q _ h9 => hBA q h9) (fun E ce q9 u t H1 locs1 ht hvm _ hB hz hk hS1 hce hcv hcl => ?_) (fun r u t H1 locs1 ht hvm hp hB hz hk hS1 => ?_)
  · obtain ⟨⟨k0, mE, hSC⟩, hI1, hK1⟩ := hB
    rw [ht] at hI1
    have ho1 := ho.kept (hk qo ho.lt hno)
    have hI2 := Iv_back hI1 hin
    by_cases e0 : E = "java/lang/IllegalArgumentException"
    · subst e0
      have k1 : k = 1 := by rw [← mE]; decide
      subst k1
      refine vx_catch hown [] ⟨0, 9, 12, 19⟩ [] hE (fun z hz => by cases hz) (by decide) (by decide) (name := "java/lang/IllegalArgumentException") (hts (.classLink RL 19 "java/lang/IllegalArgumentException") (by decide +kernel)) (va_Nw.use rfl (hX.2.2.2.2.2.1 "java/lang/IllegalArgumentException" (by decide))) hce hcv hcl ?_
      refine lv_astore_n (lv' := [(3, .ref q9), (0, .ref (G.2.2.1 8 0)), (1, .int (iI a0)), (2, .ref qo)]) hx hb dL_setMost_12 rfl hl (by decide) rfl (fun ls hl => ?_)
      refine r_iconst (n := 1) hx hb dL_setMost_13 ?_
      refine W.widen (k := 1) (n := 6) (by decide) (by decide) ?_
      exact w_ret (k := 1) hx hb hr hlocks hK hI2 hS1 (by decide) hSC ⟨x0, ho1, fun z => absurd z (by decide)⟩ dL_setMost_14
    · exfalso
      unfold mA at mE
      rw [if_neg e0] at mE
      exact k0 mE.symm
  · obtain ⟨z, rfl, hk0, hP, hSC⟩ := hp
    subst hk0
    obtain ⟨hI1, hK1⟩ := hB
    rw [ht] at hI1
    have ho1 := ho.kept (hk qo ho.lt hno)
    refine lv_i2l (v := cvI z) hx hb dL_setMost_7 rfl ?_
    refine W.widen (k := 1) (n := 6) (by decide) (by decide) ?_
    exact w_ok (cv := cvI) (tgt := 15) hx hb hr hlocks hK hI1 hin hne hS1 hSC hP ho1 hqo dL_setMost_8 dL_setMost_9 (by decide) dL_setMost_15 dL_setMost_16
set_option maxHeartbeats 4000000 in
set_option maxRecDepth 100000 in
theorem wL_undo (l : Launch) (G : WG) (hfl : l.stackTraces = false) (qo : Nat) (hne : ∀ K i, vC K i → ¬ G.2.2.1 K i = qo) (st : St) (k : Int) (P : Int → Prop) (a : Ab) (h : f8_undo (O8 k P a) (X8 mS k a) st) : Met l yL_undo wsL_undo ({ frames := 7, cells := 1, slots := 6, locals := 133 }) (PcL G st qo [.ref (G.2.2.1 8 0), .ref qo]) (QcL G qo cvI k P a) 1 6 G.2.2.2.1 := by
  refine met_ofWH (cc := cL_undo) (maxL := 3) (ret := some .int) (by decide) rfl ?_
  intro p e s m args below meth c s₁ B hml hvv
  obtain ⟨rfl, hA, hI, hK, hX, hN, hqo, x0, ho⟩ := hvv
  have hx := B.exec
  have hb := B.bytes
  have hr := B.returns
  have hts := atoms_spec (ws := wsL_undo) B.pre
  have hown : s.vm.findClass RL = some m.cls := findClass_of_methodNamed B.named
  have hlocks := B.notSynchronized
  have hE := vx_table (x := yL_undo) B (hts (.codeWith yL_undo cL_undo 3 (some .int) [(0, 8, 11, 13)]) List.mem_cons_self)
  have hvt : vC 8 0 := ⟨by decide, by decide, by decide, by decide⟩
  have hin : ∀ K i, vC K i → G.2.2.2.1 (G.2.2.1 K i) := fun K i v => Iv_in hI v
  have hBA := own_in (n := s.heap.size) hI hA
  have hno : ¬ ownV vC G s.heap.size qo := fun z => by
    rcases z with ⟨K, i, v, e9⟩ | z
    · exact hne K i v e9
    · exact absurd ho.lt (Nat.not_lt.mpr z)
  have hl := lv_entry ([.ref (G.2.2.1 8 0), .ref qo]) (n := 3) (Nat.le_of_ble_eq_true rfl)
  rw [lg_entry_eq]
  generalize (lg_sl ([.ref (G.2.2.1 8 0), .ref qo]) ++ List.replicate (3 - (lg_sl ([.ref (G.2.2.1 8 0), .ref qo])).length) Slot.unset).toArray = ls at hl ⊢
  have hl : lv_has ls 3 [(0, .ref (G.2.2.1 8 0)), (1, .ref qo)] := hl
  refine lv_aload_n hx hb dL_undo_0 rfl (lv_at hl 1 rfl) ?_
  refine r_iconst (n := 0) hx hb dL_undo_1 ?_
  refine lv_aload_n hx hb dL_undo_2 rfl (lv_at hl 0 rfl) ?_
  refine vx_calli (vx_runV (As := []) (rest := [.int (iI 0), .ref qo]) ⟨hx, hb, hml, hown, hts⟩ (m8_undo l (wR G (ownV vC G s.heap.size)) hfl hvt _ _ st  h) (cwV 0 hts gL_undo_X8_undo rfl rfl rfl hd8_undo ⟨Nat.le_of_ble_eq_true rfl, Nat.le_of_ble_eq_true rfl⟩) (pre_V (G := wR G (ownV vC G s.heap.size)) hK (XW_narrow hX hBA) (Iv_own _ hI) (fun q h9 => Or.inr h9) va_S.rf hvt rfl rfl []) rfl rfl hl.1 rfl (lv_room (Nat.le_of_ble_eq_true rfl)) dL_undo_3 ⟨Nat.le_of_ble_eq_true rfl, Nat.le_of_ble_eq_true rfl⟩) (va_S.rf : va_S G.2.2.2.1 s.heap s.heap []) (fun q _ h9 => hBA q h9) (fun q h9 => hBA q h9) (fun q _ h9 => hBA q h9) (fun E ce q9 u t H1 locs1 ht hvm _ hB hz hk hS1 hce hcv hcl => ?_) (fun r u t H1 locs1 ht hvm hp hB hz hk hS1 => ?_)
  · obtain ⟨⟨k0, mE, hSC⟩, hI1, hK1⟩ := hB
    rw [ht] at hI1
    have ho1 := ho.kept (hk qo ho.lt hno)
    have hI2 := Iv_back hI1 hin
    by_cases e0 : E = "java/lang/IllegalStateException"
    · subst e0
      have k1 : k = 1 := by rw [← mE]; decide
      subst k1
      refine vx_catch hown [] ⟨0, 8, 11, 13⟩ [] hE (fun z hz => by cases hz) (by decide) (by decide) (name := "java/lang/IllegalStateException") (hts (.classLink RL 13 "java/lang/IllegalStateException") (by decide +kernel)) (va_Nw.use rfl (hX.2.2.2.2.2.1 "java/lang/IllegalStateException" (by decide))) hce hcv hcl ?_
      refine lv_astore_n (lv' := [(2, .ref q9), (0, .ref (G.2.2.1 8 0)), (1, .ref qo)]) hx hb dL_undo_11 rfl hl (by decide) rfl (fun ls hl => ?_)
      refine r_iconst (n := 1) hx hb dL_undo_12 ?_
      refine W.widen (k := 1) (n := 6) (by decide) (by decide) ?_
      exact w_ret (k := 1) hx hb hr hlocks hK hI2 hS1 (by decide) hSC ⟨x0, ho1, fun z => absurd z (by decide)⟩ dL_undo_13
    · exfalso
      unfold mS at mE
      rw [if_neg e0] at mE
      exact k0 mE.symm
  · obtain ⟨z, rfl, hk0, hP, hSC⟩ := hp
    subst hk0
    obtain ⟨hI1, hK1⟩ := hB
    rw [ht] at hI1
    have ho1 := ho.kept (hk qo ho.lt hno)
    refine lv_i2l (v := cvI z) hx hb dL_undo_6 rfl ?_
    refine W.widen (k := 1) (n := 6) (by decide) (by decide) ?_
    exact w_ok (cv := cvI) (tgt := 14) hx hb hr hlocks hK hI1 hin hne hS1 hSC hP ho1 hqo dL_undo_7 dL_undo_8 (by decide) dL_undo_14 dL_undo_15
set_option maxHeartbeats 4000000 in
set_option maxRecDepth 100000 in
theorem wL_save (l : Launch) (G : WG) (hfl : l.stackTraces = false) (st : St) (a0 : Int) (k : Int) (a : Ab) (h : f8_save (fun u => k = 0 ∧ SC u a) (X8 mO k a) st a0) : Met l yL_save wsL_save ({ frames := 8, cells := 1, slots := 6, locals := 131 }) (PcN G st [.ref (G.2.2.1 8 0), .int (iI a0)]) (QcN G k a) 1 6 G.2.2.2.1 := by
  refine met_ofWH (cc := cL_save) (maxL := 3) (ret := some .int) (by decide) rfl ?_
  intro p e s m args below meth c s₁ B hml hvv
  obtain ⟨rfl, hA, hI, hK, hX, hN⟩ := hvv
  have hx := B.exec
  have hb := B.bytes
  have hr := B.returns
  have hts := atoms_spec (ws := wsL_save) B.pre
  have hown : s.vm.findClass RL = some m.cls := findClass_of_methodNamed B.named
  have hlocks := B.notSynchronized
  have hE := vx_table (x := yL_save) B (hts (.codeWith yL_save cL_save 3 (some .int) [(0, 5, 8, 25)]) List.mem_cons_self)
  have hvt : vC 8 0 := ⟨by decide, by decide, by decide, by decide⟩
  have hin : ∀ K i, vC K i → G.2.2.2.1 (G.2.2.1 K i) := fun K i v => Iv_in hI v
  have hBA := own_in (n := s.heap.size) hI hA
  have hl := lv_entry ([.ref (G.2.2.1 8 0), .int (iI a0)]) (n := 3) (Nat.le_of_ble_eq_true rfl)
  rw [lg_entry_eq]
  generalize (lg_sl ([.ref (G.2.2.1 8 0), .int (iI a0)]) ++ List.replicate (3 - (lg_sl ([.ref (G.2.2.1 8 0), .int (iI a0)])).length) Slot.unset).toArray = ls at hl ⊢
  have hl : lv_has ls 3 [(0, .ref (G.2.2.1 8 0)), (1, .int (iI a0))] := hl
  refine lv_aload_n hx hb dL_save_0 rfl (lv_at hl 0 rfl) ?_
  refine lv_iload_n hx hb dL_save_1 rfl (lv_at hl 1 rfl) ?_
  refine vx_callv (vx_runV (As := [.int (iI a0)]) (rest := []) ⟨hx, hb, hml, hown, hts⟩ (m8_save l (wR G (ownV vC G s.heap.size)) hfl hvt _ _ st a0 h) (cwV 1 hts gL_save_X8_save rfl rfl rfl hd8_save ⟨Nat.le_of_ble_eq_true rfl, Nat.le_of_ble_eq_true rfl⟩) (pre_V (G := wR G (ownV vC G s.heap.size)) hK (XW_narrow hX hBA) (Iv_own _ hI) (fun q h9 => Or.inr h9) va_S.rf hvt rfl rfl [.int (iI a0)]) rfl rfl hl.1 rfl (lv_room (Nat.le_of_ble_eq_true rfl)) dL_save_2 ⟨Nat.le_of_ble_eq_true rfl, Nat.le_of_ble_eq_true rfl⟩) (va_S.rf : va_S G.2.2.2.1 s.heap s.heap []) (fun q _ h9 => hBA q h9) (fun q h9 => hBA q h9) (fun q _ h9 => hBA q h9) (fun E ce q9 u t H1 locs1 ht hvm _ hB hz hk hS1 hce hcv hcl => ?_) (fun u t H1 locs1 ht hvm hp hB hz hk hS1 => ?_)
  · obtain ⟨⟨k0, mE, hSC⟩, hI1, hK1⟩ := hB
    rw [ht] at hI1
    have hI2 := Iv_back hI1 hin
    by_cases e0 : E = "java/lang/IndexOutOfBoundsException"
    · subst e0
      have k1 : k = 1 := by rw [← mE]; decide
      subst k1
      refine vx_catch hown [] ⟨0, 5, 8, 25⟩ [] hE (fun z hz => by cases hz) (by decide) (by decide) (name := "java/lang/IndexOutOfBoundsException") (hts (.classLink RL 25 "java/lang/IndexOutOfBoundsException") (by decide +kernel)) (va_Nw.use rfl (hX.2.2.2.2.2.1 "java/lang/IndexOutOfBoundsException" (by decide))) hce hcv hcl ?_
      refine lv_astore_n (lv' := [(2, .ref q9), (0, .ref (G.2.2.1 8 0)), (1, .int (iI a0))]) hx hb dL_save_8 rfl hl (by decide) rfl (fun ls hl => ?_)
      refine r_iconst (n := 1) hx hb dL_save_9 ?_
      refine W.widen (k := 1) (n := 6) (by decide) (by decide) ?_
      exact w_retN (k := 1) hx hb hr hlocks hK hI2 hS1 (by decide) hSC dL_save_10
    · exfalso
      unfold mO at mE
      rw [if_neg e0] at mE
      exact k0 mE.symm
  · obtain ⟨hk0, hSC⟩ := hp
    subst hk0
    obtain ⟨hI1, hK1⟩ := hB
    rw [ht] at hI1
    have hI2 := Iv_back hI1 hin
    refine lv_goto (tgt := 11) hx hb dL_save_5 (by decide) ?_
    refine r_iconst (n := 0) hx hb dL_save_11 ?_
    refine W.widen (k := 1) (n := 6) (by decide) (by decide) ?_
    exact w_retN (k := 0) hx hb hr hlocks hK hI2 hS1 (by decide) hSC dL_save_12
set_option maxHeartbeats 4000000 in
set_option maxRecDepth 100000 in
theorem wL_restore (l : Launch) (G : WG) (hfl : l.stackTraces = false) (qo : Nat) (hne : ∀ K i, vC K i → ¬ G.2.2.1 K i = qo) (st : St) (a0 : Int) (k : Int) (P : Int → Prop) (a : Ab) (h : f8_restore (O8 k P a) (X8 mR k a) st a0) : Met l yL_restore wsL_restore ({ frames := 8, cells := 2, slots := 12, locals := 134 }) (PcL G st qo [.ref (G.2.2.1 8 0), .int (iI a0), .ref qo]) (QcL G qo cvI k P a) 2 12 G.2.2.2.1 := by
  refine met_ofWH (cc := cL_restore) (maxL := 4) (ret := some .int) (by decide) rfl ?_
  intro p e s m args below meth c s₁ B hml hvv
  obtain ⟨rfl, hA, hI, hK, hX, hN, hqo, x0, ho⟩ := hvv
  have hx := B.exec
  have hb := B.bytes
  have hr := B.returns
  have hts := atoms_spec (ws := wsL_restore) B.pre
  have hown : s.vm.findClass RL = some m.cls := findClass_of_methodNamed B.named
  have hlocks := B.notSynchronized
  have hE := vx_table (x := yL_restore) B (hts (.codeWith yL_restore cL_restore 4 (some .int) [(0, 9, 12, 25), (0, 9, 15, 13)]) List.mem_cons_self)
  have hvt : vC 8 0 := ⟨by decide, by decide, by decide, by decide⟩
  have hin : ∀ K i, vC K i → G.2.2.2.1 (G.2.2.1 K i) := fun K i v => Iv_in hI v
  have hBA := own_in (n := s.heap.size) hI hA
  have hno : ¬ ownV vC G s.heap.size qo := fun z => by
    rcases z with ⟨K, i, v, e9⟩ | z
    · exact hne K i v e9
    · exact absurd ho.lt (Nat.not_lt.mpr z)
  have hl := lv_entry ([.ref (G.2.2.1 8 0), .int (iI a0), .ref qo]) (n := 4) (Nat.le_of_ble_eq_true rfl)
  rw [lg_entry_eq]
  generalize (lg_sl ([.ref (G.2.2.1 8 0), .int (iI a0), .ref qo]) ++ List.replicate (4 - (lg_sl ([.ref (G.2.2.1 8 0), .int (iI a0), .ref qo])).length) Slot.unset).toArray = ls at hl ⊢
  have hl : lv_has ls 4 [(0, .ref (G.2.2.1 8 0)), (1, .int (iI a0)), (2, .ref qo)] := hl
  refine lv_aload_n hx hb dL_restore_0 rfl (lv_at hl 2 rfl) ?_
  refine r_iconst (n := 0) hx hb dL_restore_1 ?_
  refine lv_aload_n hx hb dL_restore_2 rfl (lv_at hl 0 rfl) ?_
  refine lv_iload_n hx hb dL_restore_3 rfl (lv_at hl 1 rfl) ?_
  refine vx_calli (vx_runV (As := [.int (iI a0)]) (rest := [.int (iI 0), .ref qo]) ⟨hx, hb, hml, hown, hts⟩ (m8_restore l (wR G (ownV vC G s.heap.size)) hfl hvt _ _ st a0 h) (cwV 1 hts gL_restore_X8_restore rfl rfl rfl hd8_restore ⟨Nat.le_of_ble_eq_true rfl, Nat.le_of_ble_eq_true rfl⟩) (pre_V (G := wR G (ownV vC G s.heap.size)) hK (XW_narrow hX hBA) (Iv_own _ hI) (fun q h9 => Or.inr h9) va_S.rf hvt rfl rfl [.int (iI a0)]) rfl rfl hl.1 rfl (lv_room (Nat.le_of_ble_eq_true rfl)) dL_restore_4 ⟨Nat.le_of_ble_eq_true rfl, Nat.le_of_ble_eq_true rfl⟩) (va_S.rf : va_S G.2.2.2.1 s.heap s.heap []) (fun q _ h9 => hBA q h9) (fun q h9 => hBA q h9) (fun q _ h9 => hBA q h9) (fun E ce q9 u t H1 locs1 ht hvm _ hB hz hk hS1 hce hcv hcl => ?_) (fun r u t H1 locs1 ht hvm hp hB hz hk hS1 => ?_)
  · obtain ⟨⟨k0, mE, hSC⟩, hI1, hK1⟩ := hB
    rw [ht] at hI1
    have ho1 := ho.kept (hk qo ho.lt hno)
    have hI2 := Iv_back hI1 hin
    by_cases e0 : E = "java/lang/IndexOutOfBoundsException"
    · subst e0
      have k1 : k = 1 := by rw [← mE]; decide
      subst k1
      refine vx_catch hown [] ⟨0, 9, 12, 25⟩ [⟨0, 9, 15, 13⟩] hE (fun z hz => by cases hz) (by decide) (by decide) (name := "java/lang/IndexOutOfBoundsException") (hts (.classLink RL 25 "java/lang/IndexOutOfBoundsException") (by decide +kernel)) (va_Nw.use rfl (hX.2.2.2.2.2.1 "java/lang/IndexOutOfBoundsException" (by decide))) hce hcv hcl ?_
      refine lv_astore_n (lv' := [(3, .ref q9), (0, .ref (G.2.2.1 8 0)), (1, .int (iI a0)), (2, .ref qo)]) hx hb dL_restore_12 rfl hl (by decide) rfl (fun ls hl => ?_)
      refine r_iconst (n := 1) hx hb dL_restore_13 ?_
      refine W.widen (k := 2) (n := 12) (by decide) (by decide) ?_
      exact w_ret (k := 1) hx hb hr hlocks hK hI2 hS1 (by decide) hSC ⟨x0, ho1, fun z => absurd z (by decide)⟩ dL_restore_14
    by_cases e1 : E = "java/lang/IllegalStateException"
    · subst e1
      have k1 : k = 2 := by rw [← mE]; decide
      subst k1
      refine vx_catch hown [⟨0, 9, 12, 25⟩] ⟨0, 9, 15, 13⟩ [] hE (fun z hz => by cases hz with | head => exact Or.inr ⟨by decide, "java/lang/IndexOutOfBoundsException", hts (.classLink RL 25 "java/lang/IndexOutOfBoundsException") (by decide +kernel), hN.2⟩ | tail _ q => cases q) (by decide) (by decide) (name := "java/lang/IllegalStateException") (hts (.classLink RL 13 "java/lang/IllegalStateException") (by decide +kernel)) (va_Nw.use rfl (hX.2.2.2.2.2.1 "java/lang/IllegalStateException" (by decide))) hce hcv hcl ?_
      refine lv_astore_n (lv' := [(3, .ref q9), (0, .ref (G.2.2.1 8 0)), (1, .int (iI a0)), (2, .ref qo)]) hx hb dL_restore_15 rfl hl (by decide) rfl (fun ls hl => ?_)
      refine r_iconst (n := 2) hx hb dL_restore_16 ?_
      refine W.widen (k := 2) (n := 12) (by decide) (by decide) ?_
      exact w_ret (k := 2) hx hb hr hlocks hK hI2 hS1 (by decide) hSC ⟨x0, ho1, fun z => absurd z (by decide)⟩ dL_restore_17
    · exfalso
      unfold mR at mE
      rw [if_neg e0, if_neg e1] at mE
      exact k0 mE.symm
  · obtain ⟨z, rfl, hk0, hP, hSC⟩ := hp
    subst hk0
    obtain ⟨hI1, hK1⟩ := hB
    rw [ht] at hI1
    have ho1 := ho.kept (hk qo ho.lt hno)
    refine lv_i2l (v := cvI z) hx hb dL_restore_7 rfl ?_
    refine W.widen (k := 2) (n := 12) (by decide) (by decide) ?_
    exact w_ok (cv := cvI) (tgt := 18) hx hb hr hlocks hK hI1 hin hne hS1 hSC hP ho1 hqo dL_restore_8 dL_restore_9 (by decide) dL_restore_18 dL_restore_19
set_option maxHeartbeats 4000000 in
set_option maxRecDepth 100000 in
theorem wL_writtenByte (l : Launch) (G : WG) (hfl : l.stackTraces = false) (qo : Nat) (hne : ∀ K i, vC K i → ¬ G.2.2.1 K i = qo) (st : St) (a0 : Int) (k : Int) (P : Int → Prop) (a : Ab) (h : f8_writtenByte (O8 k P a) (X8 mO k a) st a0) : Met l yL_writtenByte wsL_writtenByte ({ frames := 7, cells := 1, slots := 6, locals := 110 }) (PcL G st qo [.ref (G.2.2.1 8 0), .int (iI a0), .ref qo]) (QcL G qo cvI k P a) 1 6 G.2.2.2.1 := by
  refine met_ofWH (cc := cL_writtenByte) (maxL := 4) (ret := some .int) (by decide) rfl ?_
  intro p e s m args below meth c s₁ B hml hvv
  obtain ⟨rfl, hA, hI, hK, hX, hN, hqo, x0, ho⟩ := hvv
  have hx := B.exec
  have hb := B.bytes
  have hr := B.returns
  have hts := atoms_spec (ws := wsL_writtenByte) B.pre
  have hown : s.vm.findClass RL = some m.cls := findClass_of_methodNamed B.named
  have hlocks := B.notSynchronized
  have hE := vx_table (x := yL_writtenByte) B (hts (.codeWith yL_writtenByte cL_writtenByte 4 (some .int) [(0, 9, 12, 25)]) List.mem_cons_self)
  have hvt : vC 8 0 := ⟨by decide, by decide, by decide, by decide⟩
  have hin : ∀ K i, vC K i → G.2.2.2.1 (G.2.2.1 K i) := fun K i v => Iv_in hI v
  have hBA := own_in (n := s.heap.size) hI hA
  have hno : ¬ ownV vC G s.heap.size qo := fun z => by
    rcases z with ⟨K, i, v, e9⟩ | z
    · exact hne K i v e9
    · exact absurd ho.lt (Nat.not_lt.mpr z)
  have hl := lv_entry ([.ref (G.2.2.1 8 0), .int (iI a0), .ref qo]) (n := 4) (Nat.le_of_ble_eq_true rfl)
  rw [lg_entry_eq]
  generalize (lg_sl ([.ref (G.2.2.1 8 0), .int (iI a0), .ref qo]) ++ List.replicate (4 - (lg_sl ([.ref (G.2.2.1 8 0), .int (iI a0), .ref qo])).length) Slot.unset).toArray = ls at hl ⊢
  have hl : lv_has ls 4 [(0, .ref (G.2.2.1 8 0)), (1, .int (iI a0)), (2, .ref qo)] := hl
  refine lv_aload_n hx hb dL_writtenByte_0 rfl (lv_at hl 2 rfl) ?_
  refine r_iconst (n := 0) hx hb dL_writtenByte_1 ?_
  refine lv_aload_n hx hb dL_writtenByte_2 rfl (lv_at hl 0 rfl) ?_
  refine lv_iload_n hx hb dL_writtenByte_3 rfl (lv_at hl 1 rfl) ?_
  refine vx_calli (vx_runV (As := [.int (iI a0)]) (rest := [.int (iI 0), .ref qo]) ⟨hx, hb, hml, hown, hts⟩ (m8_writtenByte l (wR G (ownV vC G s.heap.size)) hfl hvt _ _ st a0 h) (cwV 1 hts gL_writtenByte_X8_writtenByte rfl rfl rfl hd8_writtenByte ⟨Nat.le_of_ble_eq_true rfl, Nat.le_of_ble_eq_true rfl⟩) (pre_V (G := wR G (ownV vC G s.heap.size)) hK (XW_narrow hX hBA) (Iv_own _ hI) (fun q h9 => Or.inr h9) va_S.rf hvt rfl rfl [.int (iI a0)]) rfl rfl hl.1 rfl (lv_room (Nat.le_of_ble_eq_true rfl)) dL_writtenByte_4 ⟨Nat.le_of_ble_eq_true rfl, Nat.le_of_ble_eq_true rfl⟩) (va_S.rf : va_S G.2.2.2.1 s.heap s.heap []) (fun q _ h9 => hBA q h9) (fun q h9 => hBA q h9) (fun q _ h9 => hBA q h9) (fun E ce q9 u t H1 locs1 ht hvm _ hB hz hk hS1 hce hcv hcl => ?_) (fun r u t H1 locs1 ht hvm hp hB hz hk hS1 => ?_)
  · obtain ⟨⟨k0, mE, hSC⟩, hI1, hK1⟩ := hB
    rw [ht] at hI1
    have ho1 := ho.kept (hk qo ho.lt hno)
    have hI2 := Iv_back hI1 hin
    by_cases e0 : E = "java/lang/IndexOutOfBoundsException"
    · subst e0
      have k1 : k = 1 := by rw [← mE]; decide
      subst k1
      refine vx_catch hown [] ⟨0, 9, 12, 25⟩ [] hE (fun z hz => by cases hz) (by decide) (by decide) (name := "java/lang/IndexOutOfBoundsException") (hts (.classLink RL 25 "java/lang/IndexOutOfBoundsException") (by decide +kernel)) (va_Nw.use rfl (hX.2.2.2.2.2.1 "java/lang/IndexOutOfBoundsException" (by decide))) hce hcv hcl ?_
      refine lv_astore_n (lv' := [(3, .ref q9), (0, .ref (G.2.2.1 8 0)), (1, .int (iI a0)), (2, .ref qo)]) hx hb dL_writtenByte_12 rfl hl (by decide) rfl (fun ls hl => ?_)
      refine r_iconst (n := 1) hx hb dL_writtenByte_13 ?_
      refine W.widen (k := 1) (n := 6) (by decide) (by decide) ?_
      exact w_ret (k := 1) hx hb hr hlocks hK hI2 hS1 (by decide) hSC ⟨x0, ho1, fun z => absurd z (by decide)⟩ dL_writtenByte_14
    · exfalso
      unfold mO at mE
      rw [if_neg e0] at mE
      exact k0 mE.symm
  · obtain ⟨z, rfl, hk0, hP, hSC⟩ := hp
    subst hk0
    obtain ⟨hI1, hK1⟩ := hB
    rw [ht] at hI1
    have ho1 := ho.kept (hk qo ho.lt hno)
    refine lv_i2l (v := cvI z) hx hb dL_writtenByte_7 rfl ?_
    refine W.widen (k := 1) (n := 6) (by decide) (by decide) ?_
    exact w_ok (cv := cvI) (tgt := 15) hx hb hr hlocks hK hI1 hin hne hS1 hSC hP ho1 hqo dL_writtenByte_8 dL_writtenByte_9 (by decide) dL_writtenByte_15 dL_writtenByte_16
