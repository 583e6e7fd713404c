theorem hd9_readsStatement : yX9_readsStatement.cls = RX9 ∧ yX9_readsStatement.cls ≠ "java/lang/invoke/MethodHandle" ∧ yX9_readsStatement.cls ≠ "java/lang/invoke/VarHandle" ∧ (parseMethodDescriptor yX9_readsStatement.desc).map (fun d => d.parameters.length) = some 0 := by decide +kernel
set_option maxHeartbeats 4000000 in
set_option maxRecDepth 100000 in
theorem m9_readsStatement (l : Launch) (G : WG)   (hv_this : vM 9 0) (Q : Int → St → Prop) (st : St)  (h : f9_readsStatement Q st) : Met l yX9_readsStatement wsX9_readsStatement ({ frames := 6, cells := 0, slots := 0, locals := 139 }) (PcM vM G st [.ref (G.2.2.1 9 0)]) (QiM vM G Q) 0 0 G.2.2.2.1 := by
  refine Met.ofW (cc := cX9_readsStatement) (maxL := 1) (ret := (some .boolean)) (by decide) rfl ?_
  intro p e s m args below meth c s₁ B hml hvv
  obtain ⟨rfl, hA, hI, hK, hX⟩ := hvv
  have hx := B.exec
  have hb := B.bytes
  have hr := B.returns
  have hts := atoms_spec (ws := wsX9_readsStatement) B.pre
  have hown : s.vm.findClass RX9 = some m.cls := findClass_of_methodNamed B.named
  have hlocks := B.notSynchronized
  have hS : va_S G.2.2.2.1 s.heap s.heap [] := va_S.rf
  have in9 : ∀ w ∈ wsX90, w ∈ wsX9_readsStatement := by decide +kernel
  have lk_7 := hts (.fieldLink RX9 7 "BeamLinesModel" "a" "[I") (by decide +kernel)
  have lk_101 := hts (.fieldLink RX9 101 "BeamLinesModel" "wrong" "I") (by decide +kernel)
  have hl := lv_entry ([.ref (G.2.2.1 9 0)]) (n := 1) (Nat.le_of_ble_eq_true rfl)
  rw [lg_entry_eq]
  generalize (lg_sl ([.ref (G.2.2.1 9 0)]) ++ List.replicate (1 - (lg_sl ([.ref (G.2.2.1 9 0)])).length) Slot.unset).toArray = ls at hl ⊢
  have hl : lv_has ls 1 [(0, .ref (G.2.2.1 9 0))] := hl
  have J88 : ∀ (st : St) (H : Heap) (locs : List Loc) (ls : Array Slot), Iv vM G st H → va_S G.2.2.2.1 s.heap H locs → lv_has ls 1 [(0, .ref (G.2.2.1 9 0))] → f9_readsStatement_j88 Q st → W p l e (headSpec wsX9_readsStatement ({ frames := 6, cells := 0, slots := 0, locals := 139 })).room s m ([.ref (G.2.2.1 9 0)] : List Value).toArray below meth c H locs 0 0 (MQ below (QiM vM G Q) ([.ref (G.2.2.1 9 0)] : List Value).toArray s 0 0 G.2.2.2.1) (F0 m 88 ls []) := by
    intro st H locs ls hI hS hl h
    unfold f9_readsStatement_j88 at h
    refine lv_aload_n hx hb dX9_readsStatement_88 rfl (lv_at hl 0 rfl) ?_
    refine gg_9_13 hx hb hts in9 hown hK hI hv_this lk_101 dX9_readsStatement_89 ?_
    obtain ⟨g25, h⟩ := h
    refine r_if_ne (tgt := 99) hx hb dX9_readsStatement_92 (by decide) g25 (fun c26 => ?_) (fun c26 => ?_)
    · replace h := h.2 c26
      refine r_iconst (n := 0) hx hb dX9_readsStatement_99 ?_
      exact r_zret hx hb hr hlocks hK hI hS (Qp := Q) (by decide) h dX9_readsStatement_100
    · replace h := h.1 c26
      refine r_iconst (n := 1) hx hb dX9_readsStatement_95 ?_
      refine lv_goto (tgt := 100) hx hb dX9_readsStatement_96 (by decide) ?_
      exact r_zret hx hb hr hlocks hK hI hS (Qp := Q) (by decide) h dX9_readsStatement_100
  unfold f9_readsStatement at h
  refine lv_aload_n hx hb dX9_readsStatement_0 rfl (lv_at hl 0 rfl) ?_
  refine va_ldcS hx hb hown (hX.2.2.2.2.2.2.1 ("BeamLinesModel", 163, "support", 2) (by decide)) dX9_readsStatement_1 ?_
  refine r_calli (va_runV (As := [.ref (G.2.2.2.2.1 2)]) (rest := []) ⟨hx, hb, hml, hown, hts⟩ (m9_isWord l G 2 hv_this (by decide) _ st h) (cwV 1 hts gX9_readsStatement_X9_isWord rfl rfl rfl hd9_isWord ⟨Nat.le_of_ble_eq_true rfl, Nat.le_of_ble_eq_true rfl⟩) (pre_V hK hX hI hA hS hv_this rfl rfl [.ref (G.2.2.2.2.1 2)]) rfl rfl hl.1 rfl (lv_room (Nat.le_of_ble_eq_true rfl)) dX9_readsStatement_3 ⟨Nat.le_of_ble_eq_true rfl, Nat.le_of_ble_eq_true rfl⟩) hS (fun z1 st2 h H locs hI hS => ?_)
  obtain ⟨g3, h⟩ := h
  refine r_if_eq (tgt := 16) hx hb dX9_readsStatement_6 (by decide) g3 (fun c4 => ?_) (fun c4 => ?_)
  · replace h := h.1 c4
    refine lv_aload_n hx hb dX9_readsStatement_16 rfl (lv_at hl 0 rfl) ?_
    refine va_ldcS hx hb hown (hX.2.2.2.2.2.2.1 ("BeamLinesModel", 168, "hinge", 3) (by decide)) dX9_readsStatement_17 ?_
    refine r_calli (va_runV (As := [.ref (G.2.2.2.2.1 3)]) (rest := []) ⟨hx, hb, hml, hown, hts⟩ (m9_isWord l G 3 hv_this (by decide) _ st2 h) (cwV 1 hts gX9_readsStatement_X9_isWord rfl rfl rfl hd9_isWord ⟨Nat.le_of_ble_eq_true rfl, Nat.le_of_ble_eq_true rfl⟩) (pre_V hK hX hI hA hS hv_this rfl rfl [.ref (G.2.2.2.2.1 3)]) rfl rfl hl.1 rfl (lv_room (Nat.le_of_ble_eq_true rfl)) dX9_readsStatement_19 ⟨Nat.le_of_ble_eq_true rfl, Nat.le_of_ble_eq_true rfl⟩) hS (fun z5 st6 h H locs hI hS => ?_)
    obtain ⟨g7, h⟩ := h
    refine r_if_eq (tgt := 32) hx hb dX9_readsStatement_22 (by decide) g7 (fun c8 => ?_) (fun c8 => ?_)
    · replace h := h.1 c8
      refine lv_aload_n hx hb dX9_readsStatement_32 rfl (lv_at hl 0 rfl) ?_
      refine va_ldcS hx hb hown (hX.2.2.2.2.2.2.1 ("BeamLinesModel", 173, "load", 4) (by decide)) dX9_readsStatement_33 ?_
      refine r_calli (va_runV (As := [.ref (G.2.2.2.2.1 4)]) (rest := []) ⟨hx, hb, hml, hown, hts⟩ (m9_isWord l G 4 hv_this (by decide) _ st6 h) (cwV 1 hts gX9_readsStatement_X9_isWord rfl rfl rfl hd9_isWord ⟨Nat.le_of_ble_eq_true rfl, Nat.le_of_ble_eq_true rfl⟩) (pre_V hK hX hI hA hS hv_this rfl rfl [.ref (G.2.2.2.2.1 4)]) rfl rfl hl.1 rfl (lv_room (Nat.le_of_ble_eq_true rfl)) dX9_readsStatement_35 ⟨Nat.le_of_ble_eq_true rfl, Nat.le_of_ble_eq_true rfl⟩) hS (fun z9 st10 h H locs hI hS => ?_)
      obtain ⟨g11, h⟩ := h
      refine r_if_eq (tgt := 61) hx hb dX9_readsStatement_38 (by decide) g11 (fun c12 => ?_) (fun c12 => ?_)
      · replace h := h.1 c12
        refine lv_aload_n hx hb dX9_readsStatement_61 rfl (lv_at hl 0 rfl) ?_
        refine va_ldcS hx hb hown (hX.2.2.2.2.2.2.1 ("BeamLinesModel", 180, "axle", 5) (by decide)) dX9_readsStatement_62 ?_
        refine r_calli (va_runV (As := [.ref (G.2.2.2.2.1 5)]) (rest := []) ⟨hx, hb, hml, hown, hts⟩ (m9_isWord l G 5 hv_this (by decide) _ st10 h) (cwV 1 hts gX9_readsStatement_X9_isWord rfl rfl rfl hd9_isWord ⟨Nat.le_of_ble_eq_true rfl, Nat.le_of_ble_eq_true rfl⟩) (pre_V hK hX hI hA hS hv_this rfl rfl [.ref (G.2.2.2.2.1 5)]) rfl rfl hl.1 rfl (lv_room (Nat.le_of_ble_eq_true rfl)) dX9_readsStatement_64 ⟨Nat.le_of_ble_eq_true rfl, Nat.le_of_ble_eq_true rfl⟩) hS (fun z13 st14 h H locs hI hS => ?_)
        obtain ⟨g15, h⟩ := h
        refine r_if_eq (tgt := 86) hx hb dX9_readsStatement_67 (by decide) g15 (fun c16 => ?_) (fun c16 => ?_)
        · replace h := h.1 c16
          refine r_iconst (n := 0) hx hb dX9_readsStatement_86 ?_
          exact r_zret hx hb hr hlocks hK hI hS (Qp := Q) (by decide) h dX9_readsStatement_87
        · replace h := h.2 c16
          refine lv_aload_n hx hb dX9_readsStatement_70 rfl (lv_at hl 0 rfl) ?_
          refine r_iconst (n := 5) hx hb dX9_readsStatement_71 ?_
          refine r_bipush (n := 6) hx hb dX9_readsStatement_72 rfl ?_
          refine r_bipush (n := 35) hx hb dX9_readsStatement_74 rfl ?_
          refine va_ldcS hx hb hown (hX.2.2.2.2.2.2.1 ("BeamLinesModel", 182, "behind", 7) (by decide)) dX9_readsStatement_76 ?_
          refine r_bipush (n := 30) hx hb dX9_readsStatement_78 rfl ?_
          refine r_callv (va_runV (As := [.int (iI 5), .int (iI 6), .int (iI 35), .ref (G.2.2.2.2.1 7), .int (iI 30)]) (rest := []) ⟨hx, hb, hml, hown, hts⟩ (m9_readsPair l G 7 hv_this (by decide) _ st14 5 6 35 30 h) (cwV 5 hts gX9_readsStatement_X9_readsPair rfl rfl rfl hd9_readsPair ⟨Nat.le_of_ble_eq_true rfl, Nat.le_of_ble_eq_true rfl⟩) (pre_V hK hX hI hA hS hv_this rfl rfl [.int (iI 5), .int (iI 6), .int (iI 35), .ref (G.2.2.2.2.1 7), .int (iI 30)]) rfl rfl hl.1 rfl (lv_room (Nat.le_of_ble_eq_true rfl)) dX9_readsStatement_80 ⟨Nat.le_of_ble_eq_true rfl, Nat.le_of_ble_eq_true rfl⟩) hS (fun st18 h H locs hI hS => ?_)
          refine lv_goto (tgt := 88) hx hb dX9_readsStatement_83 (by decide) ?_
          exact J88 st18  _ _ ls hI hS (lv_sub hl [0] rfl) h
      · replace h := h.2 c12
        refine lv_aload_n hx hb dX9_readsStatement_41 rfl (lv_at hl 0 rfl) ?_
        refine r_iconst (n := 4) hx hb dX9_readsStatement_42 ?_
        refine r_bipush (n := 8) hx hb dX9_readsStatement_43 rfl ?_
        refine r_bipush (n := 19) hx hb dX9_readsStatement_45 rfl ?_
        refine va_ldcS hx hb hown (hX.2.2.2.2.2.2.1 ("BeamLinesModel", 175, "at", 6) (by decide)) dX9_readsStatement_47 ?_
        refine lv_aload_n hx hb dX9_readsStatement_49 rfl (lv_at hl 0 rfl) ?_
        refine gg_9_0 hx hb hts in9 hown hK hI hv_this lk_7 dX9_readsStatement_50 ?_
        refine r_iconst (n := 0) hx hb dX9_readsStatement_53 ?_
        refine r_iald hx hb hK hI (K := 30) (vrM_9_0 hv_this) rfl (mlen_le _) dX9_readsStatement_54 (by decide) (by decide) ?_
        refine r_callv (va_runV (As := [.int (iI 4), .int (iI 8), .int (iI 19), .ref (G.2.2.2.2.1 6), .int (iI (st10 30 0 0 0))]) (rest := []) ⟨hx, hb, hml, hown, hts⟩ (m9_readsPair l G 6 hv_this (by decide) _ st10 4 8 19 (st10 30 0 0 0) h) (cwV 5 hts gX9_readsStatement_X9_readsPair rfl rfl rfl hd9_readsPair ⟨Nat.le_of_ble_eq_true rfl, Nat.le_of_ble_eq_true rfl⟩) (pre_V hK hX hI hA hS hv_this rfl rfl [.int (iI 4), .int (iI 8), .int (iI 19), .ref (G.2.2.2.2.1 6), .int (iI (st10 30 0 0 0))]) rfl rfl hl.1 rfl (lv_room (Nat.le_of_ble_eq_true rfl)) dX9_readsStatement_55 ⟨Nat.le_of_ble_eq_true rfl, Nat.le_of_ble_eq_true rfl⟩) hS (fun st20 h H locs hI hS => ?_)
        refine lv_goto (tgt := 88) hx hb dX9_readsStatement_58 (by decide) ?_
        exact J88 st20  _ _ ls hI hS (lv_sub hl [0] rfl) h
    · replace h := h.2 c8
      refine lv_aload_n hx hb dX9_readsStatement_25 rfl (lv_at hl 0 rfl) ?_
      refine r_callv (va_runV (As := []) (rest := []) ⟨hx, hb, hml, hown, hts⟩ (m9_readsHinge l G hv_this _ st6 h) (cwV 0 hts gX9_readsStatement_X9_readsHinge rfl rfl rfl hd9_readsHinge ⟨Nat.le_of_ble_eq_true rfl, Nat.le_of_ble_eq_true rfl⟩) (pre_V hK hX hI hA hS hv_this rfl rfl []) rfl rfl hl.1 rfl (lv_room (Nat.le_of_ble_eq_true rfl)) dX9_readsStatement_26 ⟨Nat.le_of_ble_eq_true rfl, Nat.le_of_ble_eq_true rfl⟩) hS (fun st22 h H locs hI hS => ?_)
      refine lv_goto (tgt := 88) hx hb dX9_readsStatement_29 (by decide) ?_
      exact J88 st22  _ _ ls hI hS (lv_sub hl [0] rfl) h
  · replace h := h.2 c4
    refine lv_aload_n hx hb dX9_readsStatement_9 rfl (lv_at hl 0 rfl) ?_
    refine r_callv (va_runV (As := []) (rest := []) ⟨hx, hb, hml, hown, hts⟩ (m9_readsSupport l G hv_this _ st2 h) (cwV 0 hts gX9_readsStatement_X9_readsSupport rfl rfl rfl hd9_readsSupport ⟨Nat.le_of_ble_eq_true rfl, Nat.le_of_ble_eq_true rfl⟩) (pre_V hK hX hI hA hS hv_this rfl rfl []) rfl rfl hl.1 rfl (lv_room (Nat.le_of_ble_eq_true rfl)) dX9_readsStatement_10 ⟨Nat.le_of_ble_eq_true rfl, Nat.le_of_ble_eq_true rfl⟩) hS (fun st24 h H locs hI hS => ?_)
    refine lv_goto (tgt := 88) hx hb dX9_readsStatement_13 (by decide) ?_
    exact J88 st24  _ _ ls hI hS (lv_sub hl [0] rfl) h
theorem hd9_lever : yX9_lever.cls = RX9 ∧ yX9_lever.cls ≠ "java/lang/invoke/MethodHandle" ∧ yX9_lever.cls ≠ "java/lang/invoke/VarHandle" ∧ (parseMethodDescriptor yX9_lever.desc).map (fun d => d.parameters.length) = some 2 := by decide +kernel
set_option maxHeartbeats 4000000 in
set_option maxRecDepth 100000 in
theorem m9_lever (l : Launch) (G : WG)   (hv_this : vM 9 0) (Q : Int → St → Prop) (st : St) (a0 : Int) (a1 : Int) (h : f9_lever Q st a0 a1) : Met l yX9_lever wsX9_lever ({ frames := 1, cells := 0, slots := 0, locals := 23 }) (PcM vM G st [.ref (G.2.2.1 9 0), .int (iI a0), .int (iI a1)]) (QlM vM G Q) 0 0 G.2.2.2.1 := by
  refine Met.ofW (cc := cX9_lever) (maxL := 3) (ret := (some .long)) (by decide) rfl ?_
  intro p e s m args below meth c s₁ B hml hvv
  obtain ⟨rfl, hA, hI, hK, hX⟩ := hvv
  have hx := B.exec
  have hb := B.bytes
  have hr := B.returns
  have hts := atoms_spec (ws := wsX9_lever) B.pre
  have hown : s.vm.findClass RX9 = some m.cls := findClass_of_methodNamed B.named
  have hlocks := B.notSynchronized
  have hS : va_S G.2.2.2.1 s.heap s.heap [] := va_S.rf
  have in9 : ∀ w ∈ wsX90, w ∈ wsX9_lever := by decide +kernel
  have lk_7 := hts (.fieldLink RX9 7 "BeamLinesModel" "a" "[I") (by decide +kernel)
  have ml_206 : (Cond.methodLink RX9 206 Lib.Math.max.name).before _ s = true ∧ (Cond.static Lib.Math.max.name).before _ s = true ∧ (Cond.initialized "java/lang/Math").before _ s = true ∧ (Cond.code Lib.Math.max.name Lib.Math.max.code 2 (some .int)).before _ s = true := ⟨hts _ (by decide +kernel), hts _ (by decide +kernel), hts _ (by decide +kernel), hts _ (by decide +kernel)⟩
  have hl := lv_entry ([.ref (G.2.2.1 9 0), .int (iI a0), .int (iI a1)]) (n := 3) (Nat.le_of_ble_eq_true rfl)
  rw [lg_entry_eq]
  generalize (lg_sl ([.ref (G.2.2.1 9 0), .int (iI a0), .int (iI a1)]) ++ List.replicate (3 - (lg_sl ([.ref (G.2.2.1 9 0), .int (iI a0), .int (iI a1)])).length) Slot.unset).toArray = ls at hl ⊢
  have hl : lv_has ls 3 [(0, .ref (G.2.2.1 9 0)), (1, .int (iI a0)), (2, .int (iI a1))] := hl
  unfold f9_lever at h
  refine lv_iload_n hx hb dX9_lever_0 rfl (lv_at hl 1 rfl) ?_
  obtain ⟨g1, h⟩ := h
  refine r_if_ne (tgt := 8) hx hb dX9_lever_1 (by decide) g1 (fun c2 => ?_) (fun c2 => ?_)
  · replace h := h.2 c2
    refine lv_iload_n hx hb dX9_lever_8 rfl (lv_at hl 1 rfl) ?_
    refine r_iconst (n := 1) hx hb dX9_lever_9 ?_
    obtain ⟨g3, h⟩ := h
    refine r_icmp_ne (tgt := 18) hx hb dX9_lever_10 (by decide) g3 (inI_mk rfl) (fun c4 => ?_) (fun c4 => ?_)
    · replace h := h.2 c4
      refine r_iconst (n := 0) hx hb dX9_lever_18 ?_
      refine lv_aload_n hx hb dX9_lever_19 rfl (lv_at hl 0 rfl) ?_
      refine gg_9_0 hx hb hts in9 hown hK hI hv_this lk_7 dX9_lever_20 ?_
      refine r_bipush (n := 16) hx hb dX9_lever_23 rfl ?_
      refine lv_iload_n hx hb dX9_lever_25 rfl (lv_at hl 1 rfl) ?_
      refine r_iadd hx hb dX9_lever_26 ?_
      refine r_iconst (n := 2) hx hb dX9_lever_27 ?_
      refine r_isub hx hb dX9_lever_28 ?_
      obtain ⟨g5, g6, h⟩ := h
      refine r_iald hx hb hK hI (K := 30) (vrM_9_0 hv_this) rfl (mlen_le _) dX9_lever_29 g5 g6 ?_
      refine lv_iload_n hx hb dX9_lever_30 rfl (lv_at hl 2 rfl) ?_
      refine r_isub hx hb dX9_lever_31 ?_
      obtain ⟨g7, h⟩ := h
      refine r_mmax hx hb (hml.trans hl.1.symm) hown ml_206 dX9_lever_32 (inI_mk rfl) g7 ⟨Nat.le_of_ble_eq_true rfl, Nat.le_of_ble_eq_true rfl, Nat.zero_le _, Nat.zero_le _⟩ (Nat.le_of_ble_eq_true rfl) ?_
      obtain ⟨g8, h⟩ := h
      refine r_i2l hx hb dX9_lever_35 g8 ?_
      exact r_lret hx hb hr hlocks hK hI hS (Qp := Q) h dX9_lever_36
    · replace h := h.1 c4
      refine lv_iload_n hx hb dX9_lever_13 rfl (lv_at hl 2 rfl) ?_
      obtain ⟨g9, h⟩ := h
      refine r_i2l hx hb dX9_lever_14 g9 ?_
      refine lv_goto (tgt := 36) hx hb dX9_lever_15 (by decide) ?_
      exact r_lret hx hb hr hlocks hK hI hS (Qp := Q) h dX9_lever_36
  · replace h := h.1 c2
    refine r_lconst (z := 1) hx hb dX9_lever_4 rfl ?_
    refine lv_goto (tgt := 36) hx hb dX9_lever_5 (by decide) ?_
    exact r_lret hx hb hr hlocks hK hI hS (Qp := Q) h dX9_lever_36
theorem hd9_pivotOf : yX9_pivotOf.cls ≠ "java/lang/invoke/MethodHandle" ∧ yX9_pivotOf.cls ≠ "java/lang/invoke/VarHandle" ∧ (parseMethodDescriptor yX9_pivotOf.desc).map (fun d => d.parameters.length) = some 3 := by decide +kernel
set_option maxHeartbeats 4000000 in
set_option maxRecDepth 100000 in
theorem m9_pivotOf (l : Launch) (G : WG)   (hv_a0 : vM 36 0) (Q : Int → St → Prop) (st : St) (a1 : Int) (a2 : Int) (h : f9_pivotOf Q st a1 a2) : Met l yX9_pivotOf wsX9_pivotOf ({ frames := 0, cells := 0, slots := 0, locals := 0 }) (PcM vM G st [.ref (G.2.2.1 36 0), .int (iI a1), .int (iI a2)]) (QiM vM G Q) 0 0 G.2.2.2.1 := by
  refine Met.ofW (cc := cX9_pivotOf) (maxL := 4) (ret := (some .int)) (by decide) rfl ?_
  intro p e s m args below meth c s₁ B hml hvv
  obtain ⟨rfl, hA, hI, hK, hX⟩ := hvv
  have hx := B.exec
  have hb := B.bytes
  have hr := B.returns
  have hts := atoms_spec (ws := wsX9_pivotOf) B.pre
  have hown : s.vm.findClass RX9 = some m.cls := findClass_of_methodNamed B.named
  have hlocks := B.notSynchronized
  have hS : va_S G.2.2.2.1 s.heap s.heap [] := va_S.rf
  have hl := lv_entry ([.ref (G.2.2.1 36 0), .int (iI a1), .int (iI a2)]) (n := 4) (Nat.le_of_ble_eq_true rfl)
  rw [lg_entry_eq]
  generalize (lg_sl ([.ref (G.2.2.1 36 0), .int (iI a1), .int (iI a2)]) ++ List.replicate (4 - (lg_sl ([.ref (G.2.2.1 36 0), .int (iI a1), .int (iI a2)])).length) Slot.unset).toArray = ls at hl ⊢
  have hl : lv_has ls 4 [(0, .ref (G.2.2.1 36 0)), (1, .int (iI a1)), (2, .int (iI a2))] := hl
  have L2 : ∀ (n2 : Nat), ∀ (st : St) (v3x2 : Int) (H : Heap) (locs : List Loc) (ls : Array Slot), Iv vM G st H → va_S G.2.2.2.1 s.heap H locs → lv_has ls 4 [(0, .ref (G.2.2.1 36 0)), (1, .int (iI a1)), (2, .int (iI a2)), (3, .int (iI v3x2))] → f9_pivotOf_l2 Q a1 a2 n2 st v3x2 → W p l e (headSpec wsX9_pivotOf ({ frames := 0, cells := 0, slots := 0, locals := 0 })).room s m ([.ref (G.2.2.1 36 0), .int (iI a1), .int (iI a2)] : List Value).toArray below meth c H locs 0 0 (MQ below (QiM vM G Q) ([.ref (G.2.2.1 36 0), .int (iI a1), .int (iI a2)] : List Value).toArray s 0 0 G.2.2.2.1) (F0 m 2 ls []) := by
    intro n2
    induction n2 with
    | zero =>
      intro st v3x2 H locs ls hI hS hl h
      exact h.elim
    | succ n2 ih2 =>
      intro st v3x2 H locs ls hI hS hl h
      unfold f9_pivotOf_l2 at h
      refine lv_iload_n hx hb dX9_pivotOf_2 rfl (lv_at hl 3 rfl) ?_
      refine lv_iload_n hx hb dX9_pivotOf_3 rfl (lv_at hl 2 rfl) ?_
      obtain ⟨g1, h⟩ := h
      obtain ⟨g2, h⟩ := h
      refine r_icmp_ge (tgt := 25) hx hb dX9_pivotOf_4 (by decide) g1 g2 (fun c3 => ?_) (fun c3 => ?_)
      · replace h := h.1 c3
        refine lv_iload_n hx hb dX9_pivotOf_25 rfl (lv_at hl 3 rfl) ?_
        exact r_iret hx hb hr hlocks hK hI hS (Qp := Q) h dX9_pivotOf_26
      · replace h := h.2 c3
        refine lv_aload_n hx hb dX9_pivotOf_7 rfl (lv_at hl 0 rfl) ?_
        refine lv_iload_n hx hb dX9_pivotOf_8 rfl (lv_at hl 2 rfl) ?_
        refine lv_iload_n hx hb dX9_pivotOf_9 rfl (lv_at hl 3 rfl) ?_
        refine r_imul hx hb dX9_pivotOf_10 ?_
        refine lv_iload_n hx hb dX9_pivotOf_11 rfl (lv_at hl 1 rfl) ?_
        refine r_iadd hx hb dX9_pivotOf_12 ?_
        obtain ⟨g4, g5, h⟩ := h
        refine r_lald hx hb hK hI (K := 36) hv_a0 rfl (lts_mk rfl) dX9_pivotOf_13 g4 g5 ?_
        refine r_lconst (z := 0) hx hb dX9_pivotOf_14 rfl ?_
        obtain ⟨g6, h⟩ := h
        refine r_lcmp_ne (tgt := 25) hx hb dX9_pivotOf_15 dX9_pivotOf_16 (by decide) g6 (inL_mk rfl) (fun c7 => ?_) (fun c7 => ?_)
        · replace h := h.2 c7
          refine lv_iload_n hx hb dX9_pivotOf_25 rfl (lv_at hl 3 rfl) ?_
          exact r_iret hx hb hr hlocks hK hI hS (Qp := Q) h dX9_pivotOf_26
        · replace h := h.1 c7
          obtain ⟨x8, hx8⟩ : ∃ z : Int, z = v3x2 + 1 := ⟨_, rfl⟩
          replace h := h x8 hx8
          refine lv_iinc (v := iI x8) (lv' := [(3, .int (iI x8)), (0, .ref (G.2.2.1 36 0)), (1, .int (iI a1)), (2, .int (iI a2))]) hx hb dX9_pivotOf_19 hl (k := 3) rfl (by rw [hx8]; exact iI_add _ _) (by decide) rfl (fun ls hl => ?_)
          refine lv_goto (tgt := 2) hx hb dX9_pivotOf_22 (by decide) ?_
          exact ih2 st x8 _ _ ls hI hS (lv_sub hl [1, 2, 3, 0] rfl) h
  unfold f9_pivotOf at h
  refine lv_iload_n hx hb dX9_pivotOf_0 rfl (lv_at hl 1 rfl) ?_
  refine lv_istore_n (lv' := [(3, .int (iI a1)), (0, .ref (G.2.2.1 36 0)), (1, .int (iI a1)), (2, .int (iI a2))]) hx hb dX9_pivotOf_1 rfl hl (by decide) rfl (fun ls hl => ?_)
  obtain ⟨kk, h⟩ := h
  exact L2 kk st a1 _ _ ls hI hS (lv_sub hl [1, 2, 3, 0] rfl) h
theorem hd9_changes : yX9_changes.cls = RX9 ∧ yX9_changes.cls ≠ "java/lang/invoke/MethodHandle" ∧ yX9_changes.cls ≠ "java/lang/invoke/VarHandle" ∧ (parseMethodDescriptor yX9_changes.desc).map (fun d => d.parameters.length) = some 3 := by decide +kernel
set_option maxHeartbeats 4000000 in
set_option maxRecDepth 100000 in
theorem m9_changes (l : Launch) (G : WG)   (hv_this : vM 9 0) (Q : St → Prop) (st : St) (a0 : Int) (a1 : Int) (a2 : Int) (h : f9_changes Q st a0 a1 a2) : Met l yX9_changes wsX9_changes ({ frames := 0, cells := 0, slots := 0, locals := 0 }) (PcM vM G st [.ref (G.2.2.1 9 0), .int (iI a0), .int (iI a1), .int (iI a2)]) (QvM vM G Q) 0 0 G.2.2.2.1 := by
  refine Met.ofW (cc := cX9_changes) (maxL := 7) (ret := none) (by decide) rfl ?_
  intro p e s m args below meth c s₁ B hml hvv
  obtain ⟨rfl, hA, hI, hK, hX⟩ := hvv
  have hx := B.exec
  have hb := B.bytes
  have hr := B.returns
  have hts := atoms_spec (ws := wsX9_changes) B.pre
  have hown : s.vm.findClass RX9 = some m.cls := findClass_of_methodNamed B.named
  have hlocks := B.notSynchronized
  have hS : va_S G.2.2.2.1 s.heap s.heap [] := va_S.rf
  have in9 : ∀ w ∈ wsX90, w ∈ wsX9_changes := by decide +kernel
  have lk_33 := hts (.fieldLink RX9 33 "BeamLinesModel" "square" "[J") (by decide +kernel)
  have hl := lv_entry ([.ref (G.2.2.1 9 0), .int (iI a0), .int (iI a1), .int (iI a2)]) (n := 7) (Nat.le_of_ble_eq_true rfl)
  rw [lg_entry_eq]
  generalize (lg_sl ([.ref (G.2.2.1 9 0), .int (iI a0), .int (iI a1), .int (iI a2)]) ++ List.replicate (7 - (lg_sl ([.ref (G.2.2.1 9 0), .int (iI a0), .int (iI a1), .int (iI a2)])).length) Slot.unset).toArray = ls at hl ⊢
  have hl : lv_has ls 7 [(0, .ref (G.2.2.1 9 0)), (1, .int (iI a0)), (2, .int (iI a1)), (3, .int (iI a2))] := hl
  have L3 : ∀ (n3 : Nat), ∀ (st : St) (v4x3 : Int) (H : Heap) (locs : List Loc) (ls : Array Slot), Iv vM G st H → va_S G.2.2.2.1 s.heap H locs → lv_has ls 7 [(0, .ref (G.2.2.1 9 0)), (1, .int (iI a0)), (2, .int (iI a1)), (3, .int (iI a2)), (4, .int (iI v4x3))] → f9_changes_l3 Q a0 a1 a2 n3 st v4x3 → W p l e (headSpec wsX9_changes ({ frames := 0, cells := 0, slots := 0, locals := 0 })).room s m ([.ref (G.2.2.1 9 0), .int (iI a0), .int (iI a1), .int (iI a2)] : List Value).toArray below meth c H locs 0 0 (MQ below (QvM vM G Q) ([.ref (G.2.2.1 9 0), .int (iI a0), .int (iI a1), .int (iI a2)] : List Value).toArray s 0 0 G.2.2.2.1) (F0 m 3 ls []) := by
    intro n3
    induction n3 with
    | zero =>
      intro st v4x3 H locs ls hI hS hl h
      exact h.elim
    | succ n3 ih3 =>
      intro st v4x3 H locs ls hI hS hl h
      unfold f9_changes_l3 at h
      refine lv_iload hx hb dX9_changes_3 (lv_at hl 4 rfl) ?_
      refine lv_iload_n hx hb dX9_changes_5 rfl (lv_at hl 3 rfl) ?_
      obtain ⟨g1, h⟩ := h
      obtain ⟨g2, h⟩ := h
      refine r_icmp_ge (tgt := 63) hx hb dX9_changes_6 (by decide) g1 g2 (fun c3 => ?_) (fun c3 => ?_)
      · replace h := h.1 c3
        exact r_vret hx hb hr hlocks hK hI hS (Qp := Q) h dX9_changes_63
      · replace h := h.2 c3
        refine lv_aload_n hx hb dX9_changes_9 rfl (lv_at hl 0 rfl) ?_
        refine gg_9_16 hx hb hts in9 hown hK hI hv_this lk_33 dX9_changes_10 ?_
        refine lv_iload_n hx hb dX9_changes_13 rfl (lv_at hl 3 rfl) ?_
        refine lv_iload_n hx hb dX9_changes_14 rfl (lv_at hl 1 rfl) ?_
        refine r_imul hx hb dX9_changes_15 ?_
        refine lv_iload hx hb dX9_changes_16 (lv_at hl 4 rfl) ?_
        refine r_iadd hx hb dX9_changes_18 ?_
        obtain ⟨g4, g5, h⟩ := h
        refine r_lald hx hb hK hI (K := 36) (vrM_9_16 hv_this) rfl (lts_mk rfl) dX9_changes_19 g4 g5 ?_
        refine r_topl (fun x6 hx6 => ?_)
        replace h := h x6 hx6
        refine lv_lstore (lv' := [(5, .long (lI x6)), (0, .ref (G.2.2.1 9 0)), (1, .int (iI a0)), (2, .int (iI a1)), (3, .int (iI a2)), (4, .int (iI v4x3))]) hx hb dX9_changes_20 hl (by decide) rfl (fun ls hl => ?_)
        refine lv_aload_n hx hb dX9_changes_22 rfl (lv_at hl 1 rfl) ?_
        refine gg_9_16 hx hb hts in9 hown hK hI hv_this lk_33 dX9_changes_23 ?_
        refine lv_iload_n hx hb dX9_changes_26 rfl (lv_at hl 4 rfl) ?_
        refine lv_iload_n hx hb dX9_changes_27 rfl (lv_at hl 2 rfl) ?_
        refine r_imul hx hb dX9_changes_28 ?_
        refine lv_iload hx hb dX9_changes_29 (lv_at hl 5 rfl) ?_
        refine r_iadd hx hb dX9_changes_31 ?_
        refine lv_aload_n hx hb dX9_changes_32 rfl (lv_at hl 1 rfl) ?_
        refine gg_9_16 hx hb hts in9 hown hK hI hv_this lk_33 dX9_changes_33 ?_
        refine lv_iload_n hx hb dX9_changes_36 rfl (lv_at hl 4 rfl) ?_
        refine lv_iload_n hx hb dX9_changes_37 rfl (lv_at hl 3 rfl) ?_
        refine r_imul hx hb dX9_changes_38 ?_
        refine lv_iload hx hb dX9_changes_39 (lv_at hl 5 rfl) ?_
        refine r_iadd hx hb dX9_changes_41 ?_
        obtain ⟨g7, g8, h⟩ := h
        refine r_lald hx hb hK hI (K := 36) (vrM_9_16 hv_this) rfl (lts_mk rfl) dX9_changes_42 g7 g8 ?_
        obtain ⟨g9, g10, h⟩ := h
        refine r_last hx hb hK hI hS (K := 36) (vrM_9_16 hv_this) (fun _ => rfl) (lts_mk rfl) dX9_changes_43 g9 g10 (fun st11 hst11 H locs hI hS => ?_)
        replace h := h st11 hst11
        refine lv_aload_n hx hb dX9_changes_44 rfl (lv_at hl 1 rfl) ?_
        refine gg_9_16 hx hb hts in9 hown hK hI hv_this lk_33 dX9_changes_45 ?_
        refine lv_iload_n hx hb dX9_changes_48 rfl (lv_at hl 4 rfl) ?_
        refine lv_iload_n hx hb dX9_changes_49 rfl (lv_at hl 3 rfl) ?_
        refine r_imul hx hb dX9_changes_50 ?_
        refine lv_iload hx hb dX9_changes_51 (lv_at hl 5 rfl) ?_
        refine r_iadd hx hb dX9_changes_53 ?_
        refine lv_lload hx hb dX9_changes_54 (lv_at hl 0 rfl) ?_
        obtain ⟨g12, g13, h⟩ := h
        refine r_last hx hb hK hI hS (K := 36) (vrM_9_16 hv_this) (fun _ => rfl) (lts_mk rfl) dX9_changes_56 g12 g13 (fun st14 hst14 H locs hI hS => ?_)
        replace h := h st14 hst14
        obtain ⟨x15, hx15⟩ : ∃ z : Int, z = v4x3 + 1 := ⟨_, rfl⟩
        replace h := h x15 hx15
        refine lv_iinc (v := iI x15) (lv' := [(4, .int (iI x15)), (5, .long (lI x6)), (0, .ref (G.2.2.1 9 0)), (1, .int (iI a0)), (2, .int (iI a1)), (3, .int (iI a2))]) hx hb dX9_changes_57 hl (k := 5) rfl (by rw [hx15]; exact iI_add _ _) (by decide) rfl (fun ls hl => ?_)
        refine lv_goto (tgt := 3) hx hb dX9_changes_60 (by decide) ?_
        exact ih3 st14 x15 _ _ ls hI hS (lv_sub hl [2, 3, 4, 5, 0] rfl) h
  unfold f9_changes at h
  refine r_iconst (n := 0) hx hb dX9_changes_0 ?_
  refine lv_istore (lv' := [(4, .int (iI 0)), (0, .ref (G.2.2.1 9 0)), (1, .int (iI a0)), (2, .int (iI a1)), (3, .int (iI a2))]) hx hb dX9_changes_1 hl (by decide) rfl (fun ls hl => ?_)
  obtain ⟨kk, h⟩ := h
  exact L3 kk st 0 _ _ ls hI hS (lv_sub hl [1, 2, 3, 4, 0] rfl) h
theorem hd9_determinant : yX9_determinant.cls = RX9 ∧ yX9_determinant.cls ≠ "java/lang/invoke/MethodHandle" ∧ yX9_determinant.cls ≠ "java/lang/invoke/VarHandle" ∧ (parseMethodDescriptor yX9_determinant.desc).map (fun d => d.parameters.length) = some 1 := by decide +kernel
set_option maxHeartbeats 4000000 in
set_option maxRecDepth 100000 in
theorem m9_determinant (l : Launch) (G : WG)   (hv_this : vM 9 0) (Q : Int → St → Prop) (st : St) (a0 : Int) (h : f9_determinant Q st a0) : Met l yX9_determinant wsX9_determinant ({ frames := 1, cells := 0, slots := 0, locals := 26 }) (PcM vM G st [.ref (G.2.2.1 9 0), .int (iI a0)]) (QlM vM G Q) 0 0 G.2.2.2.1 := by
  refine Met.ofW (cc := cX9_determinant) (maxL := 10) (ret := (some .long)) (by decide) rfl ?_
  intro p e s m args below meth c s₁ B hml hvv
  obtain ⟨rfl, hA, hI, hK, hX⟩ := hvv
  have hx := B.exec
  have hb := B.bytes
  have hr := B.returns
  have hts := atoms_spec (ws := wsX9_determinant) B.pre
  have hown : s.vm.findClass RX9 = some m.cls := findClass_of_methodNamed B.named
  have hlocks := B.notSynchronized
  have hS : va_S G.2.2.2.1 s.heap s.heap [] := va_S.rf
  have in9 : ∀ w ∈ wsX90, w ∈ wsX9_determinant := by decide +kernel
  have lk_33 := hts (.fieldLink RX9 33 "BeamLinesModel" "square" "[J") (by decide +kernel)
  have hl := lv_entry ([.ref (G.2.2.1 9 0), .int (iI a0)]) (n := 10) (Nat.le_of_ble_eq_true rfl)
  rw [lg_entry_eq]
  generalize (lg_sl ([.ref (G.2.2.1 9 0), .int (iI a0)]) ++ List.replicate (10 - (lg_sl ([.ref (G.2.2.1 9 0), .int (iI a0)])).length) Slot.unset).toArray = ls at hl ⊢
  have hl : lv_has ls 10 [(0, .ref (G.2.2.1 9 0)), (1, .int (iI a0))] := hl
  have L8 : ∀ (n8 : Nat), ∀ (st : St) (v2x8 : Int) (v4x8 : Int) (v6x8 : Int) (H : Heap) (locs : List Loc) (ls : Array Slot), Iv vM G st H → va_S G.2.2.2.1 s.heap H locs → lv_has ls 10 [(0, .ref (G.2.2.1 9 0)), (1, .int (iI a0)), (2, .long (lI v2x8)), (4, .long (lI v4x8)), (6, .int (iI v6x8))] → f9_determinant_l8 Q a0 n8 st v2x8 v4x8 v6x8 → W p l e (headSpec wsX9_determinant ({ frames := 1, cells := 0, slots := 0, locals := 26 })).room s m ([.ref (G.2.2.1 9 0), .int (iI a0)] : List Value).toArray below meth c H locs 0 0 (MQ below (QlM vM G Q) ([.ref (G.2.2.1 9 0), .int (iI a0)] : List Value).toArray s 0 0 G.2.2.2.1) (F0 m 8 ls []) := by
    intro n8
    induction n8 with
    | zero =>
      intro st v2x8 v4x8 v6x8 H locs ls hI hS hl h
      exact h.elim
    | succ n8 ih8 =>
      have L61 : ∀ (v2x61 : Int) (v4x61 : Int) (v6x61 : Int) (n61 : Nat), ∀ (st : St) (v8x61 : Int) (H : Heap) (locs : List Loc) (ls : Array Slot), Iv vM G st H → va_S G.2.2.2.1 s.heap H locs → lv_has ls 10 [(0, .ref (G.2.2.1 9 0)), (1, .int (iI a0)), (2, .long (lI v2x61)), (4, .long (lI v4x61)), (6, .int (iI v6x61)), (8, .int (iI v8x61))] → f9_determinant_l61 (fun st v2x8 v4x8 v6x8 => f9_determinant_l8 Q a0 n8 st v2x8 v4x8 v6x8) Q a0 v2x61 v4x61 v6x61 n61 st v8x61 → W p l e (headSpec wsX9_determinant ({ frames := 1, cells := 0, slots := 0, locals := 26 })).room s m ([.ref (G.2.2.1 9 0), .int (iI a0)] : List Value).toArray below meth c H locs 0 0 (MQ below (QlM vM G Q) ([.ref (G.2.2.1 9 0), .int (iI a0)] : List Value).toArray s 0 0 G.2.2.2.1) (F0 m 61 ls []) := by
        intro v2x61 v4x61 v6x61 n61
        induction n61 with
        | zero =>
          intro st v8x61 H locs ls hI hS hl h
          exact h.elim
        | succ n61 ih61 =>
          have L73 : ∀ (v8x73 : Int) (n73 : Nat), ∀ (st : St) (v9x73 : Int) (H : Heap) (locs : List Loc) (ls : Array Slot), Iv vM G st H → va_S G.2.2.2.1 s.heap H locs → lv_has ls 10 [(0, .ref (G.2.2.1 9 0)), (1, .int (iI a0)), (2, .long (lI v2x61)), (4, .long (lI v4x61)), (6, .int (iI v6x61)), (8, .int (iI v8x73)), (9, .int (iI v9x73))] → f9_determinant_l73 (fun st v2x8 v4x8 v6x8 => f9_determinant_l8 Q a0 n8 st v2x8 v4x8 v6x8) (fun st v8x61 => f9_determinant_l61 (fun st v2x8 v4x8 v6x8 => f9_determinant_l8 Q a0 n8 st v2x8 v4x8 v6x8) Q a0 v2x61 v4x61 v6x61 n61 st v8x61) Q a0 v2x61 v4x61 v6x61 v8x73 n73 st v9x73 → W p l e (headSpec wsX9_determinant ({ frames := 1, cells := 0, slots := 0, locals := 26 })).room s m ([.ref (G.2.2.1 9 0), .int (iI a0)] : List Value).toArray below meth c H locs 0 0 (MQ below (QlM vM G Q) ([.ref (G.2.2.1 9 0), .int (iI a0)] : List Value).toArray s 0 0 G.2.2.2.1) (F0 m 73 ls []) := by
            intro v8x73 n73
            induction n73 with
            | zero =>
              intro st v9x73 H locs ls hI hS hl h
              exact h.elim
            | succ n73 ih73 =>
              intro st v9x73 H locs ls hI hS hl h
              unfold f9_determinant_l73 at h
              refine lv_iload hx hb dX9_determinant_73 (lv_at hl 6 rfl) ?_
              refine lv_iload_n hx hb dX9_determinant_75 rfl (lv_at hl 1 rfl) ?_
              obtain ⟨g26, h⟩ := h
              obtain ⟨g27, h⟩ := h
              refine r_icmp_ge (tgt := 151) hx hb dX9_determinant_76 (by decide) g26 g27 (fun c28 => ?_) (fun c28 => ?_)
              · replace h := h.1 c28
                obtain ⟨x29, hx29⟩ : ∃ z : Int, z = v8x73 + 1 := ⟨_, rfl⟩
                replace h := h x29 hx29
                refine lv_iinc (v := iI x29) (lv' := [(8, .int (iI x29)), (0, .ref (G.2.2.1 9 0)), (1, .int (iI a0)), (2, .long (lI v2x61)), (4, .long (lI v4x61)), (6, .int (iI v6x61)), (9, .int (iI v9x73))]) hx hb dX9_determinant_151 hl (k := 5) rfl (by rw [hx29]; exact iI_add _ _) (by decide) rfl (fun ls hl => ?_)
                refine lv_goto (tgt := 61) hx hb dX9_determinant_154 (by decide) ?_
                exact ih61 st x29 _ _ ls hI hS (lv_sub hl [1, 2, 3, 4, 5, 0] rfl) h
              · replace h := h.2 c28
                refine lv_aload_n hx hb dX9_determinant_79 rfl (lv_at hl 0 rfl) ?_
                refine gg_9_16 hx hb hts in9 hown hK hI hv_this lk_33 dX9_determinant_80 ?_
                refine lv_iload_n hx hb dX9_determinant_83 rfl (lv_at hl 1 rfl) ?_
                refine lv_iload hx hb dX9_determinant_84 (lv_at hl 5 rfl) ?_
                refine r_imul hx hb dX9_determinant_86 ?_
                refine lv_iload hx hb dX9_determinant_87 (lv_at hl 6 rfl) ?_
                refine r_iadd hx hb dX9_determinant_89 ?_
                refine lv_aload_n hx hb dX9_determinant_90 rfl (lv_at hl 0 rfl) ?_
                refine gg_9_16 hx hb hts in9 hown hK hI hv_this lk_33 dX9_determinant_91 ?_
                refine lv_iload_n hx hb dX9_determinant_94 rfl (lv_at hl 1 rfl) ?_
                refine lv_iload hx hb dX9_determinant_95 (lv_at hl 5 rfl) ?_
                refine r_imul hx hb dX9_determinant_97 ?_
                refine lv_iload hx hb dX9_determinant_98 (lv_at hl 6 rfl) ?_
                refine r_iadd hx hb dX9_determinant_100 ?_
                obtain ⟨g30, g31, h⟩ := h
                refine r_lald hx hb hK hI (K := 36) (vrM_9_16 hv_this) rfl (lts_mk rfl) dX9_determinant_101 g30 g31 ?_
                refine lv_aload_n hx hb dX9_determinant_102 rfl (lv_at hl 0 rfl) ?_
                refine gg_9_16 hx hb hts in9 hown hK hI hv_this lk_33 dX9_determinant_103 ?_
                refine lv_iload_n hx hb dX9_determinant_106 rfl (lv_at hl 1 rfl) ?_
                refine lv_iload hx hb dX9_determinant_107 (lv_at hl 4 rfl) ?_
                refine r_imul hx hb dX9_determinant_109 ?_
                refine lv_iload hx hb dX9_determinant_110 (lv_at hl 4 rfl) ?_
                refine r_iadd hx hb dX9_determinant_112 ?_
                obtain ⟨g32, g33, h⟩ := h
                refine r_lald hx hb hK hI (K := 36) (vrM_9_16 hv_this) rfl (lts_mk rfl) dX9_determinant_113 g32 g33 ?_
                refine r_lmul hx hb dX9_determinant_114 ?_
                refine lv_aload_n hx hb dX9_determinant_115 rfl (lv_at hl 0 rfl) ?_
                refine gg_9_16 hx hb hts in9 hown hK hI hv_this lk_33 dX9_determinant_116 ?_
                refine lv_iload_n hx hb dX9_determinant_119 rfl (lv_at hl 1 rfl) ?_
                refine lv_iload hx hb dX9_determinant_120 (lv_at hl 5 rfl) ?_
                refine r_imul hx hb dX9_determinant_122 ?_
                refine lv_iload hx hb dX9_determinant_123 (lv_at hl 4 rfl) ?_
                refine r_iadd hx hb dX9_determinant_125 ?_
                obtain ⟨g34, g35, h⟩ := h
                refine r_lald hx hb hK hI (K := 36) (vrM_9_16 hv_this) rfl (lts_mk rfl) dX9_determinant_126 g34 g35 ?_
                refine lv_aload_n hx hb dX9_determinant_127 rfl (lv_at hl 0 rfl) ?_
                refine gg_9_16 hx hb hts in9 hown hK hI hv_this lk_33 dX9_determinant_128 ?_
                refine lv_iload_n hx hb dX9_determinant_131 rfl (lv_at hl 1 rfl) ?_
                refine lv_iload hx hb dX9_determinant_132 (lv_at hl 4 rfl) ?_
                refine r_imul hx hb dX9_determinant_134 ?_
                refine lv_iload hx hb dX9_determinant_135 (lv_at hl 6 rfl) ?_
                refine r_iadd hx hb dX9_determinant_137 ?_
                obtain ⟨g36, g37, h⟩ := h
                refine r_lald hx hb hK hI (K := 36) (vrM_9_16 hv_this) rfl (lts_mk rfl) dX9_determinant_138 g36 g37 ?_
                refine r_lmul hx hb dX9_determinant_139 ?_
                refine r_lsub hx hb dX9_determinant_140 ?_
                refine lv_lload hx hb dX9_determinant_141 (lv_at hl 3 rfl) ?_
                obtain ⟨g38, h⟩ := h
                obtain ⟨g39, h⟩ := h
                obtain ⟨g40, h⟩ := h
                refine r_ldiv hx hb dX9_determinant_143 g38 g39 g40 ?_
                obtain ⟨g41, g42, h⟩ := h
                refine r_last hx hb hK hI hS (K := 36) (vrM_9_16 hv_this) (fun _ => rfl) (lts_mk rfl) dX9_determinant_144 g41 g42 (fun st43 hst43 H locs hI hS => ?_)
                replace h := h st43 hst43
                obtain ⟨x44, hx44⟩ : ∃ z : Int, z = v9x73 + 1 := ⟨_, rfl⟩
                replace h := h x44 hx44
                refine lv_iinc (v := iI x44) (lv' := [(9, .int (iI x44)), (0, .ref (G.2.2.1 9 0)), (1, .int (iI a0)), (2, .long (lI v2x61)), (4, .long (lI v4x61)), (6, .int (iI v6x61)), (8, .int (iI v8x73))]) hx hb dX9_determinant_145 hl (k := 6) rfl (by rw [hx44]; exact iI_add _ _) (by decide) rfl (fun ls hl => ?_)
                refine lv_goto (tgt := 73) hx hb dX9_determinant_148 (by decide) ?_
                exact ih73 st43 x44 _ _ ls hI hS (lv_sub hl [1, 2, 3, 4, 5, 6, 0] rfl) h
          intro st v8x61 H locs ls hI hS hl h
          unfold f9_determinant_l61 at h
          refine lv_iload hx hb dX9_determinant_61 (lv_at hl 5 rfl) ?_
          refine lv_iload_n hx hb dX9_determinant_63 rfl (lv_at hl 1 rfl) ?_
          obtain ⟨g18, h⟩ := h
          obtain ⟨g19, h⟩ := h
          refine r_icmp_ge (tgt := 157) hx hb dX9_determinant_64 (by decide) g18 g19 (fun c20 => ?_) (fun c20 => ?_)
          · replace h := h.1 c20
            refine lv_aload_n hx hb dX9_determinant_157 rfl (lv_at hl 0 rfl) ?_
            refine gg_9_16 hx hb hts in9 hown hK hI hv_this lk_33 dX9_determinant_158 ?_
            refine lv_iload_n hx hb dX9_determinant_161 rfl (lv_at hl 1 rfl) ?_
            refine lv_iload hx hb dX9_determinant_162 (lv_at hl 4 rfl) ?_
            refine r_imul hx hb dX9_determinant_164 ?_
            refine lv_iload hx hb dX9_determinant_165 (lv_at hl 4 rfl) ?_
            refine r_iadd hx hb dX9_determinant_167 ?_
            obtain ⟨g21, g22, h⟩ := h
            refine r_lald hx hb hK hI (K := 36) (vrM_9_16 hv_this) rfl (lts_mk rfl) dX9_determinant_168 g21 g22 ?_
            refine r_topl (fun x23 hx23 => ?_)
            replace h := h x23 hx23
            refine lv_lstore (lv' := [(4, .long (lI x23)), (0, .ref (G.2.2.1 9 0)), (1, .int (iI a0)), (2, .long (lI v2x61)), (6, .int (iI v6x61)), (8, .int (iI v8x61))]) hx hb dX9_determinant_169 hl (by decide) rfl (fun ls hl => ?_)
            obtain ⟨x24, hx24⟩ : ∃ z : Int, z = v6x61 + 1 := ⟨_, rfl⟩
            replace h := h x24 hx24
            refine lv_iinc (v := iI x24) (lv' := [(6, .int (iI x24)), (4, .long (lI x23)), (0, .ref (G.2.2.1 9 0)), (1, .int (iI a0)), (2, .long (lI v2x61)), (8, .int (iI v8x61))]) hx hb dX9_determinant_171 hl (k := 4) rfl (by rw [hx24]; exact iI_add _ _) (by decide) rfl (fun ls hl => ?_)
            refine lv_goto (tgt := 8) hx hb dX9_determinant_174 (by decide) ?_
            exact ih8 st v2x61 x23 x24 _ _ ls hI hS (lv_sub hl [2, 3, 4, 1, 0] rfl) h
          · replace h := h.2 c20
            refine lv_iload hx hb dX9_determinant_67 (lv_at hl 4 rfl) ?_
            refine r_iconst (n := 1) hx hb dX9_determinant_69 ?_
            refine r_iadd hx hb dX9_determinant_70 ?_
            refine r_topi (fun x25 hx25 => ?_)
            replace h := h x25 hx25
            refine lv_istore (lv' := [(9, .int (iI x25)), (0, .ref (G.2.2.1 9 0)), (1, .int (iI a0)), (2, .long (lI v2x61)), (4, .long (lI v4x61)), (6, .int (iI v6x61)), (8, .int (iI v8x61))]) hx hb dX9_determinant_71 hl (by decide) rfl (fun ls hl => ?_)
            obtain ⟨kk, h⟩ := h
            exact L73 v8x61 kk st x25 _ _ ls hI hS (lv_sub hl [1, 2, 3, 4, 5, 6, 0] rfl) h
      have J46 : ∀ (st : St) (v2x46 : Int) (v4x46 : Int) (v6x46 : Int) (v7x46 : Int) (H : Heap) (locs : List Loc) (ls : Array Slot), Iv vM G st H → va_S G.2.2.2.1 s.heap H locs → lv_has ls 10 [(0, .ref (G.2.2.1 9 0)), (1, .int (iI a0)), (2, .long (lI v2x46)), (4, .long (lI v4x46)), (6, .int (iI v6x46)), (7, .int (iI v7x46))] → f9_determinant_j46 (fun st v2x8 v4x8 v6x8 => f9_determinant_l8 Q a0 n8 st v2x8 v4x8 v6x8) Q a0 st v2x46 v4x46 v6x46 v7x46 → W p l e (headSpec wsX9_determinant ({ frames := 1, cells := 0, slots := 0, locals := 26 })).room s m ([.ref (G.2.2.1 9 0), .int (iI a0)] : List Value).toArray below meth c H locs 0 0 (MQ below (QlM vM G Q) ([.ref (G.2.2.1 9 0), .int (iI a0)] : List Value).toArray s 0 0 G.2.2.2.1) (F0 m 46 ls []) := by
        intro st v2x46 v4x46 v6x46 v7x46 H locs ls hI hS hl h
        unfold f9_determinant_j46 at h
        refine lv_aload_n hx hb dX9_determinant_46 rfl (lv_at hl 0 rfl) ?_
        refine lv_iload hx hb dX9_determinant_47 (lv_at hl 4 rfl) ?_
        refine lv_iload hx hb dX9_determinant_49 (lv_at hl 5 rfl) ?_
        refine lv_iload_n hx hb dX9_determinant_51 rfl (lv_at hl 1 rfl) ?_
        refine r_callv (va_runV (As := [.int (iI v6x46), .int (iI v7x46), .int (iI a0)]) (rest := []) ⟨hx, hb, hml, hown, hts⟩ (m9_changes l G hv_this _ st v6x46 v7x46 a0 h) (cwV 3 hts gX9_determinant_X9_changes rfl rfl rfl hd9_changes ⟨Nat.le_of_ble_eq_true rfl, Nat.le_of_ble_eq_true rfl⟩) (pre_V hK hX hI hA hS hv_this rfl rfl [.int (iI v6x46), .int (iI v7x46), .int (iI a0)]) rfl rfl hl.1 rfl (lv_room (Nat.le_of_ble_eq_true rfl)) dX9_determinant_52 ⟨Nat.le_of_ble_eq_true rfl, Nat.le_of_ble_eq_true rfl⟩) hS (fun st16 h H locs hI hS => ?_)
        refine lv_iload hx hb dX9_determinant_55 (lv_at hl 4 rfl) ?_
        refine r_iconst (n := 1) hx hb dX9_determinant_57 ?_
        refine r_iadd hx hb dX9_determinant_58 ?_
        refine r_topi (fun x17 hx17 => ?_)
        replace h := h x17 hx17
        refine lv_istore (lv' := [(8, .int (iI x17)), (0, .ref (G.2.2.1 9 0)), (1, .int (iI a0)), (2, .long (lI v2x46)), (4, .long (lI v4x46)), (6, .int (iI v6x46)), (7, .int (iI v7x46))]) hx hb dX9_determinant_59 hl (by decide) rfl (fun ls hl => ?_)
        obtain ⟨kk, h⟩ := h
        exact L61 v2x46 v4x46 v6x46 kk st16 x17 _ _ ls hI hS (lv_sub hl [1, 2, 3, 4, 5, 0] rfl) h
      intro st v2x8 v4x8 v6x8 H locs ls hI hS hl h
      unfold f9_determinant_l8 at h
      refine lv_iload hx hb dX9_determinant_8 (lv_at hl 4 rfl) ?_
      refine lv_iload_n hx hb dX9_determinant_10 rfl (lv_at hl 1 rfl) ?_
      refine r_iconst (n := 1) hx hb dX9_determinant_11 ?_
      refine r_isub hx hb dX9_determinant_12 ?_
      obtain ⟨g1, h⟩ := h
      obtain ⟨g2, h⟩ := h
      refine r_icmp_ge (tgt := 177) hx hb dX9_determinant_13 (by decide) g1 g2 (fun c3 => ?_) (fun c3 => ?_)
      · replace h := h.1 c3
        refine lv_lload_n hx hb dX9_determinant_177 rfl (lv_at hl 2 rfl) ?_
        refine lv_aload_n hx hb dX9_determinant_178 rfl (lv_at hl 0 rfl) ?_
        refine gg_9_16 hx hb hts in9 hown hK hI hv_this lk_33 dX9_determinant_179 ?_
        refine lv_iload_n hx hb dX9_determinant_182 rfl (lv_at hl 1 rfl) ?_
        refine lv_iload_n hx hb dX9_determinant_183 rfl (lv_at hl 1 rfl) ?_
        refine r_imul hx hb dX9_determinant_184 ?_
        refine r_iconst (n := 1) hx hb dX9_determinant_185 ?_
        refine r_isub hx hb dX9_determinant_186 ?_
        obtain ⟨g4, g5, h⟩ := h
        refine r_lald hx hb hK hI (K := 36) (vrM_9_16 hv_this) rfl (lts_mk rfl) dX9_determinant_187 g4 g5 ?_
        refine r_lmul hx hb dX9_determinant_188 ?_
        exact r_lret hx hb hr hlocks hK hI hS (Qp := Q) h dX9_determinant_189
      · replace h := h.2 c3
        refine lv_aload_n hx hb dX9_determinant_16 rfl (lv_at hl 0 rfl) ?_
        refine gg_9_16 hx hb hts in9 hown hK hI hv_this lk_33 dX9_determinant_17 ?_
        refine lv_iload hx hb dX9_determinant_20 (lv_at hl 4 rfl) ?_
        refine lv_iload_n hx hb dX9_determinant_22 rfl (lv_at hl 1 rfl) ?_
        refine r_calli (va_runS (As := [.ref (G.2.2.1 36 0), .int (iI v6x8), .int (iI a0)]) (rest := []) ⟨hx, hb, hml, hown, hts⟩ (m9_pivotOf l G (vrM_9_16 hv_this) _ st v6x8 a0 h) (va_cwS 3 hts gX9_determinant_X9_pivotOf rfl rfl rfl hd9_pivotOf ⟨Nat.le_of_ble_eq_true rfl, Nat.le_of_ble_eq_true rfl⟩) (pre_S hK hX hI hA hS [.ref (G.2.2.1 36 0), .int (iI v6x8), .int (iI a0)]) rfl rfl hl.1 rfl (lv_room (Nat.le_of_ble_eq_true rfl)) dX9_determinant_23 ⟨Nat.le_of_ble_eq_true rfl, Nat.le_of_ble_eq_true rfl⟩) hS (fun z6 st7 h H locs hI hS => ?_)
        refine lv_istore (lv' := [(7, .int (iI z6)), (0, .ref (G.2.2.1 9 0)), (1, .int (iI a0)), (2, .long (lI v2x8)), (4, .long (lI v4x8)), (6, .int (iI v6x8))]) hx hb dX9_determinant_26 hl (by decide) rfl (fun ls hl => ?_)
        refine lv_iload hx hb dX9_determinant_28 (lv_at hl 0 rfl) ?_
        refine lv_iload_n hx hb dX9_determinant_30 rfl (lv_at hl 2 rfl) ?_
        obtain ⟨g8, h⟩ := h
        obtain ⟨g9, h⟩ := h
        refine r_icmp_ne (tgt := 36) hx hb dX9_determinant_31 (by decide) g8 g9 (fun c10 => ?_) (fun c10 => ?_)
        · replace h := h.2 c10
          refine lv_iload hx hb dX9_determinant_36 (lv_at hl 0 rfl) ?_
          refine lv_iload hx hb dX9_determinant_38 (lv_at hl 5 rfl) ?_
          obtain ⟨g11, h⟩ := h
          obtain ⟨g12, h⟩ := h
          refine r_icmp_eq (tgt := 46) hx hb dX9_determinant_40 (by decide) g11 g12 (fun c13 => ?_) (fun c13 => ?_)
          · replace h := h.1 c13
            exact J46 st7 v2x8 v4x8 v6x8 z6 _ _ ls hI hS (lv_sub hl [1, 2, 3, 4, 5, 0] rfl) h
          · replace h := h.2 c13
            refine lv_lload_n hx hb dX9_determinant_43 rfl (lv_at hl 3 rfl) ?_
            refine r_lneg hx hb dX9_determinant_44 ?_
            refine r_topl (fun x14 hx14 => ?_)
            replace h := h x14 hx14
            refine lv_lstore_n (lv' := [(2, .long (lI x14)), (7, .int (iI z6)), (0, .ref (G.2.2.1 9 0)), (1, .int (iI a0)), (4, .long (lI v4x8)), (6, .int (iI v6x8))]) hx hb dX9_determinant_45 rfl hl (by decide) rfl (fun ls hl => ?_)
            exact J46 st7 x14 v4x8 v6x8 z6 _ _ ls hI hS (lv_sub hl [2, 3, 0, 4, 5, 1] rfl) h
        · replace h := h.1 c10
          refine r_lconst (z := 0) hx hb dX9_determinant_34 rfl ?_
          exact r_lret hx hb hr hlocks hK hI hS (Qp := Q) h dX9_determinant_35
  unfold f9_determinant at h
  refine r_lconst (z := 1) hx hb dX9_determinant_0 rfl ?_
  refine lv_lstore_n (lv' := [(2, .long (lI 1)), (0, .ref (G.2.2.1 9 0)), (1, .int (iI a0))]) hx hb dX9_determinant_1 rfl hl (by decide) rfl (fun ls hl => ?_)
  refine r_lconst (z := 1) hx hb dX9_determinant_2 rfl ?_
  refine lv_lstore (lv' := [(4, .long (lI 1)), (2, .long (lI 1)), (0, .ref (G.2.2.1 9 0)), (1, .int (iI a0))]) hx hb dX9_determinant_3 hl (by decide) rfl (fun ls hl => ?_)
  refine r_iconst (n := 0) hx hb dX9_determinant_5 ?_
  refine lv_istore (lv' := [(6, .int (iI 0)), (4, .long (lI 1)), (2, .long (lI 1)), (0, .ref (G.2.2.1 9 0)), (1, .int (iI a0))]) hx hb dX9_determinant_6 hl (by decide) rfl (fun ls hl => ?_)
  obtain ⟨kk, h⟩ := h
  exact L8 kk st 1 1 0 _ _ ls hI hS (lv_sub hl [3, 4, 2, 1, 0] rfl) h
theorem hd9_reckons : yX9_reckons.cls = RX9 ∧ yX9_reckons.cls ≠ "java/lang/invoke/MethodHandle" ∧ yX9_reckons.cls ≠ "java/lang/invoke/VarHandle" ∧ (parseMethodDescriptor yX9_reckons.desc).map (fun d => d.parameters.length) = some 2 := by decide +kernel
set_option maxHeartbeats 4000000 in
set_option maxRecDepth 100000 in
theorem m9_reckons (l : Launch) (G : WG)   (hv_this : vM 9 0) (Q : Int → St → Prop) (st : St) (a0 : Int) (a1 : Int) (h : f9_reckons Q st a0 a1) : Met l yX9_reckons wsX9_reckons ({ frames := 2, cells := 0, slots := 0, locals := 55 }) (PcM vM G st [.ref (G.2.2.1 9 0), .int (iI a0), .int (iI a1)]) (QlM vM G Q) 0 0 G.2.2.2.1 := by
  refine Met.ofW (cc := cX9_reckons) (maxL := 6) (ret := (some .long)) (by decide) rfl ?_
  intro p e s m args below meth c s₁ B hml hvv
  obtain ⟨rfl, hA, hI, hK, hX⟩ := hvv
  have hx := B.exec
  have hb := B.bytes
  have hr := B.returns
  have hts := atoms_spec (ws := wsX9_reckons) B.pre
  have hown : s.vm.findClass RX9 = some m.cls := findClass_of_methodNamed B.named
  have hlocks := B.notSynchronized
  have hS : va_S G.2.2.2.1 s.heap s.heap [] := va_S.rf
  have in9 : ∀ w ∈ wsX90, w ∈ wsX9_reckons := by decide +kernel
  have lk_7 := hts (.fieldLink RX9 7 "BeamLinesModel" "a" "[I") (by decide +kernel)
  have lk_33 := hts (.fieldLink RX9 33 "BeamLinesModel" "square" "[J") (by decide +kernel)
  have hl := lv_entry ([.ref (G.2.2.1 9 0), .int (iI a0), .int (iI a1)]) (n := 6) (Nat.le_of_ble_eq_true rfl)
  rw [lg_entry_eq]
  generalize (lg_sl ([.ref (G.2.2.1 9 0), .int (iI a0), .int (iI a1)]) ++ List.replicate (6 - (lg_sl ([.ref (G.2.2.1 9 0), .int (iI a0), .int (iI a1)])).length) Slot.unset).toArray = ls at hl ⊢
  have hl : lv_has ls 6 [(0, .ref (G.2.2.1 9 0)), (1, .int (iI a0)), (2, .int (iI a1))] := hl
  have L10 : ∀ (v3x10 : Int) (n10 : Nat), ∀ (st : St) (v4x10 : Int) (H : Heap) (locs : List Loc) (ls : Array Slot), Iv vM G st H → va_S G.2.2.2.1 s.heap H locs → lv_has ls 6 [(0, .ref (G.2.2.1 9 0)), (1, .int (iI a0)), (2, .int (iI a1)), (3, .int (iI v3x10)), (4, .int (iI v4x10))] → f9_reckons_l10 Q a0 a1 v3x10 n10 st v4x10 → W p l e (headSpec wsX9_reckons ({ frames := 2, cells := 0, slots := 0, locals := 55 })).room s m ([.ref (G.2.2.1 9 0), .int (iI a0), .int (iI a1)] : List Value).toArray below meth c H locs 0 0 (MQ below (QlM vM G Q) ([.ref (G.2.2.1 9 0), .int (iI a0), .int (iI a1)] : List Value).toArray s 0 0 G.2.2.2.1) (F0 m 10 ls []) := by
    intro v3x10 n10
    induction n10 with
    | zero =>
      intro st v4x10 H locs ls hI hS hl h
      exact h.elim
    | succ n10 ih10 =>
      have L19 : ∀ (v4x19 : Int) (n19 : Nat), ∀ (st : St) (v5x19 : Int) (H : Heap) (locs : List Loc) (ls : Array Slot), Iv vM G st H → va_S G.2.2.2.1 s.heap H locs → lv_has ls 6 [(0, .ref (G.2.2.1 9 0)), (1, .int (iI a0)), (2, .int (iI a1)), (3, .int (iI v3x10)), (4, .int (iI v4x19)), (5, .int (iI v5x19))] → f9_reckons_l19 (fun st v4x10 => f9_reckons_l10 Q a0 a1 v3x10 n10 st v4x10) Q a0 a1 v3x10 v4x19 n19 st v5x19 → W p l e (headSpec wsX9_reckons ({ frames := 2, cells := 0, slots := 0, locals := 55 })).room s m ([.ref (G.2.2.1 9 0), .int (iI a0), .int (iI a1)] : List Value).toArray below meth c H locs 0 0 (MQ below (QlM vM G Q) ([.ref (G.2.2.1 9 0), .int (iI a0), .int (iI a1)] : List Value).toArray s 0 0 G.2.2.2.1) (F0 m 19 ls []) := by
        intro v4x19 n19
        induction n19 with
        | zero =>
          intro st v5x19 H locs ls hI hS hl h
          exact h.elim
        | succ n19 ih19 =>
          have J55 : ∀ (st : St) (v5x55 : Int) (s0x55 : Int) (s1x55 : Int) (s3x55 : Int) (H : Heap) (locs : List Loc) (ls : Array Slot), Iv vM G st H → va_S G.2.2.2.1 s.heap H locs → lv_has ls 6 [(0, .ref (G.2.2.1 9 0)), (1, .int (iI a0)), (2, .int (iI a1)), (3, .int (iI v3x10)), (4, .int (iI v4x19)), (5, .int (iI v5x55))] → f9_reckons_j55 (fun st v4x10 => f9_reckons_l10 Q a0 a1 v3x10 n10 st v4x10) (fun st v5x19 => f9_reckons_l19 (fun st v4x10 => f9_reckons_l10 Q a0 a1 v3x10 n10 st v4x10) Q a0 a1 v3x10 v4x19 n19 st v5x19) Q a0 a1 v3x10 v4x19 st v5x55 s0x55 s1x55 s3x55 → W p l e (headSpec wsX9_reckons ({ frames := 2, cells := 0, slots := 0, locals := 55 })).room s m ([.ref (G.2.2.1 9 0), .int (iI a0), .int (iI a1)] : List Value).toArray below meth c H locs 0 0 (MQ below (QlM vM G Q) ([.ref (G.2.2.1 9 0), .int (iI a0), .int (iI a1)] : List Value).toArray s 0 0 G.2.2.2.1) (F0 m 55 ls [.int (iI s0x55), .int (iI s1x55), .ref (G.2.2.1 9 0), .int (iI s3x55), .ref (G.2.2.1 36 0)]) := by
            intro st v5x55 s0x55 s1x55 s3x55 H locs ls hI hS hl h
            unfold f9_reckons_j55 at h
            refine r_calll (va_runV (As := [.int (iI s1x55), .int (iI s0x55)]) (rest := [.int (iI s3x55), .ref (G.2.2.1 36 0)]) ⟨hx, hb, hml, hown, hts⟩ (m9_lever l G hv_this _ st s1x55 s0x55 h) (cwV 2 hts gX9_reckons_X9_lever rfl rfl rfl hd9_lever ⟨Nat.le_of_ble_eq_true rfl, Nat.le_of_ble_eq_true rfl⟩) (pre_V hK hX hI hA hS hv_this rfl rfl [.int (iI s1x55), .int (iI s0x55)]) rfl rfl hl.1 rfl (lv_room (Nat.le_of_ble_eq_true rfl)) dX9_reckons_55 ⟨Nat.le_of_ble_eq_true rfl, Nat.le_of_ble_eq_true rfl⟩) hS (fun z16 st17 h H locs hI hS => ?_)
            obtain ⟨g18, g19, h⟩ := h
            refine r_last hx hb hK hI hS (K := 36) (vrM_9_16 hv_this) (fun _ => rfl) (lts_mk rfl) dX9_reckons_58 g18 g19 (fun st20 hst20 H locs hI hS => ?_)
            replace h := h st20 hst20
            obtain ⟨x21, hx21⟩ : ∃ z : Int, z = v5x55 + 1 := ⟨_, rfl⟩
            replace h := h x21 hx21
            refine lv_iinc (v := iI x21) (lv' := [(5, .int (iI x21)), (0, .ref (G.2.2.1 9 0)), (1, .int (iI a0)), (2, .int (iI a1)), (3, .int (iI v3x10)), (4, .int (iI v4x19))]) hx hb dX9_reckons_59 hl (k := 5) rfl (by rw [hx21]; exact iI_add _ _) (by decide) rfl (fun ls hl => ?_)
            refine lv_goto (tgt := 19) hx hb dX9_reckons_62 (by decide) ?_
            exact ih19 st20 x21 _ _ ls hI hS (lv_sub hl [1, 2, 3, 4, 5, 0] rfl) h
          intro st v5x19 H locs ls hI hS hl h
          unfold f9_reckons_l19 at h
          refine lv_iload hx hb dX9_reckons_19 (lv_at hl 5 rfl) ?_
          refine lv_iload_n hx hb dX9_reckons_21 rfl (lv_at hl 3 rfl) ?_
          obtain ⟨g7, h⟩ := h
          obtain ⟨g8, h⟩ := h
          refine r_icmp_ge (tgt := 65) hx hb dX9_reckons_22 (by decide) g7 g8 (fun c9 => ?_) (fun c9 => ?_)
          · replace h := h.1 c9
            obtain ⟨x10, hx10⟩ : ∃ z : Int, z = v4x19 + 1 := ⟨_, rfl⟩
            replace h := h x10 hx10
            refine lv_iinc (v := iI x10) (lv' := [(4, .int (iI x10)), (0, .ref (G.2.2.1 9 0)), (1, .int (iI a0)), (2, .int (iI a1)), (3, .int (iI v3x10)), (5, .int (iI v5x19))]) hx hb dX9_reckons_65 hl (k := 4) rfl (by rw [hx10]; exact iI_add _ _) (by decide) rfl (fun ls hl => ?_)
            refine lv_goto (tgt := 10) hx hb dX9_reckons_68 (by decide) ?_
            exact ih10 st x10 _ _ ls hI hS (lv_sub hl [1, 2, 3, 4, 0] rfl) h
          · replace h := h.2 c9
            refine lv_aload_n hx hb dX9_reckons_25 rfl (lv_at hl 0 rfl) ?_
            refine gg_9_16 hx hb hts in9 hown hK hI hv_this lk_33 dX9_reckons_26 ?_
            refine lv_iload_n hx hb dX9_reckons_29 rfl (lv_at hl 3 rfl) ?_
            refine lv_iload hx hb dX9_reckons_30 (lv_at hl 4 rfl) ?_
            refine r_imul hx hb dX9_reckons_32 ?_
            refine lv_iload hx hb dX9_reckons_33 (lv_at hl 5 rfl) ?_
            refine r_iadd hx hb dX9_reckons_35 ?_
            refine lv_aload_n hx hb dX9_reckons_36 rfl (lv_at hl 0 rfl) ?_
            refine lv_iload hx hb dX9_reckons_37 (lv_at hl 4 rfl) ?_
            refine lv_iload hx hb dX9_reckons_39 (lv_at hl 5 rfl) ?_
            refine lv_iload_n hx hb dX9_reckons_41 rfl (lv_at hl 1 rfl) ?_
            obtain ⟨g11, h⟩ := h
            obtain ⟨g12, h⟩ := h
            refine r_icmp_ne (tgt := 49) hx hb dX9_reckons_42 (by decide) g11 g12 (fun c13 => ?_) (fun c13 => ?_)
            · replace h := h.2 c13
              refine lv_aload_n hx hb dX9_reckons_49 rfl (lv_at hl 0 rfl) ?_
              refine lv_iload hx hb dX9_reckons_50 (lv_at hl 5 rfl) ?_
              refine r_calli (va_runV (As := [.int (iI v5x19)]) (rest := [.int (iI v4x19), .ref (G.2.2.1 9 0), .int (iI ((v3x10 * v4x19) + v5x19)), .ref (G.2.2.1 36 0)]) ⟨hx, hb, hml, hown, hts⟩ (m9_placeOf l G hv_this _ st v5x19 h) (cwV 1 hts gX9_reckons_X9_placeOf rfl rfl rfl hd9_placeOf ⟨Nat.le_of_ble_eq_true rfl, Nat.le_of_ble_eq_true rfl⟩) (pre_V hK hX hI hA hS hv_this rfl rfl [.int (iI v5x19)]) rfl rfl hl.1 rfl (lv_room (Nat.le_of_ble_eq_true rfl)) dX9_reckons_52 ⟨Nat.le_of_ble_eq_true rfl, Nat.le_of_ble_eq_true rfl⟩) hS (fun z14 st15 h H locs hI hS => ?_)
              exact J55 st15 v5x19 z14 v4x19 ((v3x10 * v4x19) + v5x19) _ _ ls hI hS (lv_sub hl [0, 1, 2, 3, 4, 5] rfl) h
            · replace h := h.1 c13
              refine lv_iload_n hx hb dX9_reckons_45 rfl (lv_at hl 2 rfl) ?_
              refine lv_goto (tgt := 55) hx hb dX9_reckons_46 (by decide) ?_
              exact J55 st v5x19 a1 v4x19 ((v3x10 * v4x19) + v5x19) _ _ ls hI hS (lv_sub hl [0, 1, 2, 3, 4, 5] rfl) h
      intro st v4x10 H locs ls hI hS hl h
      unfold f9_reckons_l10 at h
      refine lv_iload hx hb dX9_reckons_10 (lv_at hl 4 rfl) ?_
      refine lv_iload_n hx hb dX9_reckons_12 rfl (lv_at hl 3 rfl) ?_
      obtain ⟨g2, h⟩ := h
      obtain ⟨g3, h⟩ := h
      refine r_icmp_ge (tgt := 71) hx hb dX9_reckons_13 (by decide) g2 g3 (fun c4 => ?_) (fun c4 => ?_)
      · replace h := h.1 c4
        refine lv_aload_n hx hb dX9_reckons_71 rfl (lv_at hl 0 rfl) ?_
        refine lv_iload_n hx hb dX9_reckons_72 rfl (lv_at hl 3 rfl) ?_
        refine r_calll (va_runV (As := [.int (iI v3x10)]) (rest := []) ⟨hx, hb, hml, hown, hts⟩ (m9_determinant l G hv_this _ st v3x10 h) (cwV 1 hts gX9_reckons_X9_determinant rfl rfl rfl hd9_determinant ⟨Nat.le_of_ble_eq_true rfl, Nat.le_of_ble_eq_true rfl⟩) (pre_V hK hX hI hA hS hv_this rfl rfl [.int (iI v3x10)]) rfl rfl hl.1 rfl (lv_room (Nat.le_of_ble_eq_true rfl)) dX9_reckons_73 ⟨Nat.le_of_ble_eq_true rfl, Nat.le_of_ble_eq_true rfl⟩) hS (fun z5 st6 h H locs hI hS => ?_)
        exact r_lret hx hb hr hlocks hK hI hS (Qp := Q) h dX9_reckons_76
      · replace h := h.2 c4
        refine r_iconst (n := 0) hx hb dX9_reckons_16 ?_
        refine lv_istore (lv' := [(5, .int (iI 0)), (0, .ref (G.2.2.1 9 0)), (1, .int (iI a0)), (2, .int (iI a1)), (3, .int (iI v3x10)), (4, .int (iI v4x10))]) hx hb dX9_reckons_17 hl (by decide) rfl (fun ls hl => ?_)
        obtain ⟨kk, h⟩ := h
        exact L19 v4x10 kk st 0 _ _ ls hI hS (lv_sub hl [1, 2, 3, 4, 5, 0] rfl) h
  unfold f9_reckons at h
  refine lv_aload_n hx hb dX9_reckons_0 rfl (lv_at hl 0 rfl) ?_
  refine gg_9_0 hx hb hts in9 hown hK hI hv_this lk_7 dX9_reckons_1 ?_
  refine r_iconst (n := 2) hx hb dX9_reckons_4 ?_
  refine r_iald hx hb hK hI (K := 30) (vrM_9_0 hv_this) rfl (mlen_le _) dX9_reckons_5 (by decide) (by decide) ?_
  refine r_topi (fun x1 hx1 => ?_)
  replace h := h x1 hx1
  refine lv_istore_n (lv' := [(3, .int (iI x1)), (0, .ref (G.2.2.1 9 0)), (1, .int (iI a0)), (2, .int (iI a1))]) hx hb dX9_reckons_6 rfl hl (by decide) rfl (fun ls hl => ?_)
  refine r_iconst (n := 0) hx hb dX9_reckons_7 ?_
  refine lv_istore (lv' := [(4, .int (iI 0)), (3, .int (iI x1)), (0, .ref (G.2.2.1 9 0)), (1, .int (iI a0)), (2, .int (iI a1))]) hx hb dX9_reckons_8 hl (by decide) rfl (fun ls hl => ?_)
  obtain ⟨kk, h⟩ := h
  exact L10 x1 kk st 0 _ _ ls hI hS (lv_sub hl [2, 3, 4, 1, 0] rfl) h
theorem hd9_isStanding : yX9_isStanding.cls = RX9 ∧ yX9_isStanding.cls ≠ "java/lang/invoke/MethodHandle" ∧ yX9_isStanding.cls ≠ "java/lang/invoke/VarHandle" ∧ (parseMethodDescriptor yX9_isStanding.desc).map (fun d => d.parameters.length) = some 0 := by decide +kernel
set_option maxHeartbeats 4000000 in
set_option maxRecDepth 100000 in
theorem m9_isStanding (l : Launch) (G : WG)   (hv_this : vM 9 0) (Q : Int → St → Prop) (st : St)  (h : f9_isStanding Q st) : Met l yX9_isStanding wsX9_isStanding ({ frames := 3, cells := 0, slots := 0, locals := 80 }) (PcM vM G st [.ref (G.2.2.1 9 0)]) (QiM vM G Q) 0 0 G.2.2.2.1 := by
  refine Met.ofW (cc := cX9_isStanding) (maxL := 1) (ret := (some .boolean)) (by decide) rfl ?_
  intro p e s m args below meth c s₁ B hml hvv
  obtain ⟨rfl, hA, hI, hK, hX⟩ := hvv
  have hx := B.exec
  have hb := B.bytes
  have hr := B.returns
  have hts := atoms_spec (ws := wsX9_isStanding) B.pre
  have hown : s.vm.findClass RX9 = some m.cls := findClass_of_methodNamed B.named
  have hlocks := B.notSynchronized
  have hS : va_S G.2.2.2.1 s.heap s.heap [] := va_S.rf
  have hl := lv_entry ([.ref (G.2.2.1 9 0)]) (n := 1) (Nat.le_of_ble_eq_true rfl)
  rw [lg_entry_eq]
  generalize (lg_sl ([.ref (G.2.2.1 9 0)]) ++ List.replicate (1 - (lg_sl ([.ref (G.2.2.1 9 0)])).length) Slot.unset).toArray = ls at hl ⊢
  have hl : lv_has ls 1 [(0, .ref (G.2.2.1 9 0))] := hl
  unfold f9_isStanding at h
  refine lv_aload_n hx hb dX9_isStanding_0 rfl (lv_at hl 0 rfl) ?_
  refine r_iconst (n := (-1)) hx hb dX9_isStanding_1 ?_
  refine r_iconst (n := 0) hx hb dX9_isStanding_2 ?_
  refine r_calll (va_runV (As := [.int (iI (-1)), .int (iI 0)]) (rest := []) ⟨hx, hb, hml, hown, hts⟩ (m9_reckons l G hv_this _ st (-1) 0 h) (cwV 2 hts gX9_isStanding_X9_reckons rfl rfl rfl hd9_reckons ⟨Nat.le_of_ble_eq_true rfl, Nat.le_of_ble_eq_true rfl⟩) (pre_V hK hX hI hA hS hv_this rfl rfl [.int (iI (-1)), .int (iI 0)]) rfl rfl hl.1 rfl (lv_room (Nat.le_of_ble_eq_true rfl)) dX9_isStanding_3 ⟨Nat.le_of_ble_eq_true rfl, Nat.le_of_ble_eq_true rfl⟩) hS (fun z1 st2 h H locs hI hS => ?_)
  refine r_lconst (z := 0) hx hb dX9_isStanding_6 rfl ?_
  obtain ⟨g3, h⟩ := h
  refine r_lcmp_eq (tgt := 15) hx hb dX9_isStanding_7 dX9_isStanding_8 (by decide) g3 (inL_mk rfl) (fun c4 => ?_) (fun c4 => ?_)
  · replace h := h.1 c4
    refine r_iconst (n := 0) hx hb dX9_isStanding_15 ?_
    exact r_zret hx hb hr hlocks hK hI hS (Qp := Q) (by decide) h dX9_isStanding_16
  · replace h := h.2 c4
    refine r_iconst (n := 1) hx hb dX9_isStanding_11 ?_
    refine lv_goto (tgt := 16) hx hb dX9_isStanding_12 (by decide) ?_
    exact r_zret hx hb hr hlocks hK hI hS (Qp := Q) (by decide) h dX9_isStanding_16
theorem hd9_load : yX9_load.cls = RX9 ∧ yX9_load.cls ≠ "java/lang/invoke/MethodHandle" ∧ yX9_load.cls ≠ "java/lang/invoke/VarHandle" ∧ (parseMethodDescriptor yX9_load.desc).map (fun d => d.parameters.length) = some 0 := by decide +kernel
set_option maxHeartbeats 4000000 in
set_option maxRecDepth 100000 in
theorem m9_load (l : Launch) (G : WG)   (hv_this : vM 9 0) (Q : Int → St → Prop) (st : St)  (h : f9_load Q st) : Met l yX9_load wsX9_load ({ frames := 7, cells := 0, slots := 0, locals := 159 }) (PcM vM G st [.ref (G.2.2.1 9 0)]) (QiM vM G Q) 0 0 G.2.2.2.1 := by
  refine Met.ofW (cc := cX9_load) (maxL := 2) (ret := (some .int)) (by decide) rfl ?_
  intro p e s m args below meth c s₁ B hml hvv
  obtain ⟨rfl, hA, hI, hK, hX⟩ := hvv
  have hx := B.exec
  have hb := B.bytes
  have hr := B.returns
  have hts := atoms_spec (ws := wsX9_load) B.pre
  have hown : s.vm.findClass RX9 = some m.cls := findClass_of_methodNamed B.named
  have hlocks := B.notSynchronized
  have hS : va_S G.2.2.2.1 s.heap s.heap [] := va_S.rf
  have in9 : ∀ w ∈ wsX90, w ∈ wsX9_load := by decide +kernel
  have lk_7 := hts (.fieldLink RX9 7 "BeamLinesModel" "a" "[I") (by decide +kernel)
  have lk_13 := hts (.fieldLink RX9 13 "BeamLinesModel" "aside" "[I") (by decide +kernel)
  have lk_29 := hts (.fieldLink RX9 29 "BeamLinesModel" "errorAt" "I") (by decide +kernel)
  have lk_46 := hts (.fieldLink RX9 46 "BeamLinesModel" "thrown" "I") (by decide +kernel)
  have lk_68 := hts (.fieldLink RX9 68 "BeamLinesModel" "buffered" "I") (by decide +kernel)
  have lk_75 := hts (.fieldLink RX9 75 "BeamLinesModel" "behind" "I") (by decide +kernel)
  have lk_84 := hts (.fieldLink RX9 84 "BeamLinesModel" "kind" "I") (by decide +kernel)
  have lk_101 := hts (.fieldLink RX9 101 "BeamLinesModel" "wrong" "I") (by decide +kernel)
  have lk_114 := hts (.fieldLink RX9 114 "BeamLinesModel" "wrongAt" "I") (by decide +kernel)
  have kc_187 : (Jvm.Cond.constant RX9 187 (iI 999999)).before _ s = true := hts (.constant RX9 187 999999) (by decide +kernel)
  have hl := lv_entry ([.ref (G.2.2.1 9 0)]) (n := 2) (Nat.le_of_ble_eq_true rfl)
  rw [lg_entry_eq]
  generalize (lg_sl ([.ref (G.2.2.1 9 0)]) ++ List.replicate (2 - (lg_sl ([.ref (G.2.2.1 9 0)])).length) Slot.unset).toArray = ls at hl ⊢
  have hl : lv_has ls 2 [(0, .ref (G.2.2.1 9 0))] := hl
  have J253 : ∀ (st : St) (H : Heap) (locs : List Loc) (ls : Array Slot), Iv vM G st H → va_S G.2.2.2.1 s.heap H locs → lv_has ls 2 [(0, .ref (G.2.2.1 9 0))] → f9_load_j253 Q st → W p l e (headSpec wsX9_load ({ frames := 7, cells := 0, slots := 0, locals := 159 })).room s m ([.ref (G.2.2.1 9 0)] : List Value).toArray below meth c H locs 0 0 (MQ below (QiM vM G Q) ([.ref (G.2.2.1 9 0)] : List Value).toArray s 0 0 G.2.2.2.1) (F0 m 253 ls []) := by
    intro st H locs ls hI hS hl h
    unfold f9_load_j253 at h
    refine lv_aload_n hx hb dX9_load_253 rfl (lv_at hl 0 rfl) ?_
    refine gg_9_13 hx hb hts in9 hown hK hI hv_this lk_101 dX9_load_254 ?_
    obtain ⟨g67, h⟩ := h
    refine r_if_eq (tgt := 265) hx hb dX9_load_257 (by decide) g67 (fun c68 => ?_) (fun c68 => ?_)
    · replace h := h.1 c68
      refine lv_aload_n hx hb dX9_load_265 rfl (lv_at hl 0 rfl) ?_
      refine lv_aload_n hx hb dX9_load_266 rfl (lv_at hl 0 rfl) ?_
      refine gg_9_1 hx hb hts in9 hown hK hI hv_this lk_13 dX9_load_267 ?_
      refine r_callv (va_runV (As := [.ref (G.2.2.1 30 1)]) (rest := []) ⟨hx, hb, hml, hown, hts⟩ (m9_keeps l G 1 hv_this (vrM_9_1 hv_this) _ st h) (cwV 1 hts gX9_load_X9_keeps rfl rfl rfl hd9_keeps ⟨Nat.le_of_ble_eq_true rfl, Nat.le_of_ble_eq_true rfl⟩) (pre_V hK hX hI hA hS hv_this rfl rfl [.ref (G.2.2.1 30 1)]) rfl rfl hl.1 rfl (lv_room (Nat.le_of_ble_eq_true rfl)) dX9_load_270 ⟨Nat.le_of_ble_eq_true rfl, Nat.le_of_ble_eq_true rfl⟩) hS (fun st70 h H locs hI hS => ?_)
      refine lv_aload_n hx hb dX9_load_273 rfl (lv_at hl 0 rfl) ?_
      refine gg_9_0 hx hb hts in9 hown hK hI hv_this lk_7 dX9_load_274 ?_
      refine r_iconst (n := 2) hx hb dX9_load_277 ?_
      refine r_iald hx hb hK hI (K := 30) (vrM_9_0 hv_this) rfl (mlen_le _) dX9_load_278 (by decide) (by decide) ?_
      exact r_iret hx hb hr hlocks hK hI hS (Qp := Q) h dX9_load_279
    · replace h := h.2 c68
      refine lv_aload_n hx hb dX9_load_260 rfl (lv_at hl 0 rfl) ?_
      refine gg_9_13 hx hb hts in9 hown hK hI hv_this lk_101 dX9_load_261 ?_
      exact r_iret hx hb hr hlocks hK hI hS (Qp := Q) h dX9_load_264
  have J225 : ∀ (st : St) (s0x225 : Int) (H : Heap) (locs : List Loc) (ls : Array Slot), Iv vM G st H → va_S G.2.2.2.1 s.heap H locs → lv_has ls 2 [(0, .ref (G.2.2.1 9 0))] → f9_load_j225 Q st s0x225 → W p l e (headSpec wsX9_load ({ frames := 7, cells := 0, slots := 0, locals := 159 })).room s m ([.ref (G.2.2.1 9 0)] : List Value).toArray below meth c H locs 0 0 (MQ below (QiM vM G Q) ([.ref (G.2.2.1 9 0)] : List Value).toArray s 0 0 G.2.2.2.1) (F0 m 225 ls [.int (iI s0x225), .ref (G.2.2.1 9 0)]) := by
    intro st s0x225 H locs ls hI hS hl h
    unfold f9_load_j225 at h
    refine pp_9_15 hx hb hts in9 hown hK hI hS hv_this lk_29 dX9_load_225 (fun st61 hst61 H locs hI hS => ?_)
    replace h := h st61 hst61
    refine lv_aload_n hx hb dX9_load_228 rfl (lv_at hl 0 rfl) ?_
    refine r_iconst (n := 0) hx hb dX9_load_229 ?_
    refine pp_9_8 hx hb hts in9 hown hK hI hS hv_this lk_68 dX9_load_230 (fun st62 hst62 H locs hI hS => ?_)
    replace h := h st62 hst62
    refine lv_aload_n hx hb dX9_load_233 rfl (lv_at hl 0 rfl) ?_
    refine gg_9_13 hx hb hts in9 hown hK hI hv_this lk_101 dX9_load_234 ?_
    obtain ⟨g63, h⟩ := h
    refine r_if_eq (tgt := 253) hx hb dX9_load_237 (by decide) g63 (fun c64 => ?_) (fun c64 => ?_)
    · replace h := h.1 c64
      exact J253 st62  _ _ ls hI hS (lv_sub hl [0] rfl) h
    · replace h := h.2 c64
      refine lv_aload_n hx hb dX9_load_240 rfl (lv_at hl 0 rfl) ?_
      refine gg_9_0 hx hb hts in9 hown hK hI hv_this lk_7 dX9_load_241 ?_
      refine r_iconst (n := 0) hx hb dX9_load_244 ?_
      refine lv_aload_n hx hb dX9_load_245 rfl (lv_at hl 0 rfl) ?_
      refine gg_9_1 hx hb hts in9 hown hK hI hv_this lk_13 dX9_load_246 ?_
      refine r_iconst (n := 0) hx hb dX9_load_249 ?_
      refine r_callv (va_runS (As := [.ref (G.2.2.1 30 0), .int (iI 0), .ref (G.2.2.1 30 1), .int (iI 0)]) (rest := []) ⟨hx, hb, hml, hown, hts⟩ (m9_copies l G 0 1 (vrM_9_0 hv_this) (vrM_9_1 hv_this) _ st62 0 0 h) (va_cwS 4 hts gX9_load_X9_copies rfl rfl rfl hd9_copies ⟨Nat.le_of_ble_eq_true rfl, Nat.le_of_ble_eq_true rfl⟩) (pre_S hK hX hI hA hS [.ref (G.2.2.1 30 0), .int (iI 0), .ref (G.2.2.1 30 1), .int (iI 0)]) rfl rfl hl.1 rfl (lv_room (Nat.le_of_ble_eq_true rfl)) dX9_load_250 ⟨Nat.le_of_ble_eq_true rfl, Nat.le_of_ble_eq_true rfl⟩) hS (fun st66 h H locs hI hS => ?_)
      exact J253 st66  _ _ ls hI hS (lv_sub hl [0] rfl) h
  have J209 : ∀ (st : St) (H : Heap) (locs : List Loc) (ls : Array Slot), Iv vM G st H → va_S G.2.2.2.1 s.heap H locs → lv_has ls 2 [(0, .ref (G.2.2.1 9 0))] → f9_load_j209 Q st → W p l e (headSpec wsX9_load ({ frames := 7, cells := 0, slots := 0, locals := 159 })).room s m ([.ref (G.2.2.1 9 0)] : List Value).toArray below meth c H locs 0 0 (MQ below (QiM vM G Q) ([.ref (G.2.2.1 9 0)] : List Value).toArray s 0 0 G.2.2.2.1) (F0 m 209 ls []) := by
    intro st H locs ls hI hS hl h
    unfold f9_load_j209 at h
    refine lv_aload_n hx hb dX9_load_209 rfl (lv_at hl 0 rfl) ?_
    refine lv_aload_n hx hb dX9_load_210 rfl (lv_at hl 0 rfl) ?_
    refine gg_9_13 hx hb hts in9 hown hK hI hv_this lk_101 dX9_load_211 ?_
    obtain ⟨g59, h⟩ := h
    refine r_if_ne (tgt := 221) hx hb dX9_load_214 (by decide) g59 (fun c60 => ?_) (fun c60 => ?_)
    · replace h := h.2 c60
      refine lv_aload_n hx hb dX9_load_221 rfl (lv_at hl 0 rfl) ?_
      refine gg_9_14 hx hb hts in9 hown hK hI hv_this lk_114 dX9_load_222 ?_
      exact J225 st (st 9 14 0 0) _ _ ls hI hS (lv_sub hl [0] rfl) h
    · replace h := h.1 c60
      refine r_iconst (n := (-1)) hx hb dX9_load_217 ?_
      refine lv_goto (tgt := 225) hx hb dX9_load_218 (by decide) ?_
      exact J225 st (-1) _ _ ls hI hS (lv_sub hl [0] rfl) h
  have J189 : ∀ (st : St) (H : Heap) (locs : List Loc) (ls : Array Slot), Iv vM G st H → va_S G.2.2.2.1 s.heap H locs → lv_has ls 2 [(0, .ref (G.2.2.1 9 0))] → f9_load_j189 Q st → W p l e (headSpec wsX9_load ({ frames := 7, cells := 0, slots := 0, locals := 159 })).room s m ([.ref (G.2.2.1 9 0)] : List Value).toArray below meth c H locs 0 0 (MQ below (QiM vM G Q) ([.ref (G.2.2.1 9 0)] : List Value).toArray s 0 0 G.2.2.2.1) (F0 m 189 ls []) := by
    intro st H locs ls hI hS hl h
    unfold f9_load_j189 at h
    refine lv_aload_n hx hb dX9_load_189 rfl (lv_at hl 0 rfl) ?_
    refine gg_9_13 hx hb hts in9 hown hK hI hv_this lk_101 dX9_load_190 ?_
    obtain ⟨g49, h⟩ := h
    refine r_if_ne (tgt := 209) hx hb dX9_load_193 (by decide) g49 (fun c50 => ?_) (fun c50 => ?_)
    · replace h := h.2 c50
      exact J209 st  _ _ ls hI hS (lv_sub hl [0] rfl) h
    · replace h := h.1 c50
      refine lv_aload_n hx hb dX9_load_196 rfl (lv_at hl 0 rfl) ?_
      refine r_calli (va_runV (As := []) (rest := []) ⟨hx, hb, hml, hown, hts⟩ (m9_isStanding l G hv_this _ st h) (cwV 0 hts gX9_load_X9_isStanding rfl rfl rfl hd9_isStanding ⟨Nat.le_of_ble_eq_true rfl, Nat.le_of_ble_eq_true rfl⟩) (pre_V hK hX hI hA hS hv_this rfl rfl []) rfl rfl hl.1 rfl (lv_room (Nat.le_of_ble_eq_true rfl)) dX9_load_197 ⟨Nat.le_of_ble_eq_true rfl, Nat.le_of_ble_eq_true rfl⟩) hS (fun z51 st52 h H locs hI hS => ?_)
      obtain ⟨g53, h⟩ := h
      refine r_if_ne (tgt := 209) hx hb dX9_load_200 (by decide) g53 (fun c54 => ?_) (fun c54 => ?_)
      · replace h := h.2 c54
        exact J209 st52  _ _ ls hI hS (lv_sub hl [0] rfl) h
      · replace h := h.1 c54
        refine lv_aload_n hx hb dX9_load_203 rfl (lv_at hl 0 rfl) ?_
        refine r_bipush (n := (-7)) hx hb dX9_load_204 rfl ?_
        refine r_callv (va_runV (As := [.int (iI (-7))]) (rest := []) ⟨hx, hb, hml, hown, hts⟩ (m9_fails l G hv_this _ st52 (-7) h) (cwV 1 hts gX9_load_X9_fails rfl rfl rfl hd9_fails ⟨Nat.le_of_ble_eq_true rfl, Nat.le_of_ble_eq_true rfl⟩) (pre_V hK hX hI hA hS hv_this rfl rfl [.int (iI (-7))]) rfl rfl hl.1 rfl (lv_room (Nat.le_of_ble_eq_true rfl)) dX9_load_206 ⟨Nat.le_of_ble_eq_true rfl, Nat.le_of_ble_eq_true rfl⟩) hS (fun st56 h H locs hI hS => ?_)
        exact J209 st56  _ _ ls hI hS (lv_sub hl [0] rfl) h
  have J183 : ∀ (st : St) (H : Heap) (locs : List Loc) (ls : Array Slot), Iv vM G st H → va_S G.2.2.2.1 s.heap H locs → lv_has ls 2 [(0, .ref (G.2.2.1 9 0))] → f9_load_j183 Q st → W p l e (headSpec wsX9_load ({ frames := 7, cells := 0, slots := 0, locals := 159 })).room s m ([.ref (G.2.2.1 9 0)] : List Value).toArray below meth c H locs 0 0 (MQ below (QiM vM G Q) ([.ref (G.2.2.1 9 0)] : List Value).toArray s 0 0 G.2.2.2.1) (F0 m 183 ls []) := by
    intro st H locs ls hI hS hl h
    unfold f9_load_j183 at h
    refine lv_aload_n hx hb dX9_load_183 rfl (lv_at hl 0 rfl) ?_
    refine r_bipush (n := (-6)) hx hb dX9_load_184 rfl ?_
    refine r_callv (va_runV (As := [.int (iI (-6))]) (rest := []) ⟨hx, hb, hml, hown, hts⟩ (m9_fails l G hv_this _ st (-6) h) (cwV 1 hts gX9_load_X9_fails rfl rfl rfl hd9_fails ⟨Nat.le_of_ble_eq_true rfl, Nat.le_of_ble_eq_true rfl⟩) (pre_V hK hX hI hA hS hv_this rfl rfl [.int (iI (-6))]) rfl rfl hl.1 rfl (lv_room (Nat.le_of_ble_eq_true rfl)) dX9_load_186 ⟨Nat.le_of_ble_eq_true rfl, Nat.le_of_ble_eq_true rfl⟩) hS (fun st58 h H locs hI hS => ?_)
    exact J189 st58  _ _ ls hI hS (lv_sub hl [0] rfl) h
  have J149 : ∀ (st : St) (H : Heap) (locs : List Loc) (ls : Array Slot), Iv vM G st H → va_S G.2.2.2.1 s.heap H locs → lv_has ls 2 [(0, .ref (G.2.2.1 9 0))] → f9_load_j149 Q st → W p l e (headSpec wsX9_load ({ frames := 7, cells := 0, slots := 0, locals := 159 })).room s m ([.ref (G.2.2.1 9 0)] : List Value).toArray below meth c H locs 0 0 (MQ below (QiM vM G Q) ([.ref (G.2.2.1 9 0)] : List Value).toArray s 0 0 G.2.2.2.1) (F0 m 149 ls []) := by
    intro st H locs ls hI hS hl h
    unfold f9_load_j149 at h
    refine lv_aload_n hx hb dX9_load_149 rfl (lv_at hl 0 rfl) ?_
    refine gg_9_13 hx hb hts in9 hown hK hI hv_this lk_101 dX9_load_150 ?_
    obtain ⟨g42, h⟩ := h
    refine r_if_ne (tgt := 189) hx hb dX9_load_153 (by decide) g42 (fun c43 => ?_) (fun c43 => ?_)
    · replace h := h.2 c43
      exact J189 st  _ _ ls hI hS (lv_sub hl [0] rfl) h
    · replace h := h.1 c43
      refine lv_aload_n hx hb dX9_load_156 rfl (lv_at hl 0 rfl) ?_
      refine gg_9_0 hx hb hts in9 hown hK hI hv_this lk_7 dX9_load_157 ?_
      refine r_iconst (n := 2) hx hb dX9_load_160 ?_
      refine r_iald hx hb hK hI (K := 30) (vrM_9_0 hv_this) rfl (mlen_le _) dX9_load_161 (by decide) (by decide) ?_
      refine r_iconst (n := 2) hx hb dX9_load_162 ?_
      obtain ⟨g44, h⟩ := h
      refine r_icmp_lt (tgt := 183) hx hb dX9_load_163 (by decide) g44 (inI_mk rfl) (fun c45 => ?_) (fun c45 => ?_)
      · replace h := h.1 c45
        exact J183 st  _ _ ls hI hS (lv_sub hl [0] rfl) h
      · replace h := h.2 c45
        refine lv_aload_n hx hb dX9_load_166 rfl (lv_at hl 0 rfl) ?_
        refine gg_9_0 hx hb hts in9 hown hK hI hv_this lk_7 dX9_load_167 ?_
        refine r_iconst (n := 3) hx hb dX9_load_170 ?_
        refine r_iald hx hb hK hI (K := 30) (vrM_9_0 hv_this) rfl (mlen_le _) dX9_load_171 (by decide) (by decide) ?_
        refine lv_aload_n hx hb dX9_load_172 rfl (lv_at hl 0 rfl) ?_
        refine gg_9_0 hx hb hts in9 hown hK hI hv_this lk_7 dX9_load_173 ?_
        refine r_iconst (n := 2) hx hb dX9_load_176 ?_
        refine r_iald hx hb hK hI (K := 30) (vrM_9_0 hv_this) rfl (mlen_le _) dX9_load_177 (by decide) (by decide) ?_
        refine r_iconst (n := 2) hx hb dX9_load_178 ?_
        refine r_isub hx hb dX9_load_179 ?_
        obtain ⟨g46, h⟩ := h
        obtain ⟨g47, h⟩ := h
        refine r_icmp_eq (tgt := 189) hx hb dX9_load_180 (by decide) g46 g47 (fun c48 => ?_) (fun c48 => ?_)
        · replace h := h.1 c48
          exact J189 st  _ _ ls hI hS (lv_sub hl [0] rfl) h
        · replace h := h.2 c48
          exact J183 st  _ _ ls hI hS (lv_sub hl [0] rfl) h
  have L116 : ∀ (n116 : Nat), ∀ (st : St) (v1x116 : Int) (H : Heap) (locs : List Loc) (ls : Array Slot), Iv vM G st H → va_S G.2.2.2.1 s.heap H locs → lv_has ls 2 [(0, .ref (G.2.2.1 9 0)), (1, .int (iI v1x116))] → f9_load_l116 Q n116 st v1x116 → W p l e (headSpec wsX9_load ({ frames := 7, cells := 0, slots := 0, locals := 159 })).room s m ([.ref (G.2.2.1 9 0)] : List Value).toArray below meth c H locs 0 0 (MQ below (QiM vM G Q) ([.ref (G.2.2.1 9 0)] : List Value).toArray s 0 0 G.2.2.2.1) (F0 m 116 ls []) := by
    intro n116
    induction n116 with
    | zero =>
      intro st v1x116 H locs ls hI hS hl h
      exact h.elim
    | succ n116 ih116 =>
      intro st v1x116 H locs ls hI hS hl h
      unfold f9_load_l116 at h
      refine lv_iload_n hx hb dX9_load_116 rfl (lv_at hl 1 rfl) ?_
      obtain ⟨g32, h⟩ := h
      refine r_if_eq (tgt := 128) hx hb dX9_load_117 (by decide) g32 (fun c33 => ?_) (fun c33 => ?_)
      · replace h := h.1 c33
        refine lv_aload_n hx hb dX9_load_128 rfl (lv_at hl 0 rfl) ?_
        refine gg_9_13 hx hb hts in9 hown hK hI hv_this lk_101 dX9_load_129 ?_
        obtain ⟨g34, h⟩ := h
        refine r_if_ne (tgt := 149) hx hb dX9_load_132 (by decide) g34 (fun c35 => ?_) (fun c35 => ?_)
        · replace h := h.2 c35
          exact J149 st  _ _ ls hI hS (lv_sub hl [0] rfl) h
        · replace h := h.1 c35
          refine lv_aload_n hx hb dX9_load_135 rfl (lv_at hl 0 rfl) ?_
          refine gg_9_11 hx hb hts in9 hown hK hI hv_this lk_84 dX9_load_136 ?_
          refine r_iconst (n := 3) hx hb dX9_load_139 ?_
          obtain ⟨g36, h⟩ := h
          refine r_icmp_eq (tgt := 149) hx hb dX9_load_140 (by decide) g36 (inI_mk rfl) (fun c37 => ?_) (fun c37 => ?_)
          · replace h := h.1 c37
            exact J149 st  _ _ ls hI hS (lv_sub hl [0] rfl) h
          · replace h := h.2 c37
            refine lv_aload_n hx hb dX9_load_143 rfl (lv_at hl 0 rfl) ?_
            refine r_bipush (n := (-2)) hx hb dX9_load_144 rfl ?_
            refine r_callv (va_runV (As := [.int (iI (-2))]) (rest := []) ⟨hx, hb, hml, hown, hts⟩ (m9_fails l G hv_this _ st (-2) h) (cwV 1 hts gX9_load_X9_fails rfl rfl rfl hd9_fails ⟨Nat.le_of_ble_eq_true rfl, Nat.le_of_ble_eq_true rfl⟩) (pre_V hK hX hI hA hS hv_this rfl rfl [.int (iI (-2))]) rfl rfl hl.1 rfl (lv_room (Nat.le_of_ble_eq_true rfl)) dX9_load_146 ⟨Nat.le_of_ble_eq_true rfl, Nat.le_of_ble_eq_true rfl⟩) hS (fun st39 h H locs hI hS => ?_)
            exact J149 st39  _ _ ls hI hS (lv_sub hl [0] rfl) h
      · replace h := h.2 c33
        refine lv_aload_n hx hb dX9_load_120 rfl (lv_at hl 0 rfl) ?_
        refine r_calli (va_runV (As := []) (rest := []) ⟨hx, hb, hml, hown, hts⟩ (m9_readsStatement l G hv_this _ st h) (cwV 0 hts gX9_load_X9_readsStatement rfl rfl rfl hd9_readsStatement ⟨Nat.le_of_ble_eq_true rfl, Nat.le_of_ble_eq_true rfl⟩) (pre_V hK hX hI hA hS hv_this rfl rfl []) rfl rfl hl.1 rfl (lv_room (Nat.le_of_ble_eq_true rfl)) dX9_load_121 ⟨Nat.le_of_ble_eq_true rfl, Nat.le_of_ble_eq_true rfl⟩) hS (fun z40 st41 h H locs hI hS => ?_)
        refine lv_istore_n (lv' := [(1, .int (iI z40)), (0, .ref (G.2.2.1 9 0))]) hx hb dX9_load_124 rfl hl (by decide) rfl (fun ls hl => ?_)
        refine lv_goto (tgt := 116) hx hb dX9_load_125 (by decide) ?_
        exact ih116 st41 z40 _ _ ls hI hS (lv_sub hl [1, 0] rfl) h
  have J115 : ∀ (st : St) (s0x115 : Int) (H : Heap) (locs : List Loc) (ls : Array Slot), Iv vM G st H → va_S G.2.2.2.1 s.heap H locs → lv_has ls 2 [(0, .ref (G.2.2.1 9 0))] → f9_load_j115 Q st s0x115 → W p l e (headSpec wsX9_load ({ frames := 7, cells := 0, slots := 0, locals := 159 })).room s m ([.ref (G.2.2.1 9 0)] : List Value).toArray below meth c H locs 0 0 (MQ below (QiM vM G Q) ([.ref (G.2.2.1 9 0)] : List Value).toArray s 0 0 G.2.2.2.1) (F0 m 115 ls [.int (iI s0x115)]) := by
    intro st s0x115 H locs ls hI hS hl h
    unfold f9_load_j115 at h
    refine lv_istore_n (lv' := [(1, .int (iI s0x115)), (0, .ref (G.2.2.1 9 0))]) hx hb dX9_load_115 rfl hl (by decide) rfl (fun ls hl => ?_)
    obtain ⟨kk, h⟩ := h
    exact L116 kk st s0x115 _ _ ls hI hS (lv_sub hl [1, 0] rfl) h
  have L30 : ∀ (n30 : Nat), ∀ (st : St) (v1x30 : Int) (H : Heap) (locs : List Loc) (ls : Array Slot), Iv vM G st H → va_S G.2.2.2.1 s.heap H locs → lv_has ls 2 [(0, .ref (G.2.2.1 9 0)), (1, .int (iI v1x30))] → f9_load_l30 Q n30 st v1x30 → W p l e (headSpec wsX9_load ({ frames := 7, cells := 0, slots := 0, locals := 159 })).room s m ([.ref (G.2.2.1 9 0)] : List Value).toArray below meth c H locs 0 0 (MQ below (QiM vM G Q) ([.ref (G.2.2.1 9 0)] : List Value).toArray s 0 0 G.2.2.2.1) (F0 m 30 ls []) := by
    intro n30
    induction n30 with
    | zero =>
      intro st v1x30 H locs ls hI hS hl h
      exact h.elim
    | succ n30 ih30 =>
      intro st v1x30 H locs ls hI hS hl h
      unfold f9_load_l30 at h
      refine lv_iload_n hx hb dX9_load_30 rfl (lv_at hl 1 rfl) ?_
      refine r_bipush (n := 47) hx hb dX9_load_31 rfl ?_
      obtain ⟨g6, h⟩ := h
      refine r_icmp_ge (tgt := 49) hx hb dX9_load_33 (by decide) g6 (inI_mk rfl) (fun c7 => ?_) (fun c7 => ?_)
      · replace h := h.1 c7
        refine lv_aload_n hx hb dX9_load_49 rfl (lv_at hl 0 rfl) ?_
        refine r_callv (va_runV (As := []) (rest := []) ⟨hx, hb, hml, hown, hts⟩ (m9_next l G hv_this _ st h) (cwV 0 hts gX9_load_X9_next rfl rfl rfl hd9_next ⟨Nat.le_of_ble_eq_true rfl, Nat.le_of_ble_eq_true rfl⟩) (pre_V hK hX hI hA hS hv_this rfl rfl []) rfl rfl hl.1 rfl (lv_room (Nat.le_of_ble_eq_true rfl)) dX9_load_50 ⟨Nat.le_of_ble_eq_true rfl, Nat.le_of_ble_eq_true rfl⟩) hS (fun st9 h H locs hI hS => ?_)
        refine lv_aload_n hx hb dX9_load_53 rfl (lv_at hl 0 rfl) ?_
        refine lv_aload_n hx hb dX9_load_54 rfl (lv_at hl 0 rfl) ?_
        refine va_ldcS hx hb hown (hX.2.2.2.2.2.2.1 ("BeamLinesModel", 183, "beam", 0) (by decide)) dX9_load_55 ?_
        refine r_calli (va_runV (As := [.ref (G.2.2.2.2.1 0)]) (rest := [.ref (G.2.2.1 9 0)]) ⟨hx, hb, hml, hown, hts⟩ (m9_isWord l G 0 hv_this (by decide) _ st9 h) (cwV 1 hts gX9_load_X9_isWord rfl rfl rfl hd9_isWord ⟨Nat.le_of_ble_eq_true rfl, Nat.le_of_ble_eq_true rfl⟩) (pre_V hK hX hI hA hS hv_this rfl rfl [.ref (G.2.2.2.2.1 0)]) rfl rfl hl.1 rfl (lv_room (Nat.le_of_ble_eq_true rfl)) dX9_load_57 ⟨Nat.le_of_ble_eq_true rfl, Nat.le_of_ble_eq_true rfl⟩) hS (fun z10 st11 h H locs hI hS => ?_)
        refine r_callv (va_runV (As := [.int (iI z10)]) (rest := []) ⟨hx, hb, hml, hown, hts⟩ (m9_must l G hv_this _ st11 z10 h) (cwV 1 hts gX9_load_X9_must rfl rfl rfl hd9_must ⟨Nat.le_of_ble_eq_true rfl, Nat.le_of_ble_eq_true rfl⟩) (pre_V hK hX hI hA hS hv_this rfl rfl [.int (iI z10)]) rfl rfl hl.1 rfl (lv_room (Nat.le_of_ble_eq_true rfl)) dX9_load_60 ⟨Nat.le_of_ble_eq_true rfl, Nat.le_of_ble_eq_true rfl⟩) hS (fun st13 h H locs hI hS => ?_)
        refine lv_aload_n hx hb dX9_load_63 rfl (lv_at hl 0 rfl) ?_
        refine gg_9_0 hx hb hts in9 hown hK hI hv_this lk_7 dX9_load_64 ?_
        refine r_iconst (n := 0) hx hb dX9_load_67 ?_
        refine lv_aload_n hx hb dX9_load_68 rfl (lv_at hl 0 rfl) ?_
        refine r_iconst (n := 2) hx hb dX9_load_69 ?_
        refine r_bipush (n := 30) hx hb dX9_load_70 rfl ?_
        refine r_calli (va_runV (As := [.int (iI 2), .int (iI 30)]) (rest := [.int (iI 0), .ref (G.2.2.1 30 0)]) ⟨hx, hb, hml, hown, hts⟩ (m9_takes l G hv_this _ st13 2 30 h) (cwV 2 hts gX9_load_X9_takes rfl rfl rfl hd9_takes ⟨Nat.le_of_ble_eq_true rfl, Nat.le_of_ble_eq_true rfl⟩) (pre_V hK hX hI hA hS hv_this rfl rfl [.int (iI 2), .int (iI 30)]) rfl rfl hl.1 rfl (lv_room (Nat.le_of_ble_eq_true rfl)) dX9_load_72 ⟨Nat.le_of_ble_eq_true rfl, Nat.le_of_ble_eq_true rfl⟩) hS (fun z14 st15 h H locs hI hS => ?_)
        refine r_iast hx hb hK hI hS (K := 30) (vrM_9_0 hv_this) (fun _ => rfl) (mlen_le _) dX9_load_75 (by decide) (by decide) (fun st16 hst16 H locs hI hS => ?_)
        replace h := h st16 hst16
        refine lv_aload_n hx hb dX9_load_76 rfl (lv_at hl 0 rfl) ?_
        refine lv_aload_n hx hb dX9_load_77 rfl (lv_at hl 0 rfl) ?_
        refine va_ldcS hx hb hown (hX.2.2.2.2.2.2.1 ("BeamLinesModel", 185, "most", 1) (by decide)) dX9_load_78 ?_
        refine r_calli (va_runV (As := [.ref (G.2.2.2.2.1 1)]) (rest := [.ref (G.2.2.1 9 0)]) ⟨hx, hb, hml, hown, hts⟩ (m9_isWord l G 1 hv_this (by decide) _ st16 h) (cwV 1 hts gX9_load_X9_isWord rfl rfl rfl hd9_isWord ⟨Nat.le_of_ble_eq_true rfl, Nat.le_of_ble_eq_true rfl⟩) (pre_V hK hX hI hA hS hv_this rfl rfl [.ref (G.2.2.2.2.1 1)]) rfl rfl hl.1 rfl (lv_room (Nat.le_of_ble_eq_true rfl)) dX9_load_80 ⟨Nat.le_of_ble_eq_true rfl, Nat.le_of_ble_eq_true rfl⟩) hS (fun z17 st18 h H locs hI hS => ?_)
        refine r_callv (va_runV (As := [.int (iI z17)]) (rest := []) ⟨hx, hb, hml, hown, hts⟩ (m9_must l G hv_this _ st18 z17 h) (cwV 1 hts gX9_load_X9_must rfl rfl rfl hd9_must ⟨Nat.le_of_ble_eq_true rfl, Nat.le_of_ble_eq_true rfl⟩) (pre_V hK hX hI hA hS hv_this rfl rfl [.int (iI z17)]) rfl rfl hl.1 rfl (lv_room (Nat.le_of_ble_eq_true rfl)) dX9_load_83 ⟨Nat.le_of_ble_eq_true rfl, Nat.le_of_ble_eq_true rfl⟩) hS (fun st20 h H locs hI hS => ?_)
        refine lv_aload_n hx hb dX9_load_86 rfl (lv_at hl 0 rfl) ?_
        refine gg_9_0 hx hb hts in9 hown hK hI hv_this lk_7 dX9_load_87 ?_
        refine r_iconst (n := 1) hx hb dX9_load_90 ?_
        refine lv_aload_n hx hb dX9_load_91 rfl (lv_at hl 0 rfl) ?_
        refine r_iconst (n := 1) hx hb dX9_load_92 ?_
        refine lv_ldc (v := iI 999999) hx hb hown kc_187 dX9_load_93 ?_
        refine r_calli (va_runV (As := [.int (iI 1), .int (iI 999999)]) (rest := [.int (iI 1), .ref (G.2.2.1 30 0)]) ⟨hx, hb, hml, hown, hts⟩ (m9_takes l G hv_this _ st20 1 999999 h) (cwV 2 hts gX9_load_X9_takes rfl rfl rfl hd9_takes ⟨Nat.le_of_ble_eq_true rfl, Nat.le_of_ble_eq_true rfl⟩) (pre_V hK hX hI hA hS hv_this rfl rfl [.int (iI 1), .int (iI 999999)]) rfl rfl hl.1 rfl (lv_room (Nat.le_of_ble_eq_true rfl)) dX9_load_95 ⟨Nat.le_of_ble_eq_true rfl, Nat.le_of_ble_eq_true rfl⟩) hS (fun z21 st22 h H locs hI hS => ?_)
        refine r_iast hx hb hK hI hS (K := 30) (vrM_9_0 hv_this) (fun _ => rfl) (mlen_le _) dX9_load_98 (by decide) (by decide) (fun st23 hst23 H locs hI hS => ?_)
        replace h := h st23 hst23
        refine lv_aload_n hx hb dX9_load_99 rfl (lv_at hl 0 rfl) ?_
        refine r_callv (va_runV (As := []) (rest := []) ⟨hx, hb, hml, hown, hts⟩ (m9_mustEnd l G hv_this _ st23 h) (cwV 0 hts gX9_load_X9_mustEnd rfl rfl rfl hd9_mustEnd ⟨Nat.le_of_ble_eq_true rfl, Nat.le_of_ble_eq_true rfl⟩) (pre_V hK hX hI hA hS hv_this rfl rfl []) rfl rfl hl.1 rfl (lv_room (Nat.le_of_ble_eq_true rfl)) dX9_load_100 ⟨Nat.le_of_ble_eq_true rfl, Nat.le_of_ble_eq_true rfl⟩) hS (fun st25 h H locs hI hS => ?_)
        refine lv_aload_n hx hb dX9_load_103 rfl (lv_at hl 0 rfl) ?_
        refine gg_9_13 hx hb hts in9 hown hK hI hv_this lk_101 dX9_load_104 ?_
        obtain ⟨g26, h⟩ := h
        refine r_if_ne (tgt := 114) hx hb dX9_load_107 (by decide) g26 (fun c27 => ?_) (fun c27 => ?_)
        · replace h := h.2 c27
          refine r_iconst (n := 0) hx hb dX9_load_114 ?_
          exact J115 st25 0 _ _ ls hI hS (lv_sub hl [0] rfl) h
        · replace h := h.1 c27
          refine r_iconst (n := 1) hx hb dX9_load_110 ?_
          refine lv_goto (tgt := 115) hx hb dX9_load_111 (by decide) ?_
          exact J115 st25 1 _ _ ls hI hS (lv_sub hl [0] rfl) h
      · replace h := h.2 c7
        refine lv_aload_n hx hb dX9_load_36 rfl (lv_at hl 0 rfl) ?_
        refine gg_9_0 hx hb hts in9 hown hK hI hv_this lk_7 dX9_load_37 ?_
        refine lv_iload_n hx hb dX9_load_40 rfl (lv_at hl 1 rfl) ?_
        refine r_iconst (n := 0) hx hb dX9_load_41 ?_
        obtain ⟨g28, g29, h⟩ := h
        refine r_iast hx hb hK hI hS (K := 30) (vrM_9_0 hv_this) (fun _ => rfl) (mlen_le _) dX9_load_42 g28 g29 (fun st30 hst30 H locs hI hS => ?_)
        replace h := h st30 hst30
        obtain ⟨x31, hx31⟩ : ∃ z : Int, z = v1x30 + 1 := ⟨_, rfl⟩
        replace h := h x31 hx31
        refine lv_iinc (v := iI x31) (lv' := [(1, .int (iI x31)), (0, .ref (G.2.2.1 9 0))]) hx hb dX9_load_43 hl (k := 1) rfl (by rw [hx31]; exact iI_add _ _) (by decide) rfl (fun ls hl => ?_)
        refine lv_goto (tgt := 30) hx hb dX9_load_46 (by decide) ?_
        exact ih30 st30 x31 _ _ ls hI hS (lv_sub hl [1, 0] rfl) h
  unfold f9_load at h
  refine lv_aload_n hx hb dX9_load_0 rfl (lv_at hl 0 rfl) ?_
  refine r_iconst (n := 0) hx hb dX9_load_1 ?_
  refine pp_9_6 hx hb hts in9 hown hK hI hS hv_this lk_46 dX9_load_2 (fun st1 hst1 H locs hI hS => ?_)
  replace h := h st1 hst1
  refine lv_aload_n hx hb dX9_load_5 rfl (lv_at hl 0 rfl) ?_
  refine r_iconst (n := 0) hx hb dX9_load_6 ?_
  refine pp_9_10 hx hb hts in9 hown hK hI hS hv_this lk_75 dX9_load_7 (fun st2 hst2 H locs hI hS => ?_)
  replace h := h st2 hst2
  refine lv_aload_n hx hb dX9_load_10 rfl (lv_at hl 0 rfl) ?_
  refine r_iconst (n := 0) hx hb dX9_load_11 ?_
  refine pp_9_13 hx hb hts in9 hown hK hI hS hv_this lk_101 dX9_load_12 (fun st3 hst3 H locs hI hS => ?_)
  replace h := h st3 hst3
  refine lv_aload_n hx hb dX9_load_15 rfl (lv_at hl 0 rfl) ?_
  refine gg_9_1 hx hb hts in9 hown hK hI hv_this lk_13 dX9_load_16 ?_
  refine r_iconst (n := 0) hx hb dX9_load_19 ?_
  refine lv_aload_n hx hb dX9_load_20 rfl (lv_at hl 0 rfl) ?_
  refine gg_9_0 hx hb hts in9 hown hK hI hv_this lk_7 dX9_load_21 ?_
  refine r_iconst (n := 0) hx hb dX9_load_24 ?_
  refine r_callv (va_runS (As := [.ref (G.2.2.1 30 1), .int (iI 0), .ref (G.2.2.1 30 0), .int (iI 0)]) (rest := []) ⟨hx, hb, hml, hown, hts⟩ (m9_copies l G 1 0 (vrM_9_1 hv_this) (vrM_9_0 hv_this) _ st3 0 0 h) (va_cwS 4 hts gX9_load_X9_copies rfl rfl rfl hd9_copies ⟨Nat.le_of_ble_eq_true rfl, Nat.le_of_ble_eq_true rfl⟩) (pre_S hK hX hI hA hS [.ref (G.2.2.1 30 1), .int (iI 0), .ref (G.2.2.1 30 0), .int (iI 0)]) rfl rfl hl.1 rfl (lv_room (Nat.le_of_ble_eq_true rfl)) dX9_load_25 ⟨Nat.le_of_ble_eq_true rfl, Nat.le_of_ble_eq_true rfl⟩) hS (fun st5 h H locs hI hS => ?_)
  refine r_iconst (n := 0) hx hb dX9_load_28 ?_
  refine lv_istore_n (lv' := [(1, .int (iI 0)), (0, .ref (G.2.2.1 9 0))]) hx hb dX9_load_29 rfl hl (by decide) rfl (fun ls hl => ?_)
  obtain ⟨kk, h⟩ := h
  exact L30 kk st5 0 _ _ ls hI hS (lv_sub hl [1, 0] rfl) h
theorem hd9_errorPosition : yX9_errorPosition.cls = RX9 ∧ yX9_errorPosition.cls ≠ "java/lang/invoke/MethodHandle" ∧ yX9_errorPosition.cls ≠ "java/lang/invoke/VarHandle" ∧ (parseMethodDescriptor yX9_errorPosition.desc).map (fun d => d.parameters.length) = some 0 := by decide +kernel
set_option maxHeartbeats 4000000 in
set_option maxRecDepth 100000 in
theorem m9_errorPosition (l : Launch) (G : WG)   (hv_this : vM 9 0) (Q : Int → St → Prop) (st : St)  (h : f9_errorPosition Q st) : Met l yX9_errorPosition wsX9_errorPosition ({ frames := 0, cells := 0, slots := 0, locals := 0 }) (PcM vM G st [.ref (G.2.2.1 9 0)]) (QiM vM G Q) 0 0 G.2.2.2.1 := by
  refine Met.ofW (cc := cX9_errorPosition) (maxL := 1) (ret := (some .int)) (by decide) rfl ?_
  intro p e s m args below meth c s₁ B hml hvv
  obtain ⟨rfl, hA, hI, hK, hX⟩ := hvv
  have hx := B.exec
  have hb := B.bytes
  have hr := B.returns
  have hts := atoms_spec (ws := wsX9_errorPosition) B.pre
  have hown : s.vm.findClass RX9 = some m.cls := findClass_of_methodNamed B.named
  have hlocks := B.notSynchronized
  have hS : va_S G.2.2.2.1 s.heap s.heap [] := va_S.rf
  have in9 : ∀ w ∈ wsX90, w ∈ wsX9_errorPosition := by decide +kernel
  have lk_29 := hts (.fieldLink RX9 29 "BeamLinesModel" "errorAt" "I") (by decide +kernel)
  have lk_46 := hts (.fieldLink RX9 46 "BeamLinesModel" "thrown" "I") (by decide +kernel)
  have hl := lv_entry ([.ref (G.2.2.1 9 0)]) (n := 1) (Nat.le_of_ble_eq_true rfl)
  rw [lg_entry_eq]
  generalize (lg_sl ([.ref (G.2.2.1 9 0)]) ++ List.replicate (1 - (lg_sl ([.ref (G.2.2.1 9 0)])).length) Slot.unset).toArray = ls at hl ⊢
  have hl : lv_has ls 1 [(0, .ref (G.2.2.1 9 0))] := hl
  unfold f9_errorPosition at h
  refine lv_aload_n hx hb dX9_errorPosition_0 rfl (lv_at hl 0 rfl) ?_
  refine r_iconst (n := 0) hx hb dX9_errorPosition_1 ?_
  refine pp_9_6 hx hb hts in9 hown hK hI hS hv_this lk_46 dX9_errorPosition_2 (fun st1 hst1 H locs hI hS => ?_)
  replace h := h st1 hst1
  refine lv_aload_n hx hb dX9_errorPosition_5 rfl (lv_at hl 0 rfl) ?_
  refine gg_9_15 hx hb hts in9 hown hK hI hv_this lk_29 dX9_errorPosition_6 ?_
  exact r_iret hx hb hr hlocks hK hI hS (Qp := Q) h dX9_errorPosition_9
theorem hd9_bearsOf : yX9_bearsOf.cls = RX9 ∧ yX9_bearsOf.cls ≠ "java/lang/invoke/MethodHandle" ∧ yX9_bearsOf.cls ≠ "java/lang/invoke/VarHandle" ∧ (parseMethodDescriptor yX9_bearsOf.desc).map (fun d => d.parameters.length) = some 1 := by decide +kernel
set_option maxHeartbeats 4000000 in
set_option maxRecDepth 100000 in
theorem m9_bearsOf (l : Launch) (G : WG)   (hv_this : vM 9 0) (Q : Int → St → Prop) (st : St) (a0 : Int) (h : f9_bearsOf Q st a0) : Met l yX9_bearsOf wsX9_bearsOf ({ frames := 0, cells := 0, slots := 0, locals := 0 }) (PcM vM G st [.ref (G.2.2.1 9 0), .int (iI a0)]) (QiM vM G Q) 0 0 G.2.2.2.1 := by
  refine Met.ofW (cc := cX9_bearsOf) (maxL := 2) (ret := (some .int)) (by decide) rfl ?_
  intro p e s m args below meth c s₁ B hml hvv
  obtain ⟨rfl, hA, hI, hK, hX⟩ := hvv
  have hx := B.exec
  have hb := B.bytes
  have hr := B.returns
  have hts := atoms_spec (ws := wsX9_bearsOf) B.pre
  have hown : s.vm.findClass RX9 = some m.cls := findClass_of_methodNamed B.named
  have hlocks := B.notSynchronized
  have hS : va_S G.2.2.2.1 s.heap s.heap [] := va_S.rf
  have in9 : ∀ w ∈ wsX90, w ∈ wsX9_bearsOf := by decide +kernel
  have lk_7 := hts (.fieldLink RX9 7 "BeamLinesModel" "a" "[I") (by decide +kernel)
  have hl := lv_entry ([.ref (G.2.2.1 9 0), .int (iI a0)]) (n := 2) (Nat.le_of_ble_eq_true rfl)
  rw [lg_entry_eq]
  generalize (lg_sl ([.ref (G.2.2.1 9 0), .int (iI a0)]) ++ List.replicate (2 - (lg_sl ([.ref (G.2.2.1 9 0), .int (iI a0)])).length) Slot.unset).toArray = ls at hl ⊢
  have hl : lv_has ls 2 [(0, .ref (G.2.2.1 9 0)), (1, .int (iI a0))] := hl
  unfold f9_bearsOf at h
  refine lv_aload_n hx hb dX9_bearsOf_0 rfl (lv_at hl 0 rfl) ?_
  refine gg_9_0 hx hb hts in9 hown hK hI hv_this lk_7 dX9_bearsOf_1 ?_
  refine r_bipush (n := 6) hx hb dX9_bearsOf_4 rfl ?_
  refine r_iconst (n := 2) hx hb dX9_bearsOf_6 ?_
  refine lv_iload_n hx hb dX9_bearsOf_7 rfl (lv_at hl 1 rfl) ?_
  refine r_imul hx hb dX9_bearsOf_8 ?_
  refine r_iadd hx hb dX9_bearsOf_9 ?_
  refine r_iconst (n := 1) hx hb dX9_bearsOf_10 ?_
  refine r_iadd hx hb dX9_bearsOf_11 ?_
  obtain ⟨g1, g2, h⟩ := h
  refine r_iald hx hb hK hI (K := 30) (vrM_9_0 hv_this) rfl (mlen_le _) dX9_bearsOf_12 g1 g2 ?_
  exact r_iret hx hb hr hlocks hK hI hS (Qp := Q) h dX9_bearsOf_13
theorem hd9_dropsSupport : yX9_dropsSupport.cls = RX9 ∧ yX9_dropsSupport.cls ≠ "java/lang/invoke/MethodHandle" ∧ yX9_dropsSupport.cls ≠ "java/lang/invoke/VarHandle" ∧ (parseMethodDescriptor yX9_dropsSupport.desc).map (fun d => d.parameters.length) = some 1 := by decide +kernel
set_option maxHeartbeats 4000000 in
set_option maxRecDepth 100000 in
theorem m9_dropsSupport (l : Launch) (G : WG)   (hv_this : vM 9 0) (Q : St → Prop) (st : St) (a0 : Int) (h : f9_dropsSupport Q st a0) : Met l yX9_dropsSupport wsX9_dropsSupport ({ frames := 0, cells := 0, slots := 0, locals := 0 }) (PcM vM G st [.ref (G.2.2.1 9 0), .int (iI a0)]) (QvM vM G Q) 0 0 G.2.2.2.1 := by
  refine Met.ofW (cc := cX9_dropsSupport) (maxL := 3) (ret := none) (by decide) rfl ?_
  intro p e s m args below meth c s₁ B hml hvv
  obtain ⟨rfl, hA, hI, hK, hX⟩ := hvv
  have hx := B.exec
  have hb := B.bytes
  have hr := B.returns
  have hts := atoms_spec (ws := wsX9_dropsSupport) B.pre
  have hown : s.vm.findClass RX9 = some m.cls := findClass_of_methodNamed B.named
  have hlocks := B.notSynchronized
  have hS : va_S G.2.2.2.1 s.heap s.heap [] := va_S.rf
  have in9 : ∀ w ∈ wsX90, w ∈ wsX9_dropsSupport := by decide +kernel
  have lk_7 := hts (.fieldLink RX9 7 "BeamLinesModel" "a" "[I") (by decide +kernel)
  have hl := lv_entry ([.ref (G.2.2.1 9 0), .int (iI a0)]) (n := 3) (Nat.le_of_ble_eq_true rfl)
  rw [lg_entry_eq]
  generalize (lg_sl ([.ref (G.2.2.1 9 0), .int (iI a0)]) ++ List.replicate (3 - (lg_sl ([.ref (G.2.2.1 9 0), .int (iI a0)])).length) Slot.unset).toArray = ls at hl ⊢
  have hl : lv_has ls 3 [(0, .ref (G.2.2.1 9 0)), (1, .int (iI a0))] := hl
  have L17 : ∀ (n17 : Nat), ∀ (st : St) (v2x17 : Int) (H : Heap) (locs : List Loc) (ls : Array Slot), Iv vM G st H → va_S G.2.2.2.1 s.heap H locs → lv_has ls 3 [(0, .ref (G.2.2.1 9 0)), (2, .int (iI v2x17))] → f9_dropsSupport_l17 Q n17 st v2x17 → W p l e (headSpec wsX9_dropsSupport ({ frames := 0, cells := 0, slots := 0, locals := 0 })).room s m ([.ref (G.2.2.1 9 0), .int (iI a0)] : List Value).toArray below meth c H locs 0 0 (MQ below (QvM vM G Q) ([.ref (G.2.2.1 9 0), .int (iI a0)] : List Value).toArray s 0 0 G.2.2.2.1) (F0 m 17 ls []) := by
    intro n17
    induction n17 with
    | zero =>
      intro st v2x17 H locs ls hI hS hl h
      exact h.elim
    | succ n17 ih17 =>
      intro st v2x17 H locs ls hI hS hl h
      unfold f9_dropsSupport_l17 at h
      refine lv_iload_n hx hb dX9_dropsSupport_17 rfl (lv_at hl 1 rfl) ?_
      refine r_bipush (n := 6) hx hb dX9_dropsSupport_18 rfl ?_
      refine r_iconst (n := 2) hx hb dX9_dropsSupport_20 ?_
      refine lv_aload_n hx hb dX9_dropsSupport_21 rfl (lv_at hl 0 rfl) ?_
      refine gg_9_0 hx hb hts in9 hown hK hI hv_this lk_7 dX9_dropsSupport_22 ?_
      refine r_iconst (n := 2) hx hb dX9_dropsSupport_25 ?_
      refine r_iald hx hb hK hI (K := 30) (vrM_9_0 hv_this) rfl (mlen_le _) dX9_dropsSupport_26 (by decide) (by decide) ?_
      refine r_imul hx hb dX9_dropsSupport_27 ?_
      refine r_iadd hx hb dX9_dropsSupport_28 ?_
      obtain ⟨g3, h⟩ := h
      obtain ⟨g4, h⟩ := h
      refine r_icmp_ge (tgt := 52) hx hb dX9_dropsSupport_29 (by decide) g3 g4 (fun c5 => ?_) (fun c5 => ?_)
      · replace h := h.1 c5
        exact r_vret hx hb hr hlocks hK hI hS (Qp := Q) h dX9_dropsSupport_52
      · replace h := h.2 c5
        refine lv_aload_n hx hb dX9_dropsSupport_32 rfl (lv_at hl 0 rfl) ?_
        refine gg_9_0 hx hb hts in9 hown hK hI hv_this lk_7 dX9_dropsSupport_33 ?_
        refine lv_iload_n hx hb dX9_dropsSupport_36 rfl (lv_at hl 1 rfl) ?_
        refine lv_aload_n hx hb dX9_dropsSupport_37 rfl (lv_at hl 0 rfl) ?_
        refine gg_9_0 hx hb hts in9 hown hK hI hv_this lk_7 dX9_dropsSupport_38 ?_
        refine lv_iload_n hx hb dX9_dropsSupport_41 rfl (lv_at hl 1 rfl) ?_
        refine r_iconst (n := 2) hx hb dX9_dropsSupport_42 ?_
        refine r_iadd hx hb dX9_dropsSupport_43 ?_
        obtain ⟨g6, g7, h⟩ := h
        refine r_iald hx hb hK hI (K := 30) (vrM_9_0 hv_this) rfl (mlen_le _) dX9_dropsSupport_44 g6 g7 ?_
        obtain ⟨g8, g9, h⟩ := h
        refine r_iast hx hb hK hI hS (K := 30) (vrM_9_0 hv_this) (fun _ => rfl) (mlen_le _) dX9_dropsSupport_45 g8 g9 (fun st10 hst10 H locs hI hS => ?_)
        replace h := h st10 hst10
        obtain ⟨x11, hx11⟩ : ∃ z : Int, z = v2x17 + 1 := ⟨_, rfl⟩
        replace h := h x11 hx11
        refine lv_iinc (v := iI x11) (lv' := [(2, .int (iI x11)), (0, .ref (G.2.2.1 9 0))]) hx hb dX9_dropsSupport_46 hl (k := 1) rfl (by rw [hx11]; exact iI_add _ _) (by decide) rfl (fun ls hl => ?_)
        refine lv_goto (tgt := 17) hx hb dX9_dropsSupport_49 (by decide) ?_
        exact ih17 st10 x11 _ _ ls hI hS (lv_sub hl [1, 0] rfl) h
  unfold f9_dropsSupport at h
  refine lv_aload_n hx hb dX9_dropsSupport_0 rfl (lv_at hl 0 rfl) ?_
  refine gg_9_0 hx hb hts in9 hown hK hI hv_this lk_7 dX9_dropsSupport_1 ?_
  refine r_iconst (n := 2) hx hb dX9_dropsSupport_4 ?_
  refine lv_dup2_11 hx hb dX9_dropsSupport_5 rfl rfl ?_
  refine r_iald hx hb hK hI (K := 30) (vrM_9_0 hv_this) rfl (mlen_le _) dX9_dropsSupport_6 (by decide) (by decide) ?_
  refine r_iconst (n := 1) hx hb dX9_dropsSupport_7 ?_
  refine r_isub hx hb dX9_dropsSupport_8 ?_
  refine r_iast hx hb hK hI hS (K := 30) (vrM_9_0 hv_this) (fun _ => rfl) (mlen_le _) dX9_dropsSupport_9 (by decide) (by decide) (fun st1 hst1 H locs hI hS => ?_)
  replace h := h st1 hst1
  refine r_bipush (n := 6) hx hb dX9_dropsSupport_10 rfl ?_
  refine r_iconst (n := 2) hx hb dX9_dropsSupport_12 ?_
  refine lv_iload_n hx hb dX9_dropsSupport_13 rfl (lv_at hl 1 rfl) ?_
  refine r_imul hx hb dX9_dropsSupport_14 ?_
  refine r_iadd hx hb dX9_dropsSupport_15 ?_
  refine r_topi (fun x2 hx2 => ?_)
  replace h := h x2 hx2
  refine lv_istore_n (lv' := [(2, .int (iI x2)), (0, .ref (G.2.2.1 9 0)), (1, .int (iI a0))]) hx hb dX9_dropsSupport_16 rfl hl (by decide) rfl (fun ls hl => ?_)
  obtain ⟨kk, h⟩ := h
  exact L17 kk st1 x2 _ _ ls hI hS (lv_sub hl [1, 0] rfl) h
theorem hd9_dropsHinge : yX9_dropsHinge.cls = RX9 ∧ yX9_dropsHinge.cls ≠ "java/lang/invoke/MethodHandle" ∧ yX9_dropsHinge.cls ≠ "java/lang/invoke/VarHandle" ∧ (parseMethodDescriptor yX9_dropsHinge.desc).map (fun d => d.parameters.length) = some 1 := by decide +kernel
set_option maxHeartbeats 4000000 in
set_option maxRecDepth 100000 in
theorem m9_dropsHinge (l : Launch) (G : WG)   (hv_this : vM 9 0) (Q : St → Prop) (st : St) (a0 : Int) (h : f9_dropsHinge Q st a0) : Met l yX9_dropsHinge wsX9_dropsHinge ({ frames := 0, cells := 0, slots := 0, locals := 0 }) (PcM vM G st [.ref (G.2.2.1 9 0), .int (iI a0)]) (QvM vM G Q) 0 0 G.2.2.2.1 := by
  refine Met.ofW (cc := cX9_dropsHinge) (maxL := 3) (ret := none) (by decide) rfl ?_
  intro p e s m args below meth c s₁ B hml hvv
  obtain ⟨rfl, hA, hI, hK, hX⟩ := hvv
  have hx := B.exec
  have hb := B.bytes
  have hr := B.returns
  have hts := atoms_spec (ws := wsX9_dropsHinge) B.pre
  have hown : s.vm.findClass RX9 = some m.cls := findClass_of_methodNamed B.named
  have hlocks := B.notSynchronized
  have hS : va_S G.2.2.2.1 s.heap s.heap [] := va_S.rf
  have in9 : ∀ w ∈ wsX90, w ∈ wsX9_dropsHinge := by decide +kernel
  have lk_7 := hts (.fieldLink RX9 7 "BeamLinesModel" "a" "[I") (by decide +kernel)
  have hl := lv_entry ([.ref (G.2.2.1 9 0), .int (iI a0)]) (n := 3) (Nat.le_of_ble_eq_true rfl)
  rw [lg_entry_eq]
  generalize (lg_sl ([.ref (G.2.2.1 9 0), .int (iI a0)]) ++ List.replicate (3 - (lg_sl ([.ref (G.2.2.1 9 0), .int (iI a0)])).length) Slot.unset).toArray = ls at hl ⊢
  have hl : lv_has ls 3 [(0, .ref (G.2.2.1 9 0)), (1, .int (iI a0))] := hl
  have L12 : ∀ (n12 : Nat), ∀ (st : St) (v2x12 : Int) (H : Heap) (locs : List Loc) (ls : Array Slot), Iv vM G st H → va_S G.2.2.2.1 s.heap H locs → lv_has ls 3 [(0, .ref (G.2.2.1 9 0)), (2, .int (iI v2x12))] → f9_dropsHinge_l12 Q n12 st v2x12 → W p l e (headSpec wsX9_dropsHinge ({ frames := 0, cells := 0, slots := 0, locals := 0 })).room s m ([.ref (G.2.2.1 9 0), .int (iI a0)] : List Value).toArray below meth c H locs 0 0 (MQ below (QvM vM G Q) ([.ref (G.2.2.1 9 0), .int (iI a0)] : List Value).toArray s 0 0 G.2.2.2.1) (F0 m 12 ls []) := by
    intro n12
    induction n12 with
    | zero =>
      intro st v2x12 H locs ls hI hS hl h
      exact h.elim
    | succ n12 ih12 =>
      intro st v2x12 H locs ls hI hS hl h
      unfold f9_dropsHinge_l12 at h
      refine lv_iload_n hx hb dX9_dropsHinge_12 rfl (lv_at hl 1 rfl) ?_
      refine lv_aload_n hx hb dX9_dropsHinge_13 rfl (lv_at hl 0 rfl) ?_
      refine gg_9_0 hx hb hts in9 hown hK hI hv_this lk_7 dX9_dropsHinge_14 ?_
      refine r_iconst (n := 3) hx hb dX9_dropsHinge_17 ?_
      refine r_iald hx hb hK hI (K := 30) (vrM_9_0 hv_this) rfl (mlen_le _) dX9_dropsHinge_18 (by decide) (by decide) ?_
      obtain ⟨g2, h⟩ := h
      obtain ⟨g3, h⟩ := h
      refine r_icmp_ge (tgt := 48) hx hb dX9_dropsHinge_19 (by decide) g2 g3 (fun c4 => ?_) (fun c4 => ?_)
      · replace h := h.1 c4
        exact r_vret hx hb hr hlocks hK hI hS (Qp := Q) h dX9_dropsHinge_48
      · replace h := h.2 c4
        refine lv_aload_n hx hb dX9_dropsHinge_22 rfl (lv_at hl 0 rfl) ?_
        refine gg_9_0 hx hb hts in9 hown hK hI hv_this lk_7 dX9_dropsHinge_23 ?_
        refine r_bipush (n := 16) hx hb dX9_dropsHinge_26 rfl ?_
        refine lv_iload_n hx hb dX9_dropsHinge_28 rfl (lv_at hl 1 rfl) ?_
        refine r_iadd hx hb dX9_dropsHinge_29 ?_
        refine lv_aload_n hx hb dX9_dropsHinge_30 rfl (lv_at hl 0 rfl) ?_
        refine gg_9_0 hx hb hts in9 hown hK hI hv_this lk_7 dX9_dropsHinge_31 ?_
        refine r_bipush (n := 16) hx hb dX9_dropsHinge_34 rfl ?_
        refine lv_iload_n hx hb dX9_dropsHinge_36 rfl (lv_at hl 1 rfl) ?_
        refine r_iadd hx hb dX9_dropsHinge_37 ?_
        refine r_iconst (n := 1) hx hb dX9_dropsHinge_38 ?_
        refine r_iadd hx hb dX9_dropsHinge_39 ?_
        obtain ⟨g5, g6, h⟩ := h
        refine r_iald hx hb hK hI (K := 30) (vrM_9_0 hv_this) rfl (mlen_le _) dX9_dropsHinge_40 g5 g6 ?_
        obtain ⟨g7, g8, h⟩ := h
        refine r_iast hx hb hK hI hS (K := 30) (vrM_9_0 hv_this) (fun _ => rfl) (mlen_le _) dX9_dropsHinge_41 g7 g8 (fun st9 hst9 H locs hI hS => ?_)
        replace h := h st9 hst9
        obtain ⟨x10, hx10⟩ : ∃ z : Int, z = v2x12 + 1 := ⟨_, rfl⟩
        replace h := h x10 hx10
        refine lv_iinc (v := iI x10) (lv' := [(2, .int (iI x10)), (0, .ref (G.2.2.1 9 0))]) hx hb dX9_dropsHinge_42 hl (k := 1) rfl (by rw [hx10]; exact iI_add _ _) (by decide) rfl (fun ls hl => ?_)
        refine lv_goto (tgt := 12) hx hb dX9_dropsHinge_45 (by decide) ?_
        exact ih12 st9 x10 _ _ ls hI hS (lv_sub hl [1, 0] rfl) h
  unfold f9_dropsHinge at h
  refine lv_aload_n hx hb dX9_dropsHinge_0 rfl (lv_at hl 0 rfl) ?_
  refine gg_9_0 hx hb hts in9 hown hK hI hv_this lk_7 dX9_dropsHinge_1 ?_
  refine r_iconst (n := 3) hx hb dX9_dropsHinge_4 ?_
  refine lv_dup2_11 hx hb dX9_dropsHinge_5 rfl rfl ?_
  refine r_iald hx hb hK hI (K := 30) (vrM_9_0 hv_this) rfl (mlen_le _) dX9_dropsHinge_6 (by decide) (by decide) ?_
  refine r_iconst (n := 1) hx hb dX9_dropsHinge_7 ?_
  refine r_isub hx hb dX9_dropsHinge_8 ?_
  refine r_iast hx hb hK hI hS (K := 30) (vrM_9_0 hv_this) (fun _ => rfl) (mlen_le _) dX9_dropsHinge_9 (by decide) (by decide) (fun st1 hst1 H locs hI hS => ?_)
  replace h := h st1 hst1
  refine lv_iload_n hx hb dX9_dropsHinge_10 rfl (lv_at hl 1 rfl) ?_
  refine lv_istore_n (lv' := [(2, .int (iI a0)), (0, .ref (G.2.2.1 9 0)), (1, .int (iI a0))]) hx hb dX9_dropsHinge_11 rfl hl (by decide) rfl (fun ls hl => ?_)
  obtain ⟨kk, h⟩ := h
  exact L12 kk st1 a0 _ _ ls hI hS (lv_sub hl [1, 0] rfl) h
theorem hd9_common : yX9_common.cls ≠ "java/lang/invoke/MethodHandle" ∧ yX9_common.cls ≠ "java/lang/invoke/VarHandle" ∧ (parseMethodDescriptor yX9_common.desc).map (fun d => d.parameters.length) = some 2 := by decide +kernel
set_option maxHeartbeats 4000000 in
set_option maxRecDepth 100000 in
theorem m9_common (l : Launch) (G : WG)    (Q : Int → St → Prop) (st : St) (a0 : Int) (a1 : Int) (h : f9_common Q st a0 a1) : Met l yX9_common wsX9_common ({ frames := 0, cells := 0, slots := 0, locals := 0 }) (PcM vM G st [.long (lI a0), .long (lI a1)]) (QlM vM G Q) 0 0 G.2.2.2.1 := by
  refine Met.ofW (cc := cX9_common) (maxL := 10) (ret := (some .long)) (by decide) rfl ?_
  intro p e s m args below meth c s₁ B hml hvv
  obtain ⟨rfl, hA, hI, hK, hX⟩ := hvv
  have hx := B.exec
  have hb := B.bytes
  have hr := B.returns
  have hts := atoms_spec (ws := wsX9_common) B.pre
  have hown : s.vm.findClass RX9 = some m.cls := findClass_of_methodNamed B.named
  have hlocks := B.notSynchronized
  have hS : va_S G.2.2.2.1 s.heap s.heap [] := va_S.rf
  have hl := lv_entry ([.long (lI a0), .long (lI a1)]) (n := 10) (Nat.le_of_ble_eq_true rfl)
  rw [lg_entry_eq]
  generalize (lg_sl ([.long (lI a0), .long (lI a1)]) ++ List.replicate (10 - (lg_sl ([.long (lI a0), .long (lI a1)])).length) Slot.unset).toArray = ls at hl ⊢
  have hl : lv_has ls 10 [(0, .long (lI a0)), (2, .long (lI a1))] := hl
  have L28 : ∀ (n28 : Nat), ∀ (st : St) (v4x28 : Int) (v6x28 : Int) (H : Heap) (locs : List Loc) (ls : Array Slot), Iv vM G st H → va_S G.2.2.2.1 s.heap H locs → lv_has ls 10 [(4, .long (lI v4x28)), (6, .long (lI v6x28))] → f9_common_l28 Q n28 st v4x28 v6x28 → W p l e (headSpec wsX9_common ({ frames := 0, cells := 0, slots := 0, locals := 0 })).room s m ([.long (lI a0), .long (lI a1)] : List Value).toArray below meth c H locs 0 0 (MQ below (QlM vM G Q) ([.long (lI a0), .long (lI a1)] : List Value).toArray s 0 0 G.2.2.2.1) (F0 m 28 ls []) := by
    intro n28
    induction n28 with
    | zero =>
      intro st v4x28 v6x28 H locs ls hI hS hl h
      exact h.elim
    | succ n28 ih28 =>
      intro st v4x28 v6x28 H locs ls hI hS hl h
      unfold f9_common_l28 at h
      refine lv_lload hx hb dX9_common_28 (lv_at hl 1 rfl) ?_
      refine r_lconst (z := 0) hx hb dX9_common_30 rfl ?_
      obtain ⟨g5, h⟩ := h
      refine r_lcmp_eq (tgt := 53) hx hb dX9_common_31 dX9_common_32 (by decide) g5 (inL_mk rfl) (fun c6 => ?_) (fun c6 => ?_)
      · replace h := h.1 c6
        refine lv_lload hx hb dX9_common_53 (lv_at hl 0 rfl) ?_
        exact r_lret hx hb hr hlocks hK hI hS (Qp := Q) h dX9_common_55
      · replace h := h.2 c6
        refine lv_lload hx hb dX9_common_35 (lv_at hl 0 rfl) ?_
        refine lv_lload hx hb dX9_common_37 (lv_at hl 1 rfl) ?_
        obtain ⟨g7, h⟩ := h
        obtain ⟨g8, h⟩ := h
        obtain ⟨g9, h⟩ := h
        refine r_lrem hx hb dX9_common_39 g7 g8 g9 ?_
        refine r_topl (fun x10 hx10 => ?_)
        replace h := h x10 hx10
        refine lv_lstore (lv' := [(8, .long (lI x10)), (4, .long (lI v4x28)), (6, .long (lI v6x28))]) hx hb dX9_common_40 hl (by decide) rfl (fun ls hl => ?_)
        refine lv_lload hx hb dX9_common_42 (lv_at hl 2 rfl) ?_
        refine lv_lstore (lv' := [(4, .long (lI v6x28)), (8, .long (lI x10)), (6, .long (lI v6x28))]) hx hb dX9_common_44 hl (by decide) rfl (fun ls hl => ?_)
        refine lv_lload hx hb dX9_common_46 (lv_at hl 1 rfl) ?_
        refine lv_lstore (lv' := [(6, .long (lI x10)), (4, .long (lI v6x28)), (8, .long (lI x10))]) hx hb dX9_common_48 hl (by decide) rfl (fun ls hl => ?_)
        refine lv_goto (tgt := 28) hx hb dX9_common_50 (by decide) ?_
        exact ih28 st v6x28 x10 _ _ ls hI hS (lv_sub hl [1, 0] rfl) h
  have J26 : ∀ (st : St) (v4x26 : Int) (s0x26 : Int) (H : Heap) (locs : List Loc) (ls : Array Slot), Iv vM G st H → va_S G.2.2.2.1 s.heap H locs → lv_has ls 10 [(4, .long (lI v4x26))] → f9_common_j26 Q st v4x26 s0x26 → W p l e (headSpec wsX9_common ({ frames := 0, cells := 0, slots := 0, locals := 0 })).room s m ([.long (lI a0), .long (lI a1)] : List Value).toArray below meth c H locs 0 0 (MQ below (QlM vM G Q) ([.long (lI a0), .long (lI a1)] : List Value).toArray s 0 0 G.2.2.2.1) (F0 m 26 ls [.long (lI s0x26)]) := by
    intro st v4x26 s0x26 H locs ls hI hS hl h
    unfold f9_common_j26 at h
    refine lv_lstore (lv' := [(6, .long (lI s0x26)), (4, .long (lI v4x26))]) hx hb dX9_common_26 hl (by decide) rfl (fun ls hl => ?_)
    obtain ⟨kk, h⟩ := h
    exact L28 kk st v4x26 s0x26 _ _ ls hI hS (lv_sub hl [1, 0] rfl) h
  have J12 : ∀ (st : St) (s0x12 : Int) (H : Heap) (locs : List Loc) (ls : Array Slot), Iv vM G st H → va_S G.2.2.2.1 s.heap H locs → lv_has ls 10 [(2, .long (lI a1))] → f9_common_j12 Q a1 st s0x12 → W p l e (headSpec wsX9_common ({ frames := 0, cells := 0, slots := 0, locals := 0 })).room s m ([.long (lI a0), .long (lI a1)] : List Value).toArray below meth c H locs 0 0 (MQ below (QlM vM G Q) ([.long (lI a0), .long (lI a1)] : List Value).toArray s 0 0 G.2.2.2.1) (F0 m 12 ls [.long (lI s0x12)]) := by
    intro st s0x12 H locs ls hI hS hl h
    unfold f9_common_j12 at h
    refine lv_lstore (lv' := [(4, .long (lI s0x12)), (2, .long (lI a1))]) hx hb dX9_common_12 hl (by decide) rfl (fun ls hl => ?_)
    refine lv_lload_n hx hb dX9_common_14 rfl (lv_at hl 1 rfl) ?_
    refine r_lconst (z := 0) hx hb dX9_common_15 rfl ?_
    obtain ⟨g3, h⟩ := h
    refine r_lcmp_ge (tgt := 25) hx hb dX9_common_16 dX9_common_17 (by decide) g3 (inL_mk rfl) (fun c4 => ?_) (fun c4 => ?_)
    · replace h := h.1 c4
      refine lv_lload_n hx hb dX9_common_25 rfl (lv_at hl 1 rfl) ?_
      exact J26 st s0x12 a1 _ _ ls hI hS (lv_sub hl [0] rfl) h
    · replace h := h.2 c4
      refine lv_lload_n hx hb dX9_common_20 rfl (lv_at hl 1 rfl) ?_
      refine r_lneg hx hb dX9_common_21 ?_
      refine lv_goto (tgt := 26) hx hb dX9_common_22 (by decide) ?_
      exact J26 st s0x12 (-a1) _ _ ls hI hS (lv_sub hl [0] rfl) h
  unfold f9_common at h
  refine lv_lload_n hx hb dX9_common_0 rfl (lv_at hl 0 rfl) ?_
  refine r_lconst (z := 0) hx hb dX9_common_1 rfl ?_
  obtain ⟨g1, h⟩ := h
  refine r_lcmp_ge (tgt := 11) hx hb dX9_common_2 dX9_common_3 (by decide) g1 (inL_mk rfl) (fun c2 => ?_) (fun c2 => ?_)
  · replace h := h.1 c2
    refine lv_lload_n hx hb dX9_common_11 rfl (lv_at hl 0 rfl) ?_
    exact J12 st a0 _ _ ls hI hS (lv_sub hl [1] rfl) h
  · replace h := h.2 c2
    refine lv_lload_n hx hb dX9_common_6 rfl (lv_at hl 0 rfl) ?_
    refine r_lneg hx hb dX9_common_7 ?_
    refine lv_goto (tgt := 12) hx hb dX9_common_8 (by decide) ?_
    exact J12 st (-a0) _ _ ls hI hS (lv_sub hl [1] rfl) h
theorem hd9_places : yX9_places.cls = RX9 ∧ yX9_places.cls ≠ "java/lang/invoke/MethodHandle" ∧ yX9_places.cls ≠ "java/lang/invoke/VarHandle" ∧ (parseMethodDescriptor yX9_places.desc).map (fun d => d.parameters.length) = some 0 := by decide +kernel
set_option maxHeartbeats 4000000 in
set_option maxRecDepth 100000 in
theorem m9_places (l : Launch) (G : WG)   (hv_this : vM 9 0) (Q : Int → St → Prop) (st : St)  (h : f9_places Q st) : Met l yX9_places wsX9_places ({ frames := 0, cells := 0, slots := 0, locals := 0 }) (PcM vM G st [.ref (G.2.2.1 9 0)]) (QiM vM G Q) 0 0 G.2.2.2.1 := by
  refine Met.ofW (cc := cX9_places) (maxL := 1) (ret := (some .int)) (by decide) rfl ?_
  intro p e s m args below meth c s₁ B hml hvv
  obtain ⟨rfl, hA, hI, hK, hX⟩ := hvv
  have hx := B.exec
  have hb := B.bytes
  have hr := B.returns
  have hts := atoms_spec (ws := wsX9_places) B.pre
  have hown : s.vm.findClass RX9 = some m.cls := findClass_of_methodNamed B.named
  have hlocks := B.notSynchronized
  have hS : va_S G.2.2.2.1 s.heap s.heap [] := va_S.rf
  have in9 : ∀ w ∈ wsX90, w ∈ wsX9_places := by decide +kernel
  have lk_7 := hts (.fieldLink RX9 7 "BeamLinesModel" "a" "[I") (by decide +kernel)
  have hl := lv_entry ([.ref (G.2.2.1 9 0)]) (n := 1) (Nat.le_of_ble_eq_true rfl)
  rw [lg_entry_eq]
  generalize (lg_sl ([.ref (G.2.2.1 9 0)]) ++ List.replicate (1 - (lg_sl ([.ref (G.2.2.1 9 0)])).length) Slot.unset).toArray = ls at hl ⊢
  have hl : lv_has ls 1 [(0, .ref (G.2.2.1 9 0))] := hl
  unfold f9_places at h
  refine lv_aload_n hx hb dX9_places_0 rfl (lv_at hl 0 rfl) ?_
  refine gg_9_0 hx hb hts in9 hown hK hI hv_this lk_7 dX9_places_1 ?_
  refine r_iconst (n := 0) hx hb dX9_places_4 ?_
  refine r_iald hx hb hK hI (K := 30) (vrM_9_0 hv_this) rfl (mlen_le _) dX9_places_5 (by decide) (by decide) ?_
  refine r_iconst (n := 1) hx hb dX9_places_6 ?_
  refine r_iadd hx hb dX9_places_7 ?_
  exact r_iret hx hb hr hlocks hK hI hS (Qp := Q) h dX9_places_8
theorem hd9_lays : yX9_lays.cls = RX9 ∧ yX9_lays.cls ≠ "java/lang/invoke/MethodHandle" ∧ yX9_lays.cls ≠ "java/lang/invoke/VarHandle" ∧ (parseMethodDescriptor yX9_lays.desc).map (fun d => d.parameters.length) = some 0 := by decide +kernel
set_option maxHeartbeats 4000000 in
set_option maxRecDepth 100000 in
theorem m9_lays (l : Launch) (G : WG)   (hv_this : vM 9 0) (Q : St → Prop) (st : St)  (h : f9_lays Q st) : Met l yX9_lays wsX9_lays ({ frames := 3, cells := 0, slots := 0, locals := 80 }) (PcM vM G st [.ref (G.2.2.1 9 0)]) (QvM vM G Q) 0 0 G.2.2.2.1 := by
  refine Met.ofW (cc := cX9_lays) (maxL := 9) (ret := none) (by decide) rfl ?_
  intro p e s m args below meth c s₁ B hml hvv
  obtain ⟨rfl, hA, hI, hK, hX⟩ := hvv
  have hx := B.exec
  have hb := B.bytes
  have hr := B.returns
  have hts := atoms_spec (ws := wsX9_lays) B.pre
  have hown : s.vm.findClass RX9 = some m.cls := findClass_of_methodNamed B.named
  have hlocks := B.notSynchronized
  have hS : va_S G.2.2.2.1 s.heap s.heap [] := va_S.rf
  have in9 : ∀ w ∈ wsX90, w ∈ wsX9_lays := by decide +kernel
  have lk_7 := hts (.fieldLink RX9 7 "BeamLinesModel" "a" "[I") (by decide +kernel)
  have lk_37 := hts (.fieldLink RX9 37 "BeamLinesModel" "line" "[J") (by decide +kernel)
  have lk_227 := hts (.fieldLink RX9 227 "BeamLinesModel" "unit" "J") (by decide +kernel)
  have hl := lv_entry ([.ref (G.2.2.1 9 0)]) (n := 9) (Nat.le_of_ble_eq_true rfl)
  rw [lg_entry_eq]
  generalize (lg_sl ([.ref (G.2.2.1 9 0)]) ++ List.replicate (9 - (lg_sl ([.ref (G.2.2.1 9 0)])).length) Slot.unset).toArray = ls at hl ⊢
  have hl : lv_has ls 9 [(0, .ref (G.2.2.1 9 0))] := hl
  have L91 : ∀ (v1x91 : Int) (v3x91 : Int) (n91 : Nat), ∀ (st : St) (v5x91 : Int) (H : Heap) (locs : List Loc) (ls : Array Slot), Iv vM G st H → va_S G.2.2.2.1 s.heap H locs → lv_has ls 9 [(0, .ref (G.2.2.1 9 0)), (1, .long (lI v1x91)), (3, .long (lI v3x91)), (5, .int (iI v5x91))] → f9_lays_l91 Q v1x91 v3x91 n91 st v5x91 → W p l e (headSpec wsX9_lays ({ frames := 3, cells := 0, slots := 0, locals := 80 })).room s m ([.ref (G.2.2.1 9 0)] : List Value).toArray below meth c H locs 0 0 (MQ below (QvM vM G Q) ([.ref (G.2.2.1 9 0)] : List Value).toArray s 0 0 G.2.2.2.1) (F0 m 91 ls []) := by
    intro v1x91 v3x91 n91
    induction n91 with
    | zero =>
      intro st v5x91 H locs ls hI hS hl h
      exact h.elim
    | succ n91 ih91 =>
      intro st v5x91 H locs ls hI hS hl h
      unfold f9_lays_l91 at h
      refine lv_iload hx hb dX9_lays_91 (lv_at hl 3 rfl) ?_
      refine r_bipush (n := 31) hx hb dX9_lays_93 rfl ?_
      refine lv_aload_n hx hb dX9_lays_95 rfl (lv_at hl 0 rfl) ?_
      refine gg_9_0 hx hb hts in9 hown hK hI hv_this lk_7 dX9_lays_96 ?_
      refine r_iconst (n := 2) hx hb dX9_lays_99 ?_
      refine r_iald hx hb hK hI (K := 30) (vrM_9_0 hv_this) rfl (mlen_le _) dX9_lays_100 (by decide) (by decide) ?_
      refine r_imul hx hb dX9_lays_101 ?_
      obtain ⟨g23, h⟩ := h
      obtain ⟨g24, h⟩ := h
      refine r_icmp_ge (tgt := 127) hx hb dX9_lays_102 (by decide) g23 g24 (fun c25 => ?_) (fun c25 => ?_)
      · replace h := h.1 c25
        refine lv_aload_n hx hb dX9_lays_127 rfl (lv_at hl 0 rfl) ?_
        refine lv_lload_n hx hb dX9_lays_128 rfl (lv_at hl 1 rfl) ?_
        refine lv_lload_n hx hb dX9_lays_129 rfl (lv_at hl 2 rfl) ?_
        obtain ⟨g26, h⟩ := h
        obtain ⟨g27, h⟩ := h
        obtain ⟨g28, h⟩ := h
        refine r_ldiv hx hb dX9_lays_130 g26 g27 g28 ?_
        refine pp_9_18 hx hb hts in9 hown hK hI hS hv_this lk_227 dX9_lays_131 (fun st29 hst29 H locs hI hS => ?_)
        replace h := h st29 hst29
        exact r_vret hx hb hr hlocks hK hI hS (Qp := Q) h dX9_lays_134
      · replace h := h.2 c25
        refine lv_aload_n hx hb dX9_lays_105 rfl (lv_at hl 0 rfl) ?_
        refine gg_9_17 hx hb hts in9 hown hK hI hv_this lk_37 dX9_lays_106 ?_
        refine lv_iload hx hb dX9_lays_109 (lv_at hl 3 rfl) ?_
        refine lv_aload_n hx hb dX9_lays_111 rfl (lv_at hl 0 rfl) ?_
        refine gg_9_17 hx hb hts in9 hown hK hI hv_this lk_37 dX9_lays_112 ?_
        refine lv_iload hx hb dX9_lays_115 (lv_at hl 3 rfl) ?_
        obtain ⟨g30, g31, h⟩ := h
        refine r_lald hx hb hK hI (K := 37) (vrM_9_17 hv_this) rfl (lts_mk rfl) dX9_lays_117 g30 g31 ?_
        refine lv_lload_n hx hb dX9_lays_118 rfl (lv_at hl 2 rfl) ?_
        obtain ⟨g32, h⟩ := h
        obtain ⟨g33, h⟩ := h
        obtain ⟨g34, h⟩ := h
        refine r_ldiv hx hb dX9_lays_119 g32 g33 g34 ?_
        obtain ⟨g35, g36, h⟩ := h
        refine r_last hx hb hK hI hS (K := 37) (vrM_9_17 hv_this) (fun _ => rfl) (lts_mk rfl) dX9_lays_120 g35 g36 (fun st37 hst37 H locs hI hS => ?_)
        replace h := h st37 hst37
        obtain ⟨x38, hx38⟩ : ∃ z : Int, z = v5x91 + 1 := ⟨_, rfl⟩
        replace h := h x38 hx38
        refine lv_iinc (v := iI x38) (lv' := [(5, .int (iI x38)), (0, .ref (G.2.2.1 9 0)), (1, .long (lI v1x91)), (3, .long (lI v3x91))]) hx hb dX9_lays_121 hl (k := 3) rfl (by rw [hx38]; exact iI_add _ _) (by decide) rfl (fun ls hl => ?_)
        refine lv_goto (tgt := 91) hx hb dX9_lays_124 (by decide) ?_
        exact ih91 st37 x38 _ _ ls hI hS (lv_sub hl [1, 2, 3, 0] rfl) h
  have J88 : ∀ (st : St) (v1x88 : Int) (v3x88 : Int) (H : Heap) (locs : List Loc) (ls : Array Slot), Iv vM G st H → va_S G.2.2.2.1 s.heap H locs → lv_has ls 9 [(0, .ref (G.2.2.1 9 0)), (1, .long (lI v1x88)), (3, .long (lI v3x88))] → f9_lays_j88 Q st v1x88 v3x88 → W p l e (headSpec wsX9_lays ({ frames := 3, cells := 0, slots := 0, locals := 80 })).room s m ([.ref (G.2.2.1 9 0)] : List Value).toArray below meth c H locs 0 0 (MQ below (QvM vM G Q) ([.ref (G.2.2.1 9 0)] : List Value).toArray s 0 0 G.2.2.2.1) (F0 m 88 ls []) := by
    intro st v1x88 v3x88 H locs ls hI hS hl h
    unfold f9_lays_j88 at h
    refine r_iconst (n := 0) hx hb dX9_lays_88 ?_
    refine lv_istore (lv' := [(5, .int (iI 0)), (0, .ref (G.2.2.1 9 0)), (1, .long (lI v1x88)), (3, .long (lI v3x88))]) hx hb dX9_lays_89 hl (by decide) rfl (fun ls hl => ?_)
    obtain ⟨kk, h⟩ := h
    exact L91 v1x88 v3x88 kk st 0 _ _ ls hI hS (lv_sub hl [1, 2, 3, 0] rfl) h
  have L12 : ∀ (v1x12 : Int) (n12 : Nat), ∀ (st : St) (v3x12 : Int) (v5x12 : Int) (H : Heap) (locs : List Loc) (ls : Array Slot), Iv vM G st H → va_S G.2.2.2.1 s.heap H locs → lv_has ls 9 [(0, .ref (G.2.2.1 9 0)), (1, .long (lI v1x12)), (3, .long (lI v3x12)), (5, .int (iI v5x12))] → f9_lays_l12 Q v1x12 n12 st v3x12 v5x12 → W p l e (headSpec wsX9_lays ({ frames := 3, cells := 0, slots := 0, locals := 80 })).room s m ([.ref (G.2.2.1 9 0)] : List Value).toArray below meth c H locs 0 0 (MQ below (QvM vM G Q) ([.ref (G.2.2.1 9 0)] : List Value).toArray s 0 0 G.2.2.2.1) (F0 m 12 ls []) := by
    intro v1x12 n12
    induction n12 with
    | zero =>
      intro st v3x12 v5x12 H locs ls hI hS hl h
      exact h.elim
    | succ n12 ih12 =>
      have L26 : ∀ (v5x26 : Int) (n26 : Nat), ∀ (st : St) (v3x26 : Int) (v6x26 : Int) (H : Heap) (locs : List Loc) (ls : Array Slot), Iv vM G st H → va_S G.2.2.2.1 s.heap H locs → lv_has ls 9 [(0, .ref (G.2.2.1 9 0)), (1, .long (lI v1x12)), (3, .long (lI v3x26)), (5, .int (iI v5x26)), (6, .int (iI v6x26))] → f9_lays_l26 (fun st v3x12 v5x12 => f9_lays_l12 Q v1x12 n12 st v3x12 v5x12) Q v1x12 v5x26 n26 st v3x26 v6x26 → W p l e (headSpec wsX9_lays ({ frames := 3, cells := 0, slots := 0, locals := 80 })).room s m ([.ref (G.2.2.1 9 0)] : List Value).toArray below meth c H locs 0 0 (MQ below (QvM vM G Q) ([.ref (G.2.2.1 9 0)] : List Value).toArray s 0 0 G.2.2.2.1) (F0 m 26 ls []) := by
        intro v5x26 n26
        induction n26 with
        | zero =>
          intro st v3x26 v6x26 H locs ls hI hS hl h
          exact h.elim
        | succ n26 ih26 =>
          intro st v3x26 v6x26 H locs ls hI hS hl h
          unfold f9_lays_l26 at h
          refine lv_iload hx hb dX9_lays_26 (lv_at hl 4 rfl) ?_
          refine lv_aload_n hx hb dX9_lays_28 rfl (lv_at hl 0 rfl) ?_
          refine r_calli (va_runV (As := []) (rest := [.int (iI v6x26)]) ⟨hx, hb, hml, hown, hts⟩ (m9_places l G hv_this _ st h) (cwV 0 hts gX9_lays_X9_places rfl rfl rfl hd9_places ⟨Nat.le_of_ble_eq_true rfl, Nat.le_of_ble_eq_true rfl⟩) (pre_V hK hX hI hA hS hv_this rfl rfl []) rfl rfl hl.1 rfl (lv_room (Nat.le_of_ble_eq_true rfl)) dX9_lays_29 ⟨Nat.le_of_ble_eq_true rfl, Nat.le_of_ble_eq_true rfl⟩) hS (fun z9 st10 h H locs hI hS => ?_)
          obtain ⟨g11, h⟩ := h
          obtain ⟨g12, h⟩ := h
          refine r_icmp_ge (tgt := 73) hx hb dX9_lays_32 (by decide) g11 g12 (fun c13 => ?_) (fun c13 => ?_)
          · replace h := h.1 c13
            obtain ⟨x14, hx14⟩ : ∃ z : Int, z = v5x26 + 1 := ⟨_, rfl⟩
            replace h := h x14 hx14
            refine lv_iinc (v := iI x14) (lv' := [(5, .int (iI x14)), (0, .ref (G.2.2.1 9 0)), (1, .long (lI v1x12)), (3, .long (lI v3x26)), (6, .int (iI v6x26))]) hx hb dX9_lays_73 hl (k := 3) rfl (by rw [hx14]; exact iI_add _ _) (by decide) rfl (fun ls hl => ?_)
            refine lv_goto (tgt := 12) hx hb dX9_lays_76 (by decide) ?_
            exact ih12 st10 v3x26 x14 _ _ ls hI hS (lv_sub hl [1, 2, 3, 0] rfl) h
          · replace h := h.2 c13
            refine lv_aload_n hx hb dX9_lays_35 rfl (lv_at hl 0 rfl) ?_
            refine lv_iload hx hb dX9_lays_36 (lv_at hl 3 rfl) ?_
            refine lv_iload hx hb dX9_lays_38 (lv_at hl 4 rfl) ?_
            refine r_calll (va_runV (As := [.int (iI v5x26), .int (iI v6x26)]) (rest := []) ⟨hx, hb, hml, hown, hts⟩ (m9_reckons l G hv_this _ st10 v5x26 v6x26 h) (cwV 2 hts gX9_lays_X9_reckons rfl rfl rfl hd9_reckons ⟨Nat.le_of_ble_eq_true rfl, Nat.le_of_ble_eq_true rfl⟩) (pre_V hK hX hI hA hS hv_this rfl rfl [.int (iI v5x26), .int (iI v6x26)]) rfl rfl hl.1 rfl (lv_room (Nat.le_of_ble_eq_true rfl)) dX9_lays_40 ⟨Nat.le_of_ble_eq_true rfl, Nat.le_of_ble_eq_true rfl⟩) hS (fun z15 st16 h H locs hI hS => ?_)
            refine lv_lstore (lv' := [(7, .long (lI z15)), (0, .ref (G.2.2.1 9 0)), (1, .long (lI v1x12)), (3, .long (lI v3x26)), (5, .int (iI v5x26)), (6, .int (iI v6x26))]) hx hb dX9_lays_43 hl (by decide) rfl (fun ls hl => ?_)
            refine lv_aload_n hx hb dX9_lays_45 rfl (lv_at hl 1 rfl) ?_
            refine gg_9_17 hx hb hts in9 hown hK hI hv_this lk_37 dX9_lays_46 ?_
            refine r_bipush (n := 31) hx hb dX9_lays_49 rfl ?_
            refine lv_iload hx hb dX9_lays_51 (lv_at hl 4 rfl) ?_
            refine r_imul hx hb dX9_lays_53 ?_
            refine lv_iload hx hb dX9_lays_54 (lv_at hl 5 rfl) ?_
            refine r_iadd hx hb dX9_lays_56 ?_
            refine lv_lload hx hb dX9_lays_57 (lv_at hl 0 rfl) ?_
            obtain ⟨g17, g18, h⟩ := h
            refine r_last hx hb hK hI hS (K := 37) (vrM_9_17 hv_this) (fun _ => rfl) (lts_mk rfl) dX9_lays_59 g17 g18 (fun st19 hst19 H locs hI hS => ?_)
            replace h := h st19 hst19
            refine lv_lload_n hx hb dX9_lays_60 rfl (lv_at hl 3 rfl) ?_
            refine lv_lload hx hb dX9_lays_61 (lv_at hl 0 rfl) ?_
            refine r_calll (va_runS (As := [.long (lI v3x26), .long (lI z15)]) (rest := []) ⟨hx, hb, hml, hown, hts⟩ (m9_common l G _ st19 v3x26 z15 h) (va_cwS 2 hts gX9_lays_X9_common rfl rfl rfl hd9_common ⟨Nat.le_of_ble_eq_true rfl, Nat.le_of_ble_eq_true rfl⟩) (pre_S hK hX hI hA hS [.long (lI v3x26), .long (lI z15)]) rfl rfl hl.1 rfl (lv_room (Nat.le_of_ble_eq_true rfl)) dX9_lays_63 ⟨Nat.le_of_ble_eq_true rfl, Nat.le_of_ble_eq_true rfl⟩) hS (fun z20 st21 h H locs hI hS => ?_)
            refine lv_lstore_n (lv' := [(3, .long (lI z20)), (7, .long (lI z15)), (0, .ref (G.2.2.1 9 0)), (1, .long (lI v1x12)), (5, .int (iI v5x26)), (6, .int (iI v6x26))]) hx hb dX9_lays_66 rfl hl (by decide) rfl (fun ls hl => ?_)
            obtain ⟨x22, hx22⟩ : ∃ z : Int, z = v6x26 + 1 := ⟨_, rfl⟩
            replace h := h x22 hx22
            refine lv_iinc (v := iI x22) (lv' := [(6, .int (iI x22)), (3, .long (lI z20)), (7, .long (lI z15)), (0, .ref (G.2.2.1 9 0)), (1, .long (lI v1x12)), (5, .int (iI v5x26))]) hx hb dX9_lays_67 hl (k := 5) rfl (by rw [hx22]; exact iI_add _ _) (by decide) rfl (fun ls hl => ?_)
            refine lv_goto (tgt := 26) hx hb dX9_lays_70 (by decide) ?_
            exact ih26 st21 z20 x22 _ _ ls hI hS (lv_sub hl [3, 4, 1, 5, 0] rfl) h
      intro st v3x12 v5x12 H locs ls hI hS hl h
      unfold f9_lays_l12 at h
      refine lv_iload hx hb dX9_lays_12 (lv_at hl 3 rfl) ?_
      refine lv_aload_n hx hb dX9_lays_14 rfl (lv_at hl 0 rfl) ?_
      refine gg_9_0 hx hb hts in9 hown hK hI hv_this lk_7 dX9_lays_15 ?_
      refine r_iconst (n := 2) hx hb dX9_lays_18 ?_
      refine r_iald hx hb hK hI (K := 30) (vrM_9_0 hv_this) rfl (mlen_le _) dX9_lays_19 (by decide) (by decide) ?_
      obtain ⟨g3, h⟩ := h
      obtain ⟨g4, h⟩ := h
      refine r_icmp_ge (tgt := 79) hx hb dX9_lays_20 (by decide) g3 g4 (fun c5 => ?_) (fun c5 => ?_)
      · replace h := h.1 c5
        refine lv_lload_n hx hb dX9_lays_79 rfl (lv_at hl 1 rfl) ?_
        refine r_lconst (z := 0) hx hb dX9_lays_80 rfl ?_
        obtain ⟨g6, h⟩ := h
        refine r_lcmp_ge (tgt := 88) hx hb dX9_lays_81 dX9_lays_82 (by decide) g6 (inL_mk rfl) (fun c7 => ?_) (fun c7 => ?_)
        · replace h := h.1 c7
          exact J88 st v1x12 v3x12 _ _ ls hI hS (lv_sub hl [0, 1, 2] rfl) h
        · replace h := h.2 c7
          refine lv_lload_n hx hb dX9_lays_85 rfl (lv_at hl 2 rfl) ?_
          refine r_lneg hx hb dX9_lays_86 ?_
          refine r_topl (fun x8 hx8 => ?_)
          replace h := h x8 hx8
          refine lv_lstore_n (lv' := [(3, .long (lI x8)), (0, .ref (G.2.2.1 9 0)), (1, .long (lI v1x12)), (5, .int (iI v5x12))]) hx hb dX9_lays_87 rfl hl (by decide) rfl (fun ls hl => ?_)
          exact J88 st v1x12 x8 _ _ ls hI hS (lv_sub hl [1, 2, 0] rfl) h
      · replace h := h.2 c5
        refine r_iconst (n := 0) hx hb dX9_lays_23 ?_
        refine lv_istore (lv' := [(6, .int (iI 0)), (0, .ref (G.2.2.1 9 0)), (1, .long (lI v1x12)), (3, .long (lI v3x12)), (5, .int (iI v5x12))]) hx hb dX9_lays_24 hl (by decide) rfl (fun ls hl => ?_)
        obtain ⟨kk, h⟩ := h
        exact L26 v5x12 kk st v3x12 0 _ _ ls hI hS (lv_sub hl [1, 2, 3, 4, 0] rfl) h
  unfold f9_lays at h
  refine lv_aload_n hx hb dX9_lays_0 rfl (lv_at hl 0 rfl) ?_
  refine r_iconst (n := (-1)) hx hb dX9_lays_1 ?_
  refine r_iconst (n := 0) hx hb dX9_lays_2 ?_
  refine r_calll (va_runV (As := [.int (iI (-1)), .int (iI 0)]) (rest := []) ⟨hx, hb, hml, hown, hts⟩ (m9_reckons l G hv_this _ st (-1) 0 h) (cwV 2 hts gX9_lays_X9_reckons rfl rfl rfl hd9_reckons ⟨Nat.le_of_ble_eq_true rfl, Nat.le_of_ble_eq_true rfl⟩) (pre_V hK hX hI hA hS hv_this rfl rfl [.int (iI (-1)), .int (iI 0)]) rfl rfl hl.1 rfl (lv_room (Nat.le_of_ble_eq_true rfl)) dX9_lays_3 ⟨Nat.le_of_ble_eq_true rfl, Nat.le_of_ble_eq_true rfl⟩) hS (fun z1 st2 h H locs hI hS => ?_)
  refine lv_lstore_n (lv' := [(1, .long (lI z1)), (0, .ref (G.2.2.1 9 0))]) hx hb dX9_lays_6 rfl hl (by decide) rfl (fun ls hl => ?_)
  refine lv_lload_n hx hb dX9_lays_7 rfl (lv_at hl 0 rfl) ?_
  refine lv_lstore_n (lv' := [(3, .long (lI z1)), (1, .long (lI z1)), (0, .ref (G.2.2.1 9 0))]) hx hb dX9_lays_8 rfl hl (by decide) rfl (fun ls hl => ?_)
  refine r_iconst (n := 0) hx hb dX9_lays_9 ?_
  refine lv_istore (lv' := [(5, .int (iI 0)), (3, .long (lI z1)), (1, .long (lI z1)), (0, .ref (G.2.2.1 9 0))]) hx hb dX9_lays_10 hl (by decide) rfl (fun ls hl => ?_)
  obtain ⟨kk, h⟩ := h
  exact L12 z1 kk st2 z1 0 _ _ ls hI hS (lv_sub hl [3, 2, 1, 0] rfl) h
theorem hd9_reactionBy : yX9_reactionBy.cls = RX9 ∧ yX9_reactionBy.cls ≠ "java/lang/invoke/MethodHandle" ∧ yX9_reactionBy.cls ≠ "java/lang/invoke/VarHandle" ∧ (parseMethodDescriptor yX9_reactionBy.desc).map (fun d => d.parameters.length) = some 2 := by decide +kernel
set_option maxHeartbeats 4000000 in
set_option maxRecDepth 100000 in
theorem m9_reactionBy (l : Launch) (G : WG)   (hv_this : vM 9 0) (Q : Int → St → Prop) (st : St) (a0 : Int) (a1 : Int) (h : f9_reactionBy Q st a0 a1) : Met l yX9_reactionBy wsX9_reactionBy ({ frames := 0, cells := 0, slots := 0, locals := 0 }) (PcM vM G st [.ref (G.2.2.1 9 0), .int (iI a0), .int (iI a1)]) (QlM vM G Q) 0 0 G.2.2.2.1 := by
  refine Met.ofW (cc := cX9_reactionBy) (maxL := 3) (ret := (some .long)) (by decide) rfl ?_
  intro p e s m args below meth c s₁ B hml hvv
  obtain ⟨rfl, hA, hI, hK, hX⟩ := hvv
  have hx := B.exec
  have hb := B.bytes
  have hr := B.returns
  have hts := atoms_spec (ws := wsX9_reactionBy) B.pre
  have hown : s.vm.findClass RX9 = some m.cls := findClass_of_methodNamed B.named
  have hlocks := B.notSynchronized
  have hS : va_S G.2.2.2.1 s.heap s.heap [] := va_S.rf
  have in9 : ∀ w ∈ wsX90, w ∈ wsX9_reactionBy := by decide +kernel
  have lk_37 := hts (.fieldLink RX9 37 "BeamLinesModel" "line" "[J") (by decide +kernel)
  have hl := lv_entry ([.ref (G.2.2.1 9 0), .int (iI a0), .int (iI a1)]) (n := 3) (Nat.le_of_ble_eq_true rfl)
  rw [lg_entry_eq]
  generalize (lg_sl ([.ref (G.2.2.1 9 0), .int (iI a0), .int (iI a1)]) ++ List.replicate (3 - (lg_sl ([.ref (G.2.2.1 9 0), .int (iI a0), .int (iI a1)])).length) Slot.unset).toArray = ls at hl ⊢
  have hl : lv_has ls 3 [(0, .ref (G.2.2.1 9 0)), (1, .int (iI a0)), (2, .int (iI a1))] := hl
  unfold f9_reactionBy at h
  refine lv_aload_n hx hb dX9_reactionBy_0 rfl (lv_at hl 0 rfl) ?_
  refine gg_9_17 hx hb hts in9 hown hK hI hv_this lk_37 dX9_reactionBy_1 ?_
  refine r_bipush (n := 31) hx hb dX9_reactionBy_4 rfl ?_
  refine lv_iload_n hx hb dX9_reactionBy_6 rfl (lv_at hl 1 rfl) ?_
  refine r_imul hx hb dX9_reactionBy_7 ?_
  refine lv_iload_n hx hb dX9_reactionBy_8 rfl (lv_at hl 2 rfl) ?_
  refine r_iadd hx hb dX9_reactionBy_9 ?_
  obtain ⟨g1, g2, h⟩ := h
  refine r_lald hx hb hK hI (K := 37) (vrM_9_17 hv_this) rfl (lts_mk rfl) dX9_reactionBy_10 g1 g2 ?_
  exact r_lret hx hb hr hlocks hK hI hS (Qp := Q) h dX9_reactionBy_11
theorem hd9_shearBy : yX9_shearBy.cls = RX9 ∧ yX9_shearBy.cls ≠ "java/lang/invoke/MethodHandle" ∧ yX9_shearBy.cls ≠ "java/lang/invoke/VarHandle" ∧ (parseMethodDescriptor yX9_shearBy.desc).map (fun d => d.parameters.length) = some 2 := by decide +kernel
set_option maxHeartbeats 4000000 in
set_option maxRecDepth 100000 in
theorem m9_shearBy (l : Launch) (G : WG)   (hv_this : vM 9 0) (Q : Int → St → Prop) (st : St) (a0 : Int) (a1 : Int) (h : f9_shearBy Q st a0 a1) : Met l yX9_shearBy wsX9_shearBy ({ frames := 1, cells := 0, slots := 0, locals := 22 }) (PcM vM G st [.ref (G.2.2.1 9 0), .int (iI a0), .int (iI a1)]) (QlM vM G Q) 0 0 G.2.2.2.1 := by
  refine Met.ofW (cc := cX9_shearBy) (maxL := 6) (ret := (some .long)) (by decide) rfl ?_
  intro p e s m args below meth c s₁ B hml hvv
  obtain ⟨rfl, hA, hI, hK, hX⟩ := hvv
  have hx := B.exec
  have hb := B.bytes
  have hr := B.returns
  have hts := atoms_spec (ws := wsX9_shearBy) B.pre
  have hown : s.vm.findClass RX9 = some m.cls := findClass_of_methodNamed B.named
  have hlocks := B.notSynchronized
  have hS : va_S G.2.2.2.1 s.heap s.heap [] := va_S.rf
  have in9 : ∀ w ∈ wsX90, w ∈ wsX9_shearBy := by decide +kernel
  have lk_7 := hts (.fieldLink RX9 7 "BeamLinesModel" "a" "[I") (by decide +kernel)
  have lk_227 := hts (.fieldLink RX9 227 "BeamLinesModel" "unit" "J") (by decide +kernel)
  have hl := lv_entry ([.ref (G.2.2.1 9 0), .int (iI a0), .int (iI a1)]) (n := 6) (Nat.le_of_ble_eq_true rfl)
  rw [lg_entry_eq]
  generalize (lg_sl ([.ref (G.2.2.1 9 0), .int (iI a0), .int (iI a1)]) ++ List.replicate (6 - (lg_sl ([.ref (G.2.2.1 9 0), .int (iI a0), .int (iI a1)])).length) Slot.unset).toArray = ls at hl ⊢
  have hl : lv_has ls 6 [(0, .ref (G.2.2.1 9 0)), (1, .int (iI a0)), (2, .int (iI a1))] := hl
  have L18 : ∀ (n18 : Nat), ∀ (st : St) (v3x18 : Int) (v5x18 : Int) (H : Heap) (locs : List Loc) (ls : Array Slot), Iv vM G st H → va_S G.2.2.2.1 s.heap H locs → lv_has ls 6 [(0, .ref (G.2.2.1 9 0)), (1, .int (iI a0)), (2, .int (iI a1)), (3, .long (lI v3x18)), (5, .int (iI v5x18))] → f9_shearBy_l18 Q a0 a1 n18 st v3x18 v5x18 → W p l e (headSpec wsX9_shearBy ({ frames := 1, cells := 0, slots := 0, locals := 22 })).room s m ([.ref (G.2.2.1 9 0), .int (iI a0), .int (iI a1)] : List Value).toArray below meth c H locs 0 0 (MQ below (QlM vM G Q) ([.ref (G.2.2.1 9 0), .int (iI a0), .int (iI a1)] : List Value).toArray s 0 0 G.2.2.2.1) (F0 m 18 ls []) := by
    intro n18
    induction n18 with
    | zero =>
      intro st v3x18 v5x18 H locs ls hI hS hl h
      exact h.elim
    | succ n18 ih18 =>
      have J51 : ∀ (st : St) (v5x51 : Int) (s0x51 : Int) (s1x51 : Int) (H : Heap) (locs : List Loc) (ls : Array Slot), Iv vM G st H → va_S G.2.2.2.1 s.heap H locs → lv_has ls 6 [(0, .ref (G.2.2.1 9 0)), (1, .int (iI a0)), (2, .int (iI a1)), (5, .int (iI v5x51))] → f9_shearBy_j51 (fun st v3x18 v5x18 => f9_shearBy_l18 Q a0 a1 n18 st v3x18 v5x18) Q a0 a1 st v5x51 s0x51 s1x51 → W p l e (headSpec wsX9_shearBy ({ frames := 1, cells := 0, slots := 0, locals := 22 })).room s m ([.ref (G.2.2.1 9 0), .int (iI a0), .int (iI a1)] : List Value).toArray below meth c H locs 0 0 (MQ below (QlM vM G Q) ([.ref (G.2.2.1 9 0), .int (iI a0), .int (iI a1)] : List Value).toArray s 0 0 G.2.2.2.1) (F0 m 51 ls [.long (lI s0x51), .long (lI s1x51)]) := by
        intro st v5x51 s0x51 s1x51 H locs ls hI hS hl h
        unfold f9_shearBy_j51 at h
        refine r_ladd hx hb dX9_shearBy_51 ?_
        refine r_topl (fun x14 hx14 => ?_)
        replace h := h x14 hx14
        refine lv_lstore_n (lv' := [(3, .long (lI x14)), (0, .ref (G.2.2.1 9 0)), (1, .int (iI a0)), (2, .int (iI a1)), (5, .int (iI v5x51))]) hx hb dX9_shearBy_52 rfl hl (by decide) rfl (fun ls hl => ?_)
        obtain ⟨x15, hx15⟩ : ∃ z : Int, z = v5x51 + 1 := ⟨_, rfl⟩
        replace h := h x15 hx15
        refine lv_iinc (v := iI x15) (lv' := [(5, .int (iI x15)), (3, .long (lI x14)), (0, .ref (G.2.2.1 9 0)), (1, .int (iI a0)), (2, .int (iI a1))]) hx hb dX9_shearBy_53 hl (k := 4) rfl (by rw [hx15]; exact iI_add _ _) (by decide) rfl (fun ls hl => ?_)
        refine lv_goto (tgt := 18) hx hb dX9_shearBy_56 (by decide) ?_
        exact ih18 st x14 x15 _ _ ls hI hS (lv_sub hl [2, 3, 4, 1, 0] rfl) h
      intro st v3x18 v5x18 H locs ls hI hS hl h
      unfold f9_shearBy_l18 at h
      refine lv_iload hx hb dX9_shearBy_18 (lv_at hl 4 rfl) ?_
      refine lv_aload_n hx hb dX9_shearBy_20 rfl (lv_at hl 0 rfl) ?_
      refine gg_9_0 hx hb hts in9 hown hK hI hv_this lk_7 dX9_shearBy_21 ?_
      refine r_iconst (n := 2) hx hb dX9_shearBy_24 ?_
      refine r_iald hx hb hK hI (K := 30) (vrM_9_0 hv_this) rfl (mlen_le _) dX9_shearBy_25 (by decide) (by decide) ?_
      obtain ⟨g4, h⟩ := h
      obtain ⟨g5, h⟩ := h
      refine r_icmp_ge (tgt := 59) hx hb dX9_shearBy_26 (by decide) g4 g5 (fun c6 => ?_) (fun c6 => ?_)
      · replace h := h.1 c6
        refine lv_lload_n hx hb dX9_shearBy_59 rfl (lv_at hl 3 rfl) ?_
        exact r_lret hx hb hr hlocks hK hI hS (Qp := Q) h dX9_shearBy_60
      · replace h := h.2 c6
        refine lv_lload_n hx hb dX9_shearBy_29 rfl (lv_at hl 3 rfl) ?_
        refine lv_aload_n hx hb dX9_shearBy_30 rfl (lv_at hl 0 rfl) ?_
        refine lv_iload hx hb dX9_shearBy_31 (lv_at hl 4 rfl) ?_
        refine r_calli (va_runV (As := [.int (iI v5x18)]) (rest := [.long (lI v3x18)]) ⟨hx, hb, hml, hown, hts⟩ (m9_placeOf l G hv_this _ st v5x18 h) (cwV 1 hts gX9_shearBy_X9_placeOf rfl rfl rfl hd9_placeOf ⟨Nat.le_of_ble_eq_true rfl, Nat.le_of_ble_eq_true rfl⟩) (pre_V hK hX hI hA hS hv_this rfl rfl [.int (iI v5x18)]) rfl rfl hl.1 rfl (lv_room (Nat.le_of_ble_eq_true rfl)) dX9_shearBy_33 ⟨Nat.le_of_ble_eq_true rfl, Nat.le_of_ble_eq_true rfl⟩) hS (fun z7 st8 h H locs hI hS => ?_)
        refine lv_iload_n hx hb dX9_shearBy_36 rfl (lv_at hl 1 rfl) ?_
        obtain ⟨g9, h⟩ := h
        obtain ⟨g10, h⟩ := h
        refine r_icmp_gt (tgt := 50) hx hb dX9_shearBy_37 (by decide) g9 g10 (fun c11 => ?_) (fun c11 => ?_)
        · replace h := h.1 c11
          refine r_lconst (z := 0) hx hb dX9_shearBy_50 rfl ?_
          exact J51 st8 v5x18 0 v3x18 _ _ ls hI hS (lv_sub hl [0, 1, 2, 4] rfl) h
        · replace h := h.2 c11
          refine lv_aload_n hx hb dX9_shearBy_40 rfl (lv_at hl 0 rfl) ?_
          refine lv_iload hx hb dX9_shearBy_41 (lv_at hl 4 rfl) ?_
          refine lv_iload_n hx hb dX9_shearBy_43 rfl (lv_at hl 2 rfl) ?_
          refine r_calll (va_runV (As := [.int (iI v5x18), .int (iI a1)]) (rest := [.long (lI v3x18)]) ⟨hx, hb, hml, hown, hts⟩ (m9_reactionBy l G hv_this _ st8 v5x18 a1 h) (cwV 2 hts gX9_shearBy_X9_reactionBy rfl rfl rfl hd9_reactionBy ⟨Nat.le_of_ble_eq_true rfl, Nat.le_of_ble_eq_true rfl⟩) (pre_V hK hX hI hA hS hv_this rfl rfl [.int (iI v5x18), .int (iI a1)]) rfl rfl hl.1 rfl (lv_room (Nat.le_of_ble_eq_true rfl)) dX9_shearBy_44 ⟨Nat.le_of_ble_eq_true rfl, Nat.le_of_ble_eq_true rfl⟩) hS (fun z12 st13 h H locs hI hS => ?_)
          refine lv_goto (tgt := 51) hx hb dX9_shearBy_47 (by decide) ?_
          exact J51 st13 v5x18 z12 v3x18 _ _ ls hI hS (lv_sub hl [0, 1, 2, 4] rfl) h
  have J14 : ∀ (st : St) (s0x14 : Int) (H : Heap) (locs : List Loc) (ls : Array Slot), Iv vM G st H → va_S G.2.2.2.1 s.heap H locs → lv_has ls 6 [(0, .ref (G.2.2.1 9 0)), (1, .int (iI a0)), (2, .int (iI a1))] → f9_shearBy_j14 Q a0 a1 st s0x14 → W p l e (headSpec wsX9_shearBy ({ frames := 1, cells := 0, slots := 0, locals := 22 })).room s m ([.ref (G.2.2.1 9 0), .int (iI a0), .int (iI a1)] : List Value).toArray below meth c H locs 0 0 (MQ below (QlM vM G Q) ([.ref (G.2.2.1 9 0), .int (iI a0), .int (iI a1)] : List Value).toArray s 0 0 G.2.2.2.1) (F0 m 14 ls [.long (lI s0x14)]) := by
    intro st s0x14 H locs ls hI hS hl h
    unfold f9_shearBy_j14 at h
    refine lv_lstore_n (lv' := [(3, .long (lI s0x14)), (0, .ref (G.2.2.1 9 0)), (1, .int (iI a0)), (2, .int (iI a1))]) hx hb dX9_shearBy_14 rfl hl (by decide) rfl (fun ls hl => ?_)
    refine r_iconst (n := 0) hx hb dX9_shearBy_15 ?_
    refine lv_istore (lv' := [(5, .int (iI 0)), (3, .long (lI s0x14)), (0, .ref (G.2.2.1 9 0)), (1, .int (iI a0)), (2, .int (iI a1))]) hx hb dX9_shearBy_16 hl (by decide) rfl (fun ls hl => ?_)
    obtain ⟨kk, h⟩ := h
    exact L18 kk st s0x14 0 _ _ ls hI hS (lv_sub hl [2, 3, 4, 1, 0] rfl) h
  unfold f9_shearBy at h
  refine lv_iload_n hx hb dX9_shearBy_0 rfl (lv_at hl 2 rfl) ?_
  refine lv_iload_n hx hb dX9_shearBy_1 rfl (lv_at hl 1 rfl) ?_
  obtain ⟨g1, h⟩ := h
  obtain ⟨g2, h⟩ := h
  refine r_icmp_gt (tgt := 13) hx hb dX9_shearBy_2 (by decide) g1 g2 (fun c3 => ?_) (fun c3 => ?_)
  · replace h := h.1 c3
    refine r_lconst (z := 0) hx hb dX9_shearBy_13 rfl ?_
    exact J14 st 0 _ _ ls hI hS (lv_sub hl [0, 1, 2] rfl) h
  · replace h := h.2 c3
    refine lv_aload_n hx hb dX9_shearBy_5 rfl (lv_at hl 0 rfl) ?_
    refine gg_9_18 hx hb hts in9 hown hK hI hv_this lk_227 dX9_shearBy_6 ?_
    refine r_lneg hx hb dX9_shearBy_9 ?_
    refine lv_goto (tgt := 14) hx hb dX9_shearBy_10 (by decide) ?_
    exact J14 st (-(st 9 18 0 0)) _ _ ls hI hS (lv_sub hl [0, 1, 2] rfl) h
theorem hd9_momentBy : yX9_momentBy.cls = RX9 ∧ yX9_momentBy.cls ≠ "java/lang/invoke/MethodHandle" ∧ yX9_momentBy.cls ≠ "java/lang/invoke/VarHandle" ∧ (parseMethodDescriptor yX9_momentBy.desc).map (fun d => d.parameters.length) = some 2 := by decide +kernel
set_option maxHeartbeats 4000000 in
set_option maxRecDepth 100000 in
theorem m9_momentBy (l : Launch) (G : WG)   (hv_this : vM 9 0) (Q : Int → St → Prop) (st : St) (a0 : Int) (a1 : Int) (h : f9_momentBy Q st a0 a1) : Met l yX9_momentBy wsX9_momentBy ({ frames := 1, cells := 0, slots := 0, locals := 22 }) (PcM vM G st [.ref (G.2.2.1 9 0), .int (iI a0), .int (iI a1)]) (QlM vM G Q) 0 0 G.2.2.2.1 := by
  refine Met.ofW (cc := cX9_momentBy) (maxL := 6) (ret := (some .long)) (by decide) rfl ?_
  intro p e s m args below meth c s₁ B hml hvv
  obtain ⟨rfl, hA, hI, hK, hX⟩ := hvv
  have hx := B.exec
  have hb := B.bytes
  have hr := B.returns
  have hts := atoms_spec (ws := wsX9_momentBy) B.pre
  have hown : s.vm.findClass RX9 = some m.cls := findClass_of_methodNamed B.named
  have hlocks := B.notSynchronized
  have hS : va_S G.2.2.2.1 s.heap s.heap [] := va_S.rf
  have in9 : ∀ w ∈ wsX90, w ∈ wsX9_momentBy := by decide +kernel
  have lk_7 := hts (.fieldLink RX9 7 "BeamLinesModel" "a" "[I") (by decide +kernel)
  have lk_227 := hts (.fieldLink RX9 227 "BeamLinesModel" "unit" "J") (by decide +kernel)
  have hl := lv_entry ([.ref (G.2.2.1 9 0), .int (iI a0), .int (iI a1)]) (n := 6) (Nat.le_of_ble_eq_true rfl)
  rw [lg_entry_eq]
  generalize (lg_sl ([.ref (G.2.2.1 9 0), .int (iI a0), .int (iI a1)]) ++ List.replicate (6 - (lg_sl ([.ref (G.2.2.1 9 0), .int (iI a0), .int (iI a1)])).length) Slot.unset).toArray = ls at hl ⊢
  have hl : lv_has ls 6 [(0, .ref (G.2.2.1 9 0)), (1, .int (iI a0)), (2, .int (iI a1))] := hl
  have L23 : ∀ (n23 : Nat), ∀ (st : St) (v3x23 : Int) (v5x23 : Int) (H : Heap) (locs : List Loc) (ls : Array Slot), Iv vM G st H → va_S G.2.2.2.1 s.heap H locs → lv_has ls 6 [(0, .ref (G.2.2.1 9 0)), (1, .int (iI a0)), (2, .int (iI a1)), (3, .long (lI v3x23)), (5, .int (iI v5x23))] → f9_momentBy_l23 Q a0 a1 n23 st v3x23 v5x23 → W p l e (headSpec wsX9_momentBy ({ frames := 1, cells := 0, slots := 0, locals := 22 })).room s m ([.ref (G.2.2.1 9 0), .int (iI a0), .int (iI a1)] : List Value).toArray below meth c H locs 0 0 (MQ below (QlM vM G Q) ([.ref (G.2.2.1 9 0), .int (iI a0), .int (iI a1)] : List Value).toArray s 0 0 G.2.2.2.1) (F0 m 23 ls []) := by
    intro n23
    induction n23 with
    | zero =>
      intro st v3x23 v5x23 H locs ls hI hS hl h
      exact h.elim
    | succ n23 ih23 =>
      have J66 : ∀ (st : St) (v5x66 : Int) (s0x66 : Int) (s1x66 : Int) (H : Heap) (locs : List Loc) (ls : Array Slot), Iv vM G st H → va_S G.2.2.2.1 s.heap H locs → lv_has ls 6 [(0, .ref (G.2.2.1 9 0)), (1, .int (iI a0)), (2, .int (iI a1)), (5, .int (iI v5x66))] → f9_momentBy_j66 (fun st v3x23 v5x23 => f9_momentBy_l23 Q a0 a1 n23 st v3x23 v5x23) Q a0 a1 st v5x66 s0x66 s1x66 → W p l e (headSpec wsX9_momentBy ({ frames := 1, cells := 0, slots := 0, locals := 22 })).room s m ([.ref (G.2.2.1 9 0), .int (iI a0), .int (iI a1)] : List Value).toArray below meth c H locs 0 0 (MQ below (QlM vM G Q) ([.ref (G.2.2.1 9 0), .int (iI a0), .int (iI a1)] : List Value).toArray s 0 0 G.2.2.2.1) (F0 m 66 ls [.long (lI s0x66), .long (lI s1x66)]) := by
        intro st v5x66 s0x66 s1x66 H locs ls hI hS hl h
        unfold f9_momentBy_j66 at h
        refine r_ladd hx hb dX9_momentBy_66 ?_
        refine r_topl (fun x18 hx18 => ?_)
        replace h := h x18 hx18
        refine lv_lstore_n (lv' := [(3, .long (lI x18)), (0, .ref (G.2.2.1 9 0)), (1, .int (iI a0)), (2, .int (iI a1)), (5, .int (iI v5x66))]) hx hb dX9_momentBy_67 rfl hl (by decide) rfl (fun ls hl => ?_)
        obtain ⟨x19, hx19⟩ : ∃ z : Int, z = v5x66 + 1 := ⟨_, rfl⟩
        replace h := h x19 hx19
        refine lv_iinc (v := iI x19) (lv' := [(5, .int (iI x19)), (3, .long (lI x18)), (0, .ref (G.2.2.1 9 0)), (1, .int (iI a0)), (2, .int (iI a1))]) hx hb dX9_momentBy_68 hl (k := 4) rfl (by rw [hx19]; exact iI_add _ _) (by decide) rfl (fun ls hl => ?_)
        refine lv_goto (tgt := 23) hx hb dX9_momentBy_71 (by decide) ?_
        exact ih23 st x18 x19 _ _ ls hI hS (lv_sub hl [2, 3, 4, 1, 0] rfl) h
      intro st v3x23 v5x23 H locs ls hI hS hl h
      unfold f9_momentBy_l23 at h
      refine lv_iload hx hb dX9_momentBy_23 (lv_at hl 4 rfl) ?_
      refine lv_aload_n hx hb dX9_momentBy_25 rfl (lv_at hl 0 rfl) ?_
      refine gg_9_0 hx hb hts in9 hown hK hI hv_this lk_7 dX9_momentBy_26 ?_
      refine r_iconst (n := 2) hx hb dX9_momentBy_29 ?_
      refine r_iald hx hb hK hI (K := 30) (vrM_9_0 hv_this) rfl (mlen_le _) dX9_momentBy_30 (by decide) (by decide) ?_
      obtain ⟨g5, h⟩ := h
      obtain ⟨g6, h⟩ := h
      refine r_icmp_ge (tgt := 74) hx hb dX9_momentBy_31 (by decide) g5 g6 (fun c7 => ?_) (fun c7 => ?_)
      · replace h := h.1 c7
        refine lv_lload_n hx hb dX9_momentBy_74 rfl (lv_at hl 3 rfl) ?_
        exact r_lret hx hb hr hlocks hK hI hS (Qp := Q) h dX9_momentBy_75
      · replace h := h.2 c7
        refine lv_lload_n hx hb dX9_momentBy_34 rfl (lv_at hl 3 rfl) ?_
        refine lv_aload_n hx hb dX9_momentBy_35 rfl (lv_at hl 0 rfl) ?_
        refine lv_iload hx hb dX9_momentBy_36 (lv_at hl 4 rfl) ?_
        refine r_calli (va_runV (As := [.int (iI v5x23)]) (rest := [.long (lI v3x23)]) ⟨hx, hb, hml, hown, hts⟩ (m9_placeOf l G hv_this _ st v5x23 h) (cwV 1 hts gX9_momentBy_X9_placeOf rfl rfl rfl hd9_placeOf ⟨Nat.le_of_ble_eq_true rfl, Nat.le_of_ble_eq_true rfl⟩) (pre_V hK hX hI hA hS hv_this rfl rfl [.int (iI v5x23)]) rfl rfl hl.1 rfl (lv_room (Nat.le_of_ble_eq_true rfl)) dX9_momentBy_38 ⟨Nat.le_of_ble_eq_true rfl, Nat.le_of_ble_eq_true rfl⟩) hS (fun z8 st9 h H locs hI hS => ?_)
        refine lv_iload_n hx hb dX9_momentBy_41 rfl (lv_at hl 1 rfl) ?_
        obtain ⟨g10, h⟩ := h
        obtain ⟨g11, h⟩ := h
        refine r_icmp_ge (tgt := 65) hx hb dX9_momentBy_42 (by decide) g10 g11 (fun c12 => ?_) (fun c12 => ?_)
        · replace h := h.1 c12
          refine r_lconst (z := 0) hx hb dX9_momentBy_65 rfl ?_
          exact J66 st9 v5x23 0 v3x23 _ _ ls hI hS (lv_sub hl [0, 1, 2, 4] rfl) h
        · replace h := h.2 c12
          refine lv_aload_n hx hb dX9_momentBy_45 rfl (lv_at hl 0 rfl) ?_
          refine lv_iload hx hb dX9_momentBy_46 (lv_at hl 4 rfl) ?_
          refine lv_iload_n hx hb dX9_momentBy_48 rfl (lv_at hl 2 rfl) ?_
          refine r_calll (va_runV (As := [.int (iI v5x23), .int (iI a1)]) (rest := [.long (lI v3x23)]) ⟨hx, hb, hml, hown, hts⟩ (m9_reactionBy l G hv_this _ st9 v5x23 a1 h) (cwV 2 hts gX9_momentBy_X9_reactionBy rfl rfl rfl hd9_reactionBy ⟨Nat.le_of_ble_eq_true rfl, Nat.le_of_ble_eq_true rfl⟩) (pre_V hK hX hI hA hS hv_this rfl rfl [.int (iI v5x23), .int (iI a1)]) rfl rfl hl.1 rfl (lv_room (Nat.le_of_ble_eq_true rfl)) dX9_momentBy_49 ⟨Nat.le_of_ble_eq_true rfl, Nat.le_of_ble_eq_true rfl⟩) hS (fun z13 st14 h H locs hI hS => ?_)
          refine lv_iload_n hx hb dX9_momentBy_52 rfl (lv_at hl 1 rfl) ?_
          refine lv_aload_n hx hb dX9_momentBy_53 rfl (lv_at hl 0 rfl) ?_
          refine lv_iload hx hb dX9_momentBy_54 (lv_at hl 4 rfl) ?_
          refine r_calli (va_runV (As := [.int (iI v5x23)]) (rest := [.int (iI a0), .long (lI z13), .long (lI v3x23)]) ⟨hx, hb, hml, hown, hts⟩ (m9_placeOf l G hv_this _ st14 v5x23 h) (cwV 1 hts gX9_momentBy_X9_placeOf rfl rfl rfl hd9_placeOf ⟨Nat.le_of_ble_eq_true rfl, Nat.le_of_ble_eq_true rfl⟩) (pre_V hK hX hI hA hS hv_this rfl rfl [.int (iI v5x23)]) rfl rfl hl.1 rfl (lv_room (Nat.le_of_ble_eq_true rfl)) dX9_momentBy_56 ⟨Nat.le_of_ble_eq_true rfl, Nat.le_of_ble_eq_true rfl⟩) hS (fun z15 st16 h H locs hI hS => ?_)
          refine r_isub hx hb dX9_momentBy_59 ?_
          obtain ⟨g17, h⟩ := h
          refine r_i2l hx hb dX9_momentBy_60 g17 ?_
          refine r_lmul hx hb dX9_momentBy_61 ?_
          refine lv_goto (tgt := 66) hx hb dX9_momentBy_62 (by decide) ?_
          exact J66 st16 v5x23 (z13 * (a0 - z15)) v3x23 _ _ ls hI hS (lv_sub hl [0, 1, 2, 4] rfl) h
  have J19 : ∀ (st : St) (s0x19 : Int) (H : Heap) (locs : List Loc) (ls : Array Slot), Iv vM G st H → va_S G.2.2.2.1 s.heap H locs → lv_has ls 6 [(0, .ref (G.2.2.1 9 0)), (1, .int (iI a0)), (2, .int (iI a1))] → f9_momentBy_j19 Q a0 a1 st s0x19 → W p l e (headSpec wsX9_momentBy ({ frames := 1, cells := 0, slots := 0, locals := 22 })).room s m ([.ref (G.2.2.1 9 0), .int (iI a0), .int (iI a1)] : List Value).toArray below meth c H locs 0 0 (MQ below (QlM vM G Q) ([.ref (G.2.2.1 9 0), .int (iI a0), .int (iI a1)] : List Value).toArray s 0 0 G.2.2.2.1) (F0 m 19 ls [.long (lI s0x19)]) := by
    intro st s0x19 H locs ls hI hS hl h
    unfold f9_momentBy_j19 at h
    refine lv_lstore_n (lv' := [(3, .long (lI s0x19)), (0, .ref (G.2.2.1 9 0)), (1, .int (iI a0)), (2, .int (iI a1))]) hx hb dX9_momentBy_19 rfl hl (by decide) rfl (fun ls hl => ?_)
    refine r_iconst (n := 0) hx hb dX9_momentBy_20 ?_
    refine lv_istore (lv' := [(5, .int (iI 0)), (3, .long (lI s0x19)), (0, .ref (G.2.2.1 9 0)), (1, .int (iI a0)), (2, .int (iI a1))]) hx hb dX9_momentBy_21 hl (by decide) rfl (fun ls hl => ?_)
    obtain ⟨kk, h⟩ := h
    exact L23 kk st s0x19 0 _ _ ls hI hS (lv_sub hl [2, 3, 4, 1, 0] rfl) h
  unfold f9_momentBy at h
  refine lv_iload_n hx hb dX9_momentBy_0 rfl (lv_at hl 2 rfl) ?_
  refine lv_iload_n hx hb dX9_momentBy_1 rfl (lv_at hl 1 rfl) ?_
  obtain ⟨g1, h⟩ := h
  obtain ⟨g2, h⟩ := h
  refine r_icmp_ge (tgt := 18) hx hb dX9_momentBy_2 (by decide) g1 g2 (fun c3 => ?_) (fun c3 => ?_)
  · replace h := h.1 c3
    refine r_lconst (z := 0) hx hb dX9_momentBy_18 rfl ?_
    exact J19 st 0 _ _ ls hI hS (lv_sub hl [0, 1, 2] rfl) h
  · replace h := h.2 c3
    refine lv_aload_n hx hb dX9_momentBy_5 rfl (lv_at hl 0 rfl) ?_
    refine gg_9_18 hx hb hts in9 hown hK hI hv_this lk_227 dX9_momentBy_6 ?_
    refine r_lneg hx hb dX9_momentBy_9 ?_
    refine lv_iload_n hx hb dX9_momentBy_10 rfl (lv_at hl 1 rfl) ?_
    refine lv_iload_n hx hb dX9_momentBy_11 rfl (lv_at hl 2 rfl) ?_
    refine r_isub hx hb dX9_momentBy_12 ?_
    obtain ⟨g4, h⟩ := h
    refine r_i2l hx hb dX9_momentBy_13 g4 ?_
    refine r_lmul hx hb dX9_momentBy_14 ?_
    refine lv_goto (tgt := 19) hx hb dX9_momentBy_15 (by decide) ?_
    exact J19 st ((-(st 9 18 0 0)) * (a0 - a1)) _ _ ls hI hS (lv_sub hl [0, 1, 2] rfl) h
theorem hd9_rightBy : yX9_rightBy.cls = RX9 ∧ yX9_rightBy.cls ≠ "java/lang/invoke/MethodHandle" ∧ yX9_rightBy.cls ≠ "java/lang/invoke/VarHandle" ∧ (parseMethodDescriptor yX9_rightBy.desc).map (fun d => d.parameters.length) = some 2 := by decide +kernel
set_option maxHeartbeats 4000000 in
set_option maxRecDepth 100000 in
theorem m9_rightBy (l : Launch) (G : WG)   (hv_this : vM 9 0) (Q : Int → St → Prop) (st : St) (a0 : Int) (a1 : Int) (h : f9_rightBy Q st a0 a1) : Met l yX9_rightBy wsX9_rightBy ({ frames := 1, cells := 0, slots := 0, locals := 22 }) (PcM vM G st [.ref (G.2.2.1 9 0), .int (iI a0), .int (iI a1)]) (QlM vM G Q) 0 0 G.2.2.2.1 := by
  refine Met.ofW (cc := cX9_rightBy) (maxL := 6) (ret := (some .long)) (by decide) rfl ?_
  intro p e s m args below meth c s₁ B hml hvv
  obtain ⟨rfl, hA, hI, hK, hX⟩ := hvv
  have hx := B.exec
  have hb := B.bytes
  have hr := B.returns
  have hts := atoms_spec (ws := wsX9_rightBy) B.pre
  have hown : s.vm.findClass RX9 = some m.cls := findClass_of_methodNamed B.named
  have hlocks := B.notSynchronized
  have hS : va_S G.2.2.2.1 s.heap s.heap [] := va_S.rf
  have in9 : ∀ w ∈ wsX90, w ∈ wsX9_rightBy := by decide +kernel
  have lk_7 := hts (.fieldLink RX9 7 "BeamLinesModel" "a" "[I") (by decide +kernel)
  have lk_227 := hts (.fieldLink RX9 227 "BeamLinesModel" "unit" "J") (by decide +kernel)
  have hl := lv_entry ([.ref (G.2.2.1 9 0), .int (iI a0), .int (iI a1)]) (n := 6) (Nat.le_of_ble_eq_true rfl)
  rw [lg_entry_eq]
  generalize (lg_sl ([.ref (G.2.2.1 9 0), .int (iI a0), .int (iI a1)]) ++ List.replicate (6 - (lg_sl ([.ref (G.2.2.1 9 0), .int (iI a0), .int (iI a1)])).length) Slot.unset).toArray = ls at hl ⊢
  have hl : lv_has ls 6 [(0, .ref (G.2.2.1 9 0)), (1, .int (iI a0)), (2, .int (iI a1))] := hl
  have L23 : ∀ (n23 : Nat), ∀ (st : St) (v3x23 : Int) (v5x23 : Int) (H : Heap) (locs : List Loc) (ls : Array Slot), Iv vM G st H → va_S G.2.2.2.1 s.heap H locs → lv_has ls 6 [(0, .ref (G.2.2.1 9 0)), (1, .int (iI a0)), (2, .int (iI a1)), (3, .long (lI v3x23)), (5, .int (iI v5x23))] → f9_rightBy_l23 Q a0 a1 n23 st v3x23 v5x23 → W p l e (headSpec wsX9_rightBy ({ frames := 1, cells := 0, slots := 0, locals := 22 })).room s m ([.ref (G.2.2.1 9 0), .int (iI a0), .int (iI a1)] : List Value).toArray below meth c H locs 0 0 (MQ below (QlM vM G Q) ([.ref (G.2.2.1 9 0), .int (iI a0), .int (iI a1)] : List Value).toArray s 0 0 G.2.2.2.1) (F0 m 23 ls []) := by
    intro n23
    induction n23 with
    | zero =>
      intro st v3x23 v5x23 H locs ls hI hS hl h
      exact h.elim
    | succ n23 ih23 =>
      have J66 : ∀ (st : St) (v5x66 : Int) (s0x66 : Int) (s1x66 : Int) (H : Heap) (locs : List Loc) (ls : Array Slot), Iv vM G st H → va_S G.2.2.2.1 s.heap H locs → lv_has ls 6 [(0, .ref (G.2.2.1 9 0)), (1, .int (iI a0)), (2, .int (iI a1)), (5, .int (iI v5x66))] → f9_rightBy_j66 (fun st v3x23 v5x23 => f9_rightBy_l23 Q a0 a1 n23 st v3x23 v5x23) Q a0 a1 st v5x66 s0x66 s1x66 → W p l e (headSpec wsX9_rightBy ({ frames := 1, cells := 0, slots := 0, locals := 22 })).room s m ([.ref (G.2.2.1 9 0), .int (iI a0), .int (iI a1)] : List Value).toArray below meth c H locs 0 0 (MQ below (QlM vM G Q) ([.ref (G.2.2.1 9 0), .int (iI a0), .int (iI a1)] : List Value).toArray s 0 0 G.2.2.2.1) (F0 m 66 ls [.long (lI s0x66), .long (lI s1x66)]) := by
        intro st v5x66 s0x66 s1x66 H locs ls hI hS hl h
        unfold f9_rightBy_j66 at h
        refine r_ladd hx hb dX9_rightBy_66 ?_
        refine r_topl (fun x18 hx18 => ?_)
        replace h := h x18 hx18
        refine lv_lstore_n (lv' := [(3, .long (lI x18)), (0, .ref (G.2.2.1 9 0)), (1, .int (iI a0)), (2, .int (iI a1)), (5, .int (iI v5x66))]) hx hb dX9_rightBy_67 rfl hl (by decide) rfl (fun ls hl => ?_)
        obtain ⟨x19, hx19⟩ : ∃ z : Int, z = v5x66 + 1 := ⟨_, rfl⟩
        replace h := h x19 hx19
        refine lv_iinc (v := iI x19) (lv' := [(5, .int (iI x19)), (3, .long (lI x18)), (0, .ref (G.2.2.1 9 0)), (1, .int (iI a0)), (2, .int (iI a1))]) hx hb dX9_rightBy_68 hl (k := 4) rfl (by rw [hx19]; exact iI_add _ _) (by decide) rfl (fun ls hl => ?_)
        refine lv_goto (tgt := 23) hx hb dX9_rightBy_71 (by decide) ?_
        exact ih23 st x18 x19 _ _ ls hI hS (lv_sub hl [2, 3, 4, 1, 0] rfl) h
      intro st v3x23 v5x23 H locs ls hI hS hl h
      unfold f9_rightBy_l23 at h
      refine lv_iload hx hb dX9_rightBy_23 (lv_at hl 4 rfl) ?_
      refine lv_aload_n hx hb dX9_rightBy_25 rfl (lv_at hl 0 rfl) ?_
      refine gg_9_0 hx hb hts in9 hown hK hI hv_this lk_7 dX9_rightBy_26 ?_
      refine r_iconst (n := 2) hx hb dX9_rightBy_29 ?_
      refine r_iald hx hb hK hI (K := 30) (vrM_9_0 hv_this) rfl (mlen_le _) dX9_rightBy_30 (by decide) (by decide) ?_
      obtain ⟨g5, h⟩ := h
      obtain ⟨g6, h⟩ := h
      refine r_icmp_ge (tgt := 74) hx hb dX9_rightBy_31 (by decide) g5 g6 (fun c7 => ?_) (fun c7 => ?_)
      · replace h := h.1 c7
        refine lv_lload_n hx hb dX9_rightBy_74 rfl (lv_at hl 3 rfl) ?_
        exact r_lret hx hb hr hlocks hK hI hS (Qp := Q) h dX9_rightBy_75
      · replace h := h.2 c7
        refine lv_lload_n hx hb dX9_rightBy_34 rfl (lv_at hl 3 rfl) ?_
        refine lv_aload_n hx hb dX9_rightBy_35 rfl (lv_at hl 0 rfl) ?_
        refine lv_iload hx hb dX9_rightBy_36 (lv_at hl 4 rfl) ?_
        refine r_calli (va_runV (As := [.int (iI v5x23)]) (rest := [.long (lI v3x23)]) ⟨hx, hb, hml, hown, hts⟩ (m9_placeOf l G hv_this _ st v5x23 h) (cwV 1 hts gX9_rightBy_X9_placeOf rfl rfl rfl hd9_placeOf ⟨Nat.le_of_ble_eq_true rfl, Nat.le_of_ble_eq_true rfl⟩) (pre_V hK hX hI hA hS hv_this rfl rfl [.int (iI v5x23)]) rfl rfl hl.1 rfl (lv_room (Nat.le_of_ble_eq_true rfl)) dX9_rightBy_38 ⟨Nat.le_of_ble_eq_true rfl, Nat.le_of_ble_eq_true rfl⟩) hS (fun z8 st9 h H locs hI hS => ?_)
        refine lv_iload_n hx hb dX9_rightBy_41 rfl (lv_at hl 1 rfl) ?_
        obtain ⟨g10, h⟩ := h
        obtain ⟨g11, h⟩ := h
        refine r_icmp_le (tgt := 65) hx hb dX9_rightBy_42 (by decide) g10 g11 (fun c12 => ?_) (fun c12 => ?_)
        · replace h := h.1 c12
          refine r_lconst (z := 0) hx hb dX9_rightBy_65 rfl ?_
          exact J66 st9 v5x23 0 v3x23 _ _ ls hI hS (lv_sub hl [0, 1, 2, 4] rfl) h
        · replace h := h.2 c12
          refine lv_aload_n hx hb dX9_rightBy_45 rfl (lv_at hl 0 rfl) ?_
          refine lv_iload hx hb dX9_rightBy_46 (lv_at hl 4 rfl) ?_
          refine lv_iload_n hx hb dX9_rightBy_48 rfl (lv_at hl 2 rfl) ?_
          refine r_calll (va_runV (As := [.int (iI v5x23), .int (iI a1)]) (rest := [.long (lI v3x23)]) ⟨hx, hb, hml, hown, hts⟩ (m9_reactionBy l G hv_this _ st9 v5x23 a1 h) (cwV 2 hts gX9_rightBy_X9_reactionBy rfl rfl rfl hd9_reactionBy ⟨Nat.le_of_ble_eq_true rfl, Nat.le_of_ble_eq_true rfl⟩) (pre_V hK hX hI hA hS hv_this rfl rfl [.int (iI v5x23), .int (iI a1)]) rfl rfl hl.1 rfl (lv_room (Nat.le_of_ble_eq_true rfl)) dX9_rightBy_49 ⟨Nat.le_of_ble_eq_true rfl, Nat.le_of_ble_eq_true rfl⟩) hS (fun z13 st14 h H locs hI hS => ?_)
          refine lv_aload_n hx hb dX9_rightBy_52 rfl (lv_at hl 0 rfl) ?_
          refine lv_iload hx hb dX9_rightBy_53 (lv_at hl 4 rfl) ?_
          refine r_calli (va_runV (As := [.int (iI v5x23)]) (rest := [.long (lI z13), .long (lI v3x23)]) ⟨hx, hb, hml, hown, hts⟩ (m9_placeOf l G hv_this _ st14 v5x23 h) (cwV 1 hts gX9_rightBy_X9_placeOf rfl rfl rfl hd9_placeOf ⟨Nat.le_of_ble_eq_true rfl, Nat.le_of_ble_eq_true rfl⟩) (pre_V hK hX hI hA hS hv_this rfl rfl [.int (iI v5x23)]) rfl rfl hl.1 rfl (lv_room (Nat.le_of_ble_eq_true rfl)) dX9_rightBy_55 ⟨Nat.le_of_ble_eq_true rfl, Nat.le_of_ble_eq_true rfl⟩) hS (fun z15 st16 h H locs hI hS => ?_)
          refine lv_iload_n hx hb dX9_rightBy_58 rfl (lv_at hl 1 rfl) ?_
          refine r_isub hx hb dX9_rightBy_59 ?_
          obtain ⟨g17, h⟩ := h
          refine r_i2l hx hb dX9_rightBy_60 g17 ?_
          refine r_lmul hx hb dX9_rightBy_61 ?_
          refine lv_goto (tgt := 66) hx hb dX9_rightBy_62 (by decide) ?_
          exact J66 st16 v5x23 (z13 * (z15 - a0)) v3x23 _ _ ls hI hS (lv_sub hl [0, 1, 2, 4] rfl) h
  have J19 : ∀ (st : St) (s0x19 : Int) (H : Heap) (locs : List Loc) (ls : Array Slot), Iv vM G st H → va_S G.2.2.2.1 s.heap H locs → lv_has ls 6 [(0, .ref (G.2.2.1 9 0)), (1, .int (iI a0)), (2, .int (iI a1))] → f9_rightBy_j19 Q a0 a1 st s0x19 → W p l e (headSpec wsX9_rightBy ({ frames := 1, cells := 0, slots := 0, locals := 22 })).room s m ([.ref (G.2.2.1 9 0), .int (iI a0), .int (iI a1)] : List Value).toArray below meth c H locs 0 0 (MQ below (QlM vM G Q) ([.ref (G.2.2.1 9 0), .int (iI a0), .int (iI a1)] : List Value).toArray s 0 0 G.2.2.2.1) (F0 m 19 ls [.long (lI s0x19)]) := by
    intro st s0x19 H locs ls hI hS hl h
    unfold f9_rightBy_j19 at h
    refine lv_lstore_n (lv' := [(3, .long (lI s0x19)), (0, .ref (G.2.2.1 9 0)), (1, .int (iI a0)), (2, .int (iI a1))]) hx hb dX9_rightBy_19 rfl hl (by decide) rfl (fun ls hl => ?_)
    refine r_iconst (n := 0) hx hb dX9_rightBy_20 ?_
    refine lv_istore (lv' := [(5, .int (iI 0)), (3, .long (lI s0x19)), (0, .ref (G.2.2.1 9 0)), (1, .int (iI a0)), (2, .int (iI a1))]) hx hb dX9_rightBy_21 hl (by decide) rfl (fun ls hl => ?_)
    obtain ⟨kk, h⟩ := h
    exact L23 kk st s0x19 0 _ _ ls hI hS (lv_sub hl [2, 3, 4, 1, 0] rfl) h
  unfold f9_rightBy at h
  refine lv_iload_n hx hb dX9_rightBy_0 rfl (lv_at hl 2 rfl) ?_
  refine lv_iload_n hx hb dX9_rightBy_1 rfl (lv_at hl 1 rfl) ?_
  obtain ⟨g1, h⟩ := h
  obtain ⟨g2, h⟩ := h
  refine r_icmp_le (tgt := 18) hx hb dX9_rightBy_2 (by decide) g1 g2 (fun c3 => ?_) (fun c3 => ?_)
  · replace h := h.1 c3
    refine r_lconst (z := 0) hx hb dX9_rightBy_18 rfl ?_
    exact J19 st 0 _ _ ls hI hS (lv_sub hl [0, 1, 2] rfl) h
  · replace h := h.2 c3
    refine lv_aload_n hx hb dX9_rightBy_5 rfl (lv_at hl 0 rfl) ?_
    refine gg_9_18 hx hb hts in9 hown hK hI hv_this lk_227 dX9_rightBy_6 ?_
    refine r_lneg hx hb dX9_rightBy_9 ?_
    refine lv_iload_n hx hb dX9_rightBy_10 rfl (lv_at hl 2 rfl) ?_
    refine lv_iload_n hx hb dX9_rightBy_11 rfl (lv_at hl 1 rfl) ?_
    refine r_isub hx hb dX9_rightBy_12 ?_
    obtain ⟨g4, h⟩ := h
    refine r_i2l hx hb dX9_rightBy_13 g4 ?_
    refine r_lmul hx hb dX9_rightBy_14 ?_
    refine lv_goto (tgt := 19) hx hb dX9_rightBy_15 (by decide) ?_
    exact J19 st ((-(st 9 18 0 0)) * (a1 - a0)) _ _ ls hI hS (lv_sub hl [0, 1, 2] rfl) h
theorem hd9_weights : yX9_weights.cls = RX9 ∧ yX9_weights.cls ≠ "java/lang/invoke/MethodHandle" ∧ yX9_weights.cls ≠ "java/lang/invoke/VarHandle" ∧ (parseMethodDescriptor yX9_weights.desc).map (fun d => d.parameters.length) = some 2 := by decide +kernel
set_option maxHeartbeats 4000000 in
set_option maxRecDepth 100000 in
theorem m9_weights (l : Launch) (G : WG)   (hv_this : vM 9 0) (Q : Int → St → Prop) (st : St) (a0 : Int) (a1 : Int) (h : f9_weights Q st a0 a1) : Met l yX9_weights wsX9_weights ({ frames := 0, cells := 0, slots := 0, locals := 0 }) (PcM vM G st [.ref (G.2.2.1 9 0), .int (iI a0), .int (iI a1)]) (QiM vM G Q) 0 0 G.2.2.2.1 := by
  refine Met.ofW (cc := cX9_weights) (maxL := 5) (ret := (some .int)) (by decide) rfl ?_
  intro p e s m args below meth c s₁ B hml hvv
  obtain ⟨rfl, hA, hI, hK, hX⟩ := hvv
  have hx := B.exec
  have hb := B.bytes
  have hr := B.returns
  have hts := atoms_spec (ws := wsX9_weights) B.pre
  have hown : s.vm.findClass RX9 = some m.cls := findClass_of_methodNamed B.named
  have hlocks := B.notSynchronized
  have hS : va_S G.2.2.2.1 s.heap s.heap [] := va_S.rf
  have in9 : ∀ w ∈ wsX90, w ∈ wsX9_weights := by decide +kernel
  have lk_7 := hts (.fieldLink RX9 7 "BeamLinesModel" "a" "[I") (by decide +kernel)
  have hl := lv_entry ([.ref (G.2.2.1 9 0), .int (iI a0), .int (iI a1)]) (n := 5) (Nat.le_of_ble_eq_true rfl)
  rw [lg_entry_eq]
  generalize (lg_sl ([.ref (G.2.2.1 9 0), .int (iI a0), .int (iI a1)]) ++ List.replicate (5 - (lg_sl ([.ref (G.2.2.1 9 0), .int (iI a0), .int (iI a1)])).length) Slot.unset).toArray = ls at hl ⊢
  have hl : lv_has ls 5 [(0, .ref (G.2.2.1 9 0)), (1, .int (iI a0)), (2, .int (iI a1))] := hl
  have L5 : ∀ (n5 : Nat), ∀ (st : St) (v3x5 : Int) (v4x5 : Int) (H : Heap) (locs : List Loc) (ls : Array Slot), Iv vM G st H → va_S G.2.2.2.1 s.heap H locs → lv_has ls 5 [(0, .ref (G.2.2.1 9 0)), (1, .int (iI a0)), (2, .int (iI a1)), (3, .int (iI v3x5)), (4, .int (iI v4x5))] → f9_weights_l5 Q a0 a1 n5 st v3x5 v4x5 → W p l e (headSpec wsX9_weights ({ frames := 0, cells := 0, slots := 0, locals := 0 })).room s m ([.ref (G.2.2.1 9 0), .int (iI a0), .int (iI a1)] : List Value).toArray below meth c H locs 0 0 (MQ below (QiM vM G Q) ([.ref (G.2.2.1 9 0), .int (iI a0), .int (iI a1)] : List Value).toArray s 0 0 G.2.2.2.1) (F0 m 5 ls []) := by
    intro n5
    induction n5 with
    | zero =>
      intro st v3x5 v4x5 H locs ls hI hS hl h
      exact h.elim
    | succ n5 ih5 =>
      intro st v3x5 v4x5 H locs ls hI hS hl h
      unfold f9_weights_l5 at h
      refine lv_iload hx hb dX9_weights_5 (lv_at hl 4 rfl) ?_
      refine lv_iload_n hx hb dX9_weights_7 rfl (lv_at hl 2 rfl) ?_
      obtain ⟨g1, h⟩ := h
      obtain ⟨g2, h⟩ := h
      refine r_icmp_ge (tgt := 31) hx hb dX9_weights_8 (by decide) g1 g2 (fun c3 => ?_) (fun c3 => ?_)
      · replace h := h.1 c3
        refine lv_iload_n hx hb dX9_weights_31 rfl (lv_at hl 3 rfl) ?_
        exact r_iret hx hb hr hlocks hK hI hS (Qp := Q) h dX9_weights_32
      · replace h := h.2 c3
        refine lv_iload_n hx hb dX9_weights_11 rfl (lv_at hl 3 rfl) ?_
        refine lv_aload_n hx hb dX9_weights_12 rfl (lv_at hl 0 rfl) ?_
        refine gg_9_0 hx hb hts in9 hown hK hI hv_this lk_7 dX9_weights_13 ?_
        refine lv_iload_n hx hb dX9_weights_16 rfl (lv_at hl 1 rfl) ?_
        refine r_iconst (n := 2) hx hb dX9_weights_17 ?_
        refine lv_iload hx hb dX9_weights_18 (lv_at hl 4 rfl) ?_
        refine r_imul hx hb dX9_weights_20 ?_
        refine r_iadd hx hb dX9_weights_21 ?_
        obtain ⟨g4, g5, h⟩ := h
        refine r_iald hx hb hK hI (K := 30) (vrM_9_0 hv_this) rfl (mlen_le _) dX9_weights_22 g4 g5 ?_
        refine r_iadd hx hb dX9_weights_23 ?_
        refine r_topi (fun x6 hx6 => ?_)
        replace h := h x6 hx6
        refine lv_istore_n (lv' := [(3, .int (iI x6)), (0, .ref (G.2.2.1 9 0)), (1, .int (iI a0)), (2, .int (iI a1)), (4, .int (iI v4x5))]) hx hb dX9_weights_24 rfl hl (by decide) rfl (fun ls hl => ?_)
        obtain ⟨x7, hx7⟩ : ∃ z : Int, z = v4x5 + 1 := ⟨_, rfl⟩
        replace h := h x7 hx7
        refine lv_iinc (v := iI x7) (lv' := [(4, .int (iI x7)), (3, .int (iI x6)), (0, .ref (G.2.2.1 9 0)), (1, .int (iI a0)), (2, .int (iI a1))]) hx hb dX9_weights_25 hl (k := 4) rfl (by rw [hx7]; exact iI_add _ _) (by decide) rfl (fun ls hl => ?_)
        refine lv_goto (tgt := 5) hx hb dX9_weights_28 (by decide) ?_
        exact ih5 st x6 x7 _ _ ls hI hS (lv_sub hl [2, 3, 4, 1, 0] rfl) h
  unfold f9_weights at h
  refine r_iconst (n := 0) hx hb dX9_weights_0 ?_
  refine lv_istore_n (lv' := [(3, .int (iI 0)), (0, .ref (G.2.2.1 9 0)), (1, .int (iI a0)), (2, .int (iI a1))]) hx hb dX9_weights_1 rfl hl (by decide) rfl (fun ls hl => ?_)
  refine r_iconst (n := 0) hx hb dX9_weights_2 ?_
  refine lv_istore (lv' := [(4, .int (iI 0)), (3, .int (iI 0)), (0, .ref (G.2.2.1 9 0)), (1, .int (iI a0)), (2, .int (iI a1))]) hx hb dX9_weights_3 hl (by decide) rfl (fun ls hl => ?_)
  obtain ⟨kk, h⟩ := h
  exact L5 kk st 0 0 _ _ ls hI hS (lv_sub hl [2, 3, 4, 1, 0] rfl) h
theorem hd9_lastHead : yX9_lastHead.cls = RX9 ∧ yX9_lastHead.cls ≠ "java/lang/invoke/MethodHandle" ∧ yX9_lastHead.cls ≠ "java/lang/invoke/VarHandle" ∧ (parseMethodDescriptor yX9_lastHead.desc).map (fun d => d.parameters.length) = some 0 := by decide +kernel
set_option maxHeartbeats 4000000 in
set_option maxRecDepth 100000 in
theorem m9_lastHead (l : Launch) (G : WG)   (hv_this : vM 9 0) (Q : Int → St → Prop) (st : St)  (h : f9_lastHead Q st) : Met l yX9_lastHead wsX9_lastHead ({ frames := 1, cells := 0, slots := 0, locals := 23 }) (PcM vM G st [.ref (G.2.2.1 9 0)]) (QiM vM G Q) 0 0 G.2.2.2.1 := by
  refine Met.ofW (cc := cX9_lastHead) (maxL := 3) (ret := (some .int)) (by decide) rfl ?_
  intro p e s m args below meth c s₁ B hml hvv
  obtain ⟨rfl, hA, hI, hK, hX⟩ := hvv
  have hx := B.exec
  have hb := B.bytes
  have hr := B.returns
  have hts := atoms_spec (ws := wsX9_lastHead) B.pre
  have hown : s.vm.findClass RX9 = some m.cls := findClass_of_methodNamed B.named
  have hlocks := B.notSynchronized
  have hS : va_S G.2.2.2.1 s.heap s.heap [] := va_S.rf
  have in9 : ∀ w ∈ wsX90, w ∈ wsX9_lastHead := by decide +kernel
  have lk_7 := hts (.fieldLink RX9 7 "BeamLinesModel" "a" "[I") (by decide +kernel)
  have ml_206 : (Cond.methodLink RX9 206 Lib.Math.max.name).before _ s = true ∧ (Cond.static Lib.Math.max.name).before _ s = true ∧ (Cond.initialized "java/lang/Math").before _ s = true ∧ (Cond.code Lib.Math.max.name Lib.Math.max.code 2 (some .int)).before _ s = true := ⟨hts _ (by decide +kernel), hts _ (by decide +kernel), hts _ (by decide +kernel), hts _ (by decide +kernel)⟩
  have hl := lv_entry ([.ref (G.2.2.1 9 0)]) (n := 3) (Nat.le_of_ble_eq_true rfl)
  rw [lg_entry_eq]
  generalize (lg_sl ([.ref (G.2.2.1 9 0)]) ++ List.replicate (3 - (lg_sl ([.ref (G.2.2.1 9 0)])).length) Slot.unset).toArray = ls at hl ⊢
  have hl : lv_has ls 3 [(0, .ref (G.2.2.1 9 0))] := hl
  have L15 : ∀ (n15 : Nat), ∀ (st : St) (v1x15 : Int) (v2x15 : Int) (H : Heap) (locs : List Loc) (ls : Array Slot), Iv vM G st H → va_S G.2.2.2.1 s.heap H locs → lv_has ls 3 [(0, .ref (G.2.2.1 9 0)), (1, .int (iI v1x15)), (2, .int (iI v2x15))] → f9_lastHead_l15 Q n15 st v1x15 v2x15 → W p l e (headSpec wsX9_lastHead ({ frames := 1, cells := 0, slots := 0, locals := 23 })).room s m ([.ref (G.2.2.1 9 0)] : List Value).toArray below meth c H locs 0 0 (MQ below (QiM vM G Q) ([.ref (G.2.2.1 9 0)] : List Value).toArray s 0 0 G.2.2.2.1) (F0 m 15 ls []) := by
    intro n15
    induction n15 with
    | zero =>
      intro st v1x15 v2x15 H locs ls hI hS hl h
      exact h.elim
    | succ n15 ih15 =>
      intro st v1x15 v2x15 H locs ls hI hS hl h
      unfold f9_lastHead_l15 at h
      refine lv_iload_n hx hb dX9_lastHead_15 rfl (lv_at hl 2 rfl) ?_
      refine lv_aload_n hx hb dX9_lastHead_16 rfl (lv_at hl 0 rfl) ?_
      refine gg_9_0 hx hb hts in9 hown hK hI hv_this lk_7 dX9_lastHead_17 ?_
      refine r_iconst (n := 5) hx hb dX9_lastHead_20 ?_
      refine r_iald hx hb hK hI (K := 30) (vrM_9_0 hv_this) rfl (mlen_le _) dX9_lastHead_21 (by decide) (by decide) ?_
      obtain ⟨g3, h⟩ := h
      obtain ⟨g4, h⟩ := h
      refine r_icmp_ge (tgt := 49) hx hb dX9_lastHead_22 (by decide) g3 g4 (fun c5 => ?_) (fun c5 => ?_)
      · replace h := h.1 c5
        refine lv_aload_n hx hb dX9_lastHead_49 rfl (lv_at hl 0 rfl) ?_
        refine gg_9_0 hx hb hts in9 hown hK hI hv_this lk_7 dX9_lastHead_50 ?_
        refine r_iconst (n := 0) hx hb dX9_lastHead_53 ?_
        refine r_iald hx hb hK hI (K := 30) (vrM_9_0 hv_this) rfl (mlen_le _) dX9_lastHead_54 (by decide) (by decide) ?_
        refine lv_iload_n hx hb dX9_lastHead_55 rfl (lv_at hl 1 rfl) ?_
        refine r_iadd hx hb dX9_lastHead_56 ?_
        exact r_iret hx hb hr hlocks hK hI hS (Qp := Q) h dX9_lastHead_57
      · replace h := h.2 c5
        refine lv_iload_n hx hb dX9_lastHead_25 rfl (lv_at hl 1 rfl) ?_
        refine lv_aload_n hx hb dX9_lastHead_26 rfl (lv_at hl 0 rfl) ?_
        refine gg_9_0 hx hb hts in9 hown hK hI hv_this lk_7 dX9_lastHead_27 ?_
        refine r_bipush (n := 35) hx hb dX9_lastHead_30 rfl ?_
        refine r_iconst (n := 2) hx hb dX9_lastHead_32 ?_
        refine lv_iload_n hx hb dX9_lastHead_33 rfl (lv_at hl 2 rfl) ?_
        refine r_imul hx hb dX9_lastHead_34 ?_
        refine r_iadd hx hb dX9_lastHead_35 ?_
        refine r_iconst (n := 1) hx hb dX9_lastHead_36 ?_
        refine r_iadd hx hb dX9_lastHead_37 ?_
        obtain ⟨g6, g7, h⟩ := h
        refine r_iald hx hb hK hI (K := 30) (vrM_9_0 hv_this) rfl (mlen_le _) dX9_lastHead_38 g6 g7 ?_
        obtain ⟨g8, h⟩ := h
        obtain ⟨g9, h⟩ := h
        refine r_mmax hx hb (hml.trans hl.1.symm) hown ml_206 dX9_lastHead_39 g8 g9 ⟨Nat.le_of_ble_eq_true rfl, Nat.le_of_ble_eq_true rfl, Nat.zero_le _, Nat.zero_le _⟩ (Nat.le_of_ble_eq_true rfl) ?_
        refine r_topi (fun x10 hx10 => ?_)
        replace h := h x10 hx10
        refine lv_istore_n (lv' := [(1, .int (iI x10)), (0, .ref (G.2.2.1 9 0)), (2, .int (iI v2x15))]) hx hb dX9_lastHead_42 rfl hl (by decide) rfl (fun ls hl => ?_)
        obtain ⟨x11, hx11⟩ : ∃ z : Int, z = v2x15 + 1 := ⟨_, rfl⟩
        replace h := h x11 hx11
        refine lv_iinc (v := iI x11) (lv' := [(2, .int (iI x11)), (1, .int (iI x10)), (0, .ref (G.2.2.1 9 0))]) hx hb dX9_lastHead_43 hl (k := 2) rfl (by rw [hx11]; exact iI_add _ _) (by decide) rfl (fun ls hl => ?_)
        refine lv_goto (tgt := 15) hx hb dX9_lastHead_46 (by decide) ?_
        exact ih15 st x10 x11 _ _ ls hI hS (lv_sub hl [2, 1, 0] rfl) h
  unfold f9_lastHead at h
  refine lv_aload_n hx hb dX9_lastHead_0 rfl (lv_at hl 0 rfl) ?_
  refine gg_9_0 hx hb hts in9 hown hK hI hv_this lk_7 dX9_lastHead_1 ?_
  refine r_iconst (n := 5) hx hb dX9_lastHead_4 ?_
  refine r_iald hx hb hK hI (K := 30) (vrM_9_0 hv_this) rfl (mlen_le _) dX9_lastHead_5 (by decide) (by decide) ?_
  obtain ⟨g1, h⟩ := h
  refine r_if_ne (tgt := 11) hx hb dX9_lastHead_6 (by decide) g1 (fun c2 => ?_) (fun c2 => ?_)
  · replace h := h.2 c2
    refine r_iconst (n := 0) hx hb dX9_lastHead_11 ?_
    refine lv_istore_n (lv' := [(1, .int (iI 0)), (0, .ref (G.2.2.1 9 0))]) hx hb dX9_lastHead_12 rfl hl (by decide) rfl (fun ls hl => ?_)
    refine r_iconst (n := 0) hx hb dX9_lastHead_13 ?_
    refine lv_istore_n (lv' := [(2, .int (iI 0)), (1, .int (iI 0)), (0, .ref (G.2.2.1 9 0))]) hx hb dX9_lastHead_14 rfl hl (by decide) rfl (fun ls hl => ?_)
    obtain ⟨kk, h⟩ := h
    exact L15 kk st 0 0 _ _ ls hI hS (lv_sub hl [2, 1, 0] rfl) h
  · replace h := h.1 c2
    refine r_iconst (n := 0) hx hb dX9_lastHead_9 ?_
    exact r_iret hx hb hr hlocks hK hI hS (Qp := Q) h dX9_lastHead_10
theorem hd9_count : yX9_count.cls = RX9 ∧ yX9_count.cls ≠ "java/lang/invoke/MethodHandle" ∧ yX9_count.cls ≠ "java/lang/invoke/VarHandle" ∧ (parseMethodDescriptor yX9_count.desc).map (fun d => d.parameters.length) = some 1 := by decide +kernel
set_option maxHeartbeats 4000000 in
set_option maxRecDepth 100000 in
theorem m9_count (l : Launch) (G : WG)   (hv_this : vM 9 0) (Q : Int → St → Prop) (st : St) (a0 : Int) (h : f9_count Q st a0) : Met l yX9_count wsX9_count ({ frames := 2, cells := 0, slots := 0, locals := 45 }) (PcM vM G st [.ref (G.2.2.1 9 0), .int (iI a0)]) (QiM vM G Q) 0 0 G.2.2.2.1 := by
  refine Met.ofW (cc := cX9_count) (maxL := 2) (ret := (some .int)) (by decide) rfl ?_
  intro p e s m args below meth c s₁ B hml hvv
  obtain ⟨rfl, hA, hI, hK, hX⟩ := hvv
  have hx := B.exec
  have hb := B.bytes
  have hr := B.returns
  have hts := atoms_spec (ws := wsX9_count) B.pre
  have hown : s.vm.findClass RX9 = some m.cls := findClass_of_methodNamed B.named
  have hlocks := B.notSynchronized
  have hS : va_S G.2.2.2.1 s.heap s.heap [] := va_S.rf
  have in9 : ∀ w ∈ wsX90, w ∈ wsX9_count := by decide +kernel
  have lk_7 := hts (.fieldLink RX9 7 "BeamLinesModel" "a" "[I") (by decide +kernel)
  have lk_46 := hts (.fieldLink RX9 46 "BeamLinesModel" "thrown" "I") (by decide +kernel)
  have hl := lv_entry ([.ref (G.2.2.1 9 0), .int (iI a0)]) (n := 2) (Nat.le_of_ble_eq_true rfl)
  rw [lg_entry_eq]
  generalize (lg_sl ([.ref (G.2.2.1 9 0), .int (iI a0)]) ++ List.replicate (2 - (lg_sl ([.ref (G.2.2.1 9 0), .int (iI a0)])).length) Slot.unset).toArray = ls at hl ⊢
  have hl : lv_has ls 2 [(0, .ref (G.2.2.1 9 0)), (1, .int (iI a0))] := hl
  have J16 : ∀ (st : St) (s0x16 : Int) (H : Heap) (locs : List Loc) (ls : Array Slot), Iv vM G st H → va_S G.2.2.2.1 s.heap H locs → lv_has ls 2 [(0, .ref (G.2.2.1 9 0)), (1, .int (iI a0))] → f9_count_j16 Q a0 st s0x16 → W p l e (headSpec wsX9_count ({ frames := 2, cells := 0, slots := 0, locals := 45 })).room s m ([.ref (G.2.2.1 9 0), .int (iI a0)] : List Value).toArray below meth c H locs 0 0 (MQ below (QiM vM G Q) ([.ref (G.2.2.1 9 0), .int (iI a0)] : List Value).toArray s 0 0 G.2.2.2.1) (F0 m 16 ls [.int (iI s0x16), .ref (G.2.2.1 9 0)]) := by
    intro st s0x16 H locs ls hI hS hl h
    unfold f9_count_j16 at h
    refine pp_9_6 hx hb hts in9 hown hK hI hS hv_this lk_46 dX9_count_16 (fun st5 hst5 H locs hI hS => ?_)
    replace h := h st5 hst5
    refine lv_aload_n hx hb dX9_count_19 rfl (lv_at hl 0 rfl) ?_
    refine gg_9_6 hx hb hts in9 hown hK hI hv_this lk_46 dX9_count_20 ?_
    obtain ⟨g6, h⟩ := h
    refine r_if_le (tgt := 28) hx hb dX9_count_23 (by decide) g6 (fun c7 => ?_) (fun c7 => ?_)
    · replace h := h.1 c7
      refine lv_iload_n hx hb dX9_count_28 rfl (lv_at hl 1 rfl) ?_
      obtain ⟨g8, h⟩ := h
      by_cases e15 : a0 = 0
      · replace h := h.1 e15
        refine r_tin (tgt := 76) hx hb dX9_count_29 g8 e15 (by decide) rfl (by decide) ?_
        refine lv_aload_n hx hb dX9_count_76 rfl (lv_at hl 0 rfl) ?_
        refine gg_9_0 hx hb hts in9 hown hK hI hv_this lk_7 dX9_count_77 ?_
        refine r_iconst (n := 0) hx hb dX9_count_80 ?_
        refine r_iald hx hb hK hI (K := 30) (vrM_9_0 hv_this) rfl (mlen_le _) dX9_count_81 (by decide) (by decide) ?_
        exact r_iret hx hb hr hlocks hK hI hS (Qp := Q) h dX9_count_82
      by_cases e16 : a0 = 1
      · replace h := h.2.1 e16
        refine r_tin (tgt := 83) hx hb dX9_count_29 g8 e16 (by decide) rfl (by decide) ?_
        refine lv_aload_n hx hb dX9_count_83 rfl (lv_at hl 0 rfl) ?_
        refine gg_9_0 hx hb hts in9 hown hK hI hv_this lk_7 dX9_count_84 ?_
        refine r_iconst (n := 2) hx hb dX9_count_87 ?_
        refine r_iald hx hb hK hI (K := 30) (vrM_9_0 hv_this) rfl (mlen_le _) dX9_count_88 (by decide) (by decide) ?_
        exact r_iret hx hb hr hlocks hK hI hS (Qp := Q) h dX9_count_89
      by_cases e17 : a0 = 2
      · replace h := h.2.2.1 e17
        refine r_tin (tgt := 90) hx hb dX9_count_29 g8 e17 (by decide) rfl (by decide) ?_
        refine lv_aload_n hx hb dX9_count_90 rfl (lv_at hl 0 rfl) ?_
        refine gg_9_0 hx hb hts in9 hown hK hI hv_this lk_7 dX9_count_91 ?_
        refine r_iconst (n := 3) hx hb dX9_count_94 ?_
        refine r_iald hx hb hK hI (K := 30) (vrM_9_0 hv_this) rfl (mlen_le _) dX9_count_95 (by decide) (by decide) ?_
        exact r_iret hx hb hr hlocks hK hI hS (Qp := Q) h dX9_count_96
      by_cases e18 : a0 = 3
      · replace h := h.2.2.2.1 e18
        refine r_tin (tgt := 97) hx hb dX9_count_29 g8 e18 (by decide) rfl (by decide) ?_
        refine lv_aload_n hx hb dX9_count_97 rfl (lv_at hl 0 rfl) ?_
        refine gg_9_0 hx hb hts in9 hown hK hI hv_this lk_7 dX9_count_98 ?_
        refine r_iconst (n := 4) hx hb dX9_count_101 ?_
        refine r_iald hx hb hK hI (K := 30) (vrM_9_0 hv_this) rfl (mlen_le _) dX9_count_102 (by decide) (by decide) ?_
        exact r_iret hx hb hr hlocks hK hI hS (Qp := Q) h dX9_count_103
      by_cases e19 : a0 = 4
      · replace h := h.2.2.2.2.1 e19
        refine r_tin (tgt := 104) hx hb dX9_count_29 g8 e19 (by decide) rfl (by decide) ?_
        refine lv_aload_n hx hb dX9_count_104 rfl (lv_at hl 0 rfl) ?_
        refine gg_9_0 hx hb hts in9 hown hK hI hv_this lk_7 dX9_count_105 ?_
        refine r_iconst (n := 5) hx hb dX9_count_108 ?_
        refine r_iald hx hb hK hI (K := 30) (vrM_9_0 hv_this) rfl (mlen_le _) dX9_count_109 (by decide) (by decide) ?_
        exact r_iret hx hb hr hlocks hK hI hS (Qp := Q) h dX9_count_110
      by_cases e20 : a0 = 5
      · replace h := h.2.2.2.2.2.1 e20
        refine r_tin (tgt := 111) hx hb dX9_count_29 g8 e20 (by decide) rfl (by decide) ?_
        refine lv_aload_n hx hb dX9_count_111 rfl (lv_at hl 0 rfl) ?_
        refine gg_9_0 hx hb hts in9 hown hK hI hv_this lk_7 dX9_count_112 ?_
        refine r_iconst (n := 1) hx hb dX9_count_115 ?_
        refine r_iald hx hb hK hI (K := 30) (vrM_9_0 hv_this) rfl (mlen_le _) dX9_count_116 (by decide) (by decide) ?_
        exact r_iret hx hb hr hlocks hK hI hS (Qp := Q) h dX9_count_117
      by_cases e21 : a0 = 6
      · replace h := h.2.2.2.2.2.2.1 e21
        refine r_tin (tgt := 118) hx hb dX9_count_29 g8 e21 (by decide) rfl (by decide) ?_
        refine lv_aload_n hx hb dX9_count_118 rfl (lv_at hl 0 rfl) ?_
        refine r_bipush (n := 19) hx hb dX9_count_119 rfl ?_
        refine lv_aload_n hx hb dX9_count_121 rfl (lv_at hl 0 rfl) ?_
        refine gg_9_0 hx hb hts in9 hown hK hI hv_this lk_7 dX9_count_122 ?_
        refine r_iconst (n := 4) hx hb dX9_count_125 ?_
        refine r_iald hx hb hK hI (K := 30) (vrM_9_0 hv_this) rfl (mlen_le _) dX9_count_126 (by decide) (by decide) ?_
        refine r_calli (va_runV (As := [.int (iI 19), .int (iI (st5 30 0 0 4))]) (rest := []) ⟨hx, hb, hml, hown, hts⟩ (m9_weights l G hv_this _ st5 19 (st5 30 0 0 4) h) (cwV 2 hts gX9_count_X9_weights rfl rfl rfl hd9_weights ⟨Nat.le_of_ble_eq_true rfl, Nat.le_of_ble_eq_true rfl⟩) (pre_V hK hX hI hA hS hv_this rfl rfl [.int (iI 19), .int (iI (st5 30 0 0 4))]) rfl rfl hl.1 rfl (lv_room (Nat.le_of_ble_eq_true rfl)) dX9_count_127 ⟨Nat.le_of_ble_eq_true rfl, Nat.le_of_ble_eq_true rfl⟩) hS (fun z9 st10 h H locs hI hS => ?_)
        exact r_iret hx hb hr hlocks hK hI hS (Qp := Q) h dX9_count_130
      by_cases e22 : a0 = 7
      · replace h := h.2.2.2.2.2.2.2.1 e22
        refine r_tin (tgt := 131) hx hb dX9_count_29 g8 e22 (by decide) rfl (by decide) ?_
        refine lv_aload_n hx hb dX9_count_131 rfl (lv_at hl 0 rfl) ?_
        refine r_bipush (n := 35) hx hb dX9_count_132 rfl ?_
        refine lv_aload_n hx hb dX9_count_134 rfl (lv_at hl 0 rfl) ?_
        refine gg_9_0 hx hb hts in9 hown hK hI hv_this lk_7 dX9_count_135 ?_
        refine r_iconst (n := 5) hx hb dX9_count_138 ?_
        refine r_iald hx hb hK hI (K := 30) (vrM_9_0 hv_this) rfl (mlen_le _) dX9_count_139 (by decide) (by decide) ?_
        refine r_calli (va_runV (As := [.int (iI 35), .int (iI (st5 30 0 0 5))]) (rest := []) ⟨hx, hb, hml, hown, hts⟩ (m9_weights l G hv_this _ st5 35 (st5 30 0 0 5) h) (cwV 2 hts gX9_count_X9_weights rfl rfl rfl hd9_weights ⟨Nat.le_of_ble_eq_true rfl, Nat.le_of_ble_eq_true rfl⟩) (pre_V hK hX hI hA hS hv_this rfl rfl [.int (iI 35), .int (iI (st5 30 0 0 5))]) rfl rfl hl.1 rfl (lv_room (Nat.le_of_ble_eq_true rfl)) dX9_count_140 ⟨Nat.le_of_ble_eq_true rfl, Nat.le_of_ble_eq_true rfl⟩) hS (fun z11 st12 h H locs hI hS => ?_)
        exact r_iret hx hb hr hlocks hK hI hS (Qp := Q) h dX9_count_143
      replace h := h.2.2.2.2.2.2.2.2 (by omega)
      refine r_tout (tgt := 144) hx hb dX9_count_29 g8 (by omega) (by decide) ?_
      refine lv_aload_n hx hb dX9_count_144 rfl (lv_at hl 0 rfl) ?_
      refine r_calli (va_runV (As := []) (rest := []) ⟨hx, hb, hml, hown, hts⟩ (m9_lastHead l G hv_this _ st5 h) (cwV 0 hts gX9_count_X9_lastHead rfl rfl rfl hd9_lastHead ⟨Nat.le_of_ble_eq_true rfl, Nat.le_of_ble_eq_true rfl⟩) (pre_V hK hX hI hA hS hv_this rfl rfl []) rfl rfl hl.1 rfl (lv_room (Nat.le_of_ble_eq_true rfl)) dX9_count_145 ⟨Nat.le_of_ble_eq_true rfl, Nat.le_of_ble_eq_true rfl⟩) hS (fun z13 st14 h H locs hI hS => ?_)
      exact r_iret hx hb hr hlocks hK hI hS (Qp := Q) h dX9_count_148
    · replace h := h.2 c7
      refine r_iconst (n := 0) hx hb dX9_count_26 ?_
      exact r_iret hx hb hr hlocks hK hI hS (Qp := Q) h dX9_count_27
  unfold f9_count at h
  refine lv_aload_n hx hb dX9_count_0 rfl (lv_at hl 0 rfl) ?_
  refine lv_iload_n hx hb dX9_count_1 rfl (lv_at hl 1 rfl) ?_
  refine r_iconst (n := 0) hx hb dX9_count_2 ?_
  refine r_bipush (n := 8) hx hb dX9_count_3 rfl ?_
  refine r_calli (va_runS (As := [.int (iI a0), .int (iI 0), .int (iI 8)]) (rest := [.ref (G.2.2.1 9 0)]) ⟨hx, hb, hml, hown, hts⟩ (m9_isIn l G _ st a0 0 8 h) (va_cwS 3 hts gX9_count_X9_isIn rfl rfl rfl hd9_isIn ⟨Nat.le_of_ble_eq_true rfl, Nat.le_of_ble_eq_true rfl⟩) (pre_S hK hX hI hA hS [.int (iI a0), .int (iI 0), .int (iI 8)]) rfl rfl hl.1 rfl (lv_room (Nat.le_of_ble_eq_true rfl)) dX9_count_5 ⟨Nat.le_of_ble_eq_true rfl, Nat.le_of_ble_eq_true rfl⟩) hS (fun z1 st2 h H locs hI hS => ?_)
  obtain ⟨g3, h⟩ := h
  refine r_if_eq (tgt := 15) hx hb dX9_count_8 (by decide) g3 (fun c4 => ?_) (fun c4 => ?_)
  · replace h := h.1 c4
    refine r_iconst (n := 1) hx hb dX9_count_15 ?_
    exact J16 st2 1 _ _ ls hI hS (lv_sub hl [0, 1] rfl) h
  · replace h := h.2 c4
    refine r_iconst (n := 0) hx hb dX9_count_11 ?_
    refine lv_goto (tgt := 16) hx hb dX9_count_12 (by decide) ?_
    exact J16 st2 0 _ _ ls hI hS (lv_sub hl [0, 1] rfl) h
theorem hd9_unit : yX9_unit.cls = RX9 ∧ yX9_unit.cls ≠ "java/lang/invoke/MethodHandle" ∧ yX9_unit.cls ≠ "java/lang/invoke/VarHandle" ∧ (parseMethodDescriptor yX9_unit.desc).map (fun d => d.parameters.length) = some 0 := by decide +kernel
set_option maxHeartbeats 4000000 in
set_option maxRecDepth 100000 in
theorem m9_unit (l : Launch) (G : WG)   (hv_this : vM 9 0) (Q : Int → St → Prop) (st : St)  (h : f9_unit Q st) : Met l yX9_unit wsX9_unit ({ frames := 4, cells := 0, slots := 0, locals := 108 }) (PcM vM G st [.ref (G.2.2.1 9 0)]) (QlM vM G Q) 0 0 G.2.2.2.1 := by
  refine Met.ofW (cc := cX9_unit) (maxL := 1) (ret := (some .long)) (by decide) rfl ?_
  intro p e s m args below meth c s₁ B hml hvv
  obtain ⟨rfl, hA, hI, hK, hX⟩ := hvv
  have hx := B.exec
  have hb := B.bytes
  have hr := B.returns
  have hts := atoms_spec (ws := wsX9_unit) B.pre
  have hown : s.vm.findClass RX9 = some m.cls := findClass_of_methodNamed B.named
  have hlocks := B.notSynchronized
  have hS : va_S G.2.2.2.1 s.heap s.heap [] := va_S.rf
  have in9 : ∀ w ∈ wsX90, w ∈ wsX9_unit := by decide +kernel
  have lk_46 := hts (.fieldLink RX9 46 "BeamLinesModel" "thrown" "I") (by decide +kernel)
  have lk_227 := hts (.fieldLink RX9 227 "BeamLinesModel" "unit" "J") (by decide +kernel)
  have hl := lv_entry ([.ref (G.2.2.1 9 0)]) (n := 1) (Nat.le_of_ble_eq_true rfl)
  rw [lg_entry_eq]
  generalize (lg_sl ([.ref (G.2.2.1 9 0)]) ++ List.replicate (1 - (lg_sl ([.ref (G.2.2.1 9 0)])).length) Slot.unset).toArray = ls at hl ⊢
  have hl : lv_has ls 1 [(0, .ref (G.2.2.1 9 0))] := hl
  unfold f9_unit at h
  refine lv_aload_n hx hb dX9_unit_0 rfl (lv_at hl 0 rfl) ?_
  refine r_iconst (n := 0) hx hb dX9_unit_1 ?_
  refine pp_9_6 hx hb hts in9 hown hK hI hS hv_this lk_46 dX9_unit_2 (fun st1 hst1 H locs hI hS => ?_)
  replace h := h st1 hst1
  refine lv_aload_n hx hb dX9_unit_5 rfl (lv_at hl 0 rfl) ?_
  refine r_callv (va_runV (As := []) (rest := []) ⟨hx, hb, hml, hown, hts⟩ (m9_lays l G hv_this _ st1 h) (cwV 0 hts gX9_unit_X9_lays rfl rfl rfl hd9_lays ⟨Nat.le_of_ble_eq_true rfl, Nat.le_of_ble_eq_true rfl⟩) (pre_V hK hX hI hA hS hv_this rfl rfl []) rfl rfl hl.1 rfl (lv_room (Nat.le_of_ble_eq_true rfl)) dX9_unit_6 ⟨Nat.le_of_ble_eq_true rfl, Nat.le_of_ble_eq_true rfl⟩) hS (fun st3 h H locs hI hS => ?_)
  refine lv_aload_n hx hb dX9_unit_9 rfl (lv_at hl 0 rfl) ?_
  refine gg_9_18 hx hb hts in9 hown hK hI hv_this lk_227 dX9_unit_10 ?_
  exact r_lret hx hb hr hlocks hK hI hS (Qp := Q) h dX9_unit_13
theorem hd9_isSupport : yX9_isSupport.cls = RX9 ∧ yX9_isSupport.cls ≠ "java/lang/invoke/MethodHandle" ∧ yX9_isSupport.cls ≠ "java/lang/invoke/VarHandle" ∧ (parseMethodDescriptor yX9_isSupport.desc).map (fun d => d.parameters.length) = some 1 := by decide +kernel
set_option maxHeartbeats 4000000 in
set_option maxRecDepth 100000 in
theorem m9_isSupport (l : Launch) (G : WG)   (hv_this : vM 9 0) (Q : Int → St → Prop) (st : St) (a0 : Int) (h : f9_isSupport Q st a0) : Met l yX9_isSupport wsX9_isSupport ({ frames := 1, cells := 0, slots := 0, locals := 22 }) (PcM vM G st [.ref (G.2.2.1 9 0), .int (iI a0)]) (QiM vM G Q) 0 0 G.2.2.2.1 := by
  refine Met.ofW (cc := cX9_isSupport) (maxL := 2) (ret := (some .boolean)) (by decide) rfl ?_
  intro p e s m args below meth c s₁ B hml hvv
  obtain ⟨rfl, hA, hI, hK, hX⟩ := hvv
  have hx := B.exec
  have hb := B.bytes
  have hr := B.returns
  have hts := atoms_spec (ws := wsX9_isSupport) B.pre
  have hown : s.vm.findClass RX9 = some m.cls := findClass_of_methodNamed B.named
  have hlocks := B.notSynchronized
  have hS : va_S G.2.2.2.1 s.heap s.heap [] := va_S.rf
  have in9 : ∀ w ∈ wsX90, w ∈ wsX9_isSupport := by decide +kernel
  have lk_7 := hts (.fieldLink RX9 7 "BeamLinesModel" "a" "[I") (by decide +kernel)
  have hl := lv_entry ([.ref (G.2.2.1 9 0), .int (iI a0)]) (n := 2) (Nat.le_of_ble_eq_true rfl)
  rw [lg_entry_eq]
  generalize (lg_sl ([.ref (G.2.2.1 9 0), .int (iI a0)]) ++ List.replicate (2 - (lg_sl ([.ref (G.2.2.1 9 0), .int (iI a0)])).length) Slot.unset).toArray = ls at hl ⊢
  have hl : lv_has ls 2 [(0, .ref (G.2.2.1 9 0)), (1, .int (iI a0))] := hl
  unfold f9_isSupport at h
  refine lv_iload_n hx hb dX9_isSupport_0 rfl (lv_at hl 1 rfl) ?_
  refine r_iconst (n := 0) hx hb dX9_isSupport_1 ?_
  refine lv_aload_n hx hb dX9_isSupport_2 rfl (lv_at hl 0 rfl) ?_
  refine gg_9_0 hx hb hts in9 hown hK hI hv_this lk_7 dX9_isSupport_3 ?_
  refine r_iconst (n := 2) hx hb dX9_isSupport_6 ?_
  refine r_iald hx hb hK hI (K := 30) (vrM_9_0 hv_this) rfl (mlen_le _) dX9_isSupport_7 (by decide) (by decide) ?_
  refine r_iconst (n := 1) hx hb dX9_isSupport_8 ?_
  refine r_isub hx hb dX9_isSupport_9 ?_
  refine r_calli (va_runS (As := [.int (iI a0), .int (iI 0), .int (iI ((st 30 0 0 2) - 1))]) (rest := []) ⟨hx, hb, hml, hown, hts⟩ (m9_isIn l G _ st a0 0 ((st 30 0 0 2) - 1) h) (va_cwS 3 hts gX9_isSupport_X9_isIn rfl rfl rfl hd9_isIn ⟨Nat.le_of_ble_eq_true rfl, Nat.le_of_ble_eq_true rfl⟩) (pre_S hK hX hI hA hS [.int (iI a0), .int (iI 0), .int (iI ((st 30 0 0 2) - 1))]) rfl rfl hl.1 rfl (lv_room (Nat.le_of_ble_eq_true rfl)) dX9_isSupport_10 ⟨Nat.le_of_ble_eq_true rfl, Nat.le_of_ble_eq_true rfl⟩) hS (fun z1 st2 h H locs hI hS => ?_)
  obtain ⟨g3, h⟩ := h
  exact r_zret hx hb hr hlocks hK hI hS (Qp := Q) g3 h dX9_isSupport_13
theorem hd9_isHinge : yX9_isHinge.cls = RX9 ∧ yX9_isHinge.cls ≠ "java/lang/invoke/MethodHandle" ∧ yX9_isHinge.cls ≠ "java/lang/invoke/VarHandle" ∧ (parseMethodDescriptor yX9_isHinge.desc).map (fun d => d.parameters.length) = some 1 := by decide +kernel
set_option maxHeartbeats 4000000 in
set_option maxRecDepth 100000 in
theorem m9_isHinge (l : Launch) (G : WG)   (hv_this : vM 9 0) (Q : Int → St → Prop) (st : St) (a0 : Int) (h : f9_isHinge Q st a0) : Met l yX9_isHinge wsX9_isHinge ({ frames := 1, cells := 0, slots := 0, locals := 22 }) (PcM vM G st [.ref (G.2.2.1 9 0), .int (iI a0)]) (QiM vM G Q) 0 0 G.2.2.2.1 := by
  refine Met.ofW (cc := cX9_isHinge) (maxL := 2) (ret := (some .boolean)) (by decide) rfl ?_
  intro p e s m args below meth c s₁ B hml hvv
  obtain ⟨rfl, hA, hI, hK, hX⟩ := hvv
  have hx := B.exec
  have hb := B.bytes
  have hr := B.returns
  have hts := atoms_spec (ws := wsX9_isHinge) B.pre
  have hown : s.vm.findClass RX9 = some m.cls := findClass_of_methodNamed B.named
  have hlocks := B.notSynchronized
  have hS : va_S G.2.2.2.1 s.heap s.heap [] := va_S.rf
  have in9 : ∀ w ∈ wsX90, w ∈ wsX9_isHinge := by decide +kernel
  have lk_7 := hts (.fieldLink RX9 7 "BeamLinesModel" "a" "[I") (by decide +kernel)
  have hl := lv_entry ([.ref (G.2.2.1 9 0), .int (iI a0)]) (n := 2) (Nat.le_of_ble_eq_true rfl)
  rw [lg_entry_eq]
  generalize (lg_sl ([.ref (G.2.2.1 9 0), .int (iI a0)]) ++ List.replicate (2 - (lg_sl ([.ref (G.2.2.1 9 0), .int (iI a0)])).length) Slot.unset).toArray = ls at hl ⊢
  have hl : lv_has ls 2 [(0, .ref (G.2.2.1 9 0)), (1, .int (iI a0))] := hl
  unfold f9_isHinge at h
  refine lv_iload_n hx hb dX9_isHinge_0 rfl (lv_at hl 1 rfl) ?_
  refine r_iconst (n := 0) hx hb dX9_isHinge_1 ?_
  refine lv_aload_n hx hb dX9_isHinge_2 rfl (lv_at hl 0 rfl) ?_
  refine gg_9_0 hx hb hts in9 hown hK hI hv_this lk_7 dX9_isHinge_3 ?_
  refine r_iconst (n := 3) hx hb dX9_isHinge_6 ?_
  refine r_iald hx hb hK hI (K := 30) (vrM_9_0 hv_this) rfl (mlen_le _) dX9_isHinge_7 (by decide) (by decide) ?_
  refine r_iconst (n := 1) hx hb dX9_isHinge_8 ?_
  refine r_isub hx hb dX9_isHinge_9 ?_
  refine r_calli (va_runS (As := [.int (iI a0), .int (iI 0), .int (iI ((st 30 0 0 3) - 1))]) (rest := []) ⟨hx, hb, hml, hown, hts⟩ (m9_isIn l G _ st a0 0 ((st 30 0 0 3) - 1) h) (va_cwS 3 hts gX9_isHinge_X9_isIn rfl rfl rfl hd9_isIn ⟨Nat.le_of_ble_eq_true rfl, Nat.le_of_ble_eq_true rfl⟩) (pre_S hK hX hI hA hS [.int (iI a0), .int (iI 0), .int (iI ((st 30 0 0 3) - 1))]) rfl rfl hl.1 rfl (lv_room (Nat.le_of_ble_eq_true rfl)) dX9_isHinge_10 ⟨Nat.le_of_ble_eq_true rfl, Nat.le_of_ble_eq_true rfl⟩) hS (fun z1 st2 h H locs hI hS => ?_)
  obtain ⟨g3, h⟩ := h
  exact r_zret hx hb hr hlocks hK hI hS (Qp := Q) g3 h dX9_isHinge_13
theorem hd9_isPlace : yX9_isPlace.cls = RX9 ∧ yX9_isPlace.cls ≠ "java/lang/invoke/MethodHandle" ∧ yX9_isPlace.cls ≠ "java/lang/invoke/VarHandle" ∧ (parseMethodDescriptor yX9_isPlace.desc).map (fun d => d.parameters.length) = some 1 := by decide +kernel
set_option maxHeartbeats 4000000 in
set_option maxRecDepth 100000 in
theorem m9_isPlace (l : Launch) (G : WG)   (hv_this : vM 9 0) (Q : Int → St → Prop) (st : St) (a0 : Int) (h : f9_isPlace Q st a0) : Met l yX9_isPlace wsX9_isPlace ({ frames := 1, cells := 0, slots := 0, locals := 22 }) (PcM vM G st [.ref (G.2.2.1 9 0), .int (iI a0)]) (QiM vM G Q) 0 0 G.2.2.2.1 := by
  refine Met.ofW (cc := cX9_isPlace) (maxL := 2) (ret := (some .boolean)) (by decide) rfl ?_
  intro p e s m args below meth c s₁ B hml hvv
  obtain ⟨rfl, hA, hI, hK, hX⟩ := hvv
  have hx := B.exec
  have hb := B.bytes
  have hr := B.returns
  have hts := atoms_spec (ws := wsX9_isPlace) B.pre
  have hown : s.vm.findClass RX9 = some m.cls := findClass_of_methodNamed B.named
  have hlocks := B.notSynchronized
  have hS : va_S G.2.2.2.1 s.heap s.heap [] := va_S.rf
  have in9 : ∀ w ∈ wsX90, w ∈ wsX9_isPlace := by decide +kernel
  have lk_7 := hts (.fieldLink RX9 7 "BeamLinesModel" "a" "[I") (by decide +kernel)
  have hl := lv_entry ([.ref (G.2.2.1 9 0), .int (iI a0)]) (n := 2) (Nat.le_of_ble_eq_true rfl)
  rw [lg_entry_eq]
  generalize (lg_sl ([.ref (G.2.2.1 9 0), .int (iI a0)]) ++ List.replicate (2 - (lg_sl ([.ref (G.2.2.1 9 0), .int (iI a0)])).length) Slot.unset).toArray = ls at hl ⊢
  have hl : lv_has ls 2 [(0, .ref (G.2.2.1 9 0)), (1, .int (iI a0))] := hl
  unfold f9_isPlace at h
  refine lv_iload_n hx hb dX9_isPlace_0 rfl (lv_at hl 1 rfl) ?_
  refine r_iconst (n := 0) hx hb dX9_isPlace_1 ?_
  refine lv_aload_n hx hb dX9_isPlace_2 rfl (lv_at hl 0 rfl) ?_
  refine gg_9_0 hx hb hts in9 hown hK hI hv_this lk_7 dX9_isPlace_3 ?_
  refine r_iconst (n := 0) hx hb dX9_isPlace_6 ?_
  refine r_iald hx hb hK hI (K := 30) (vrM_9_0 hv_this) rfl (mlen_le _) dX9_isPlace_7 (by decide) (by decide) ?_
  refine r_calli (va_runS (As := [.int (iI a0), .int (iI 0), .int (iI (st 30 0 0 0))]) (rest := []) ⟨hx, hb, hml, hown, hts⟩ (m9_isIn l G _ st a0 0 (st 30 0 0 0) h) (va_cwS 3 hts gX9_isPlace_X9_isIn rfl rfl rfl hd9_isIn ⟨Nat.le_of_ble_eq_true rfl, Nat.le_of_ble_eq_true rfl⟩) (pre_S hK hX hI hA hS [.int (iI a0), .int (iI 0), .int (iI (st 30 0 0 0))]) rfl rfl hl.1 rfl (lv_room (Nat.le_of_ble_eq_true rfl)) dX9_isPlace_8 ⟨Nat.le_of_ble_eq_true rfl, Nat.le_of_ble_eq_true rfl⟩) hS (fun z1 st2 h H locs hI hS => ?_)
  obtain ⟨g3, h⟩ := h
  exact r_zret hx hb hr hlocks hK hI hS (Qp := Q) g3 h dX9_isPlace_11
theorem hd9_isField : yX9_isField.cls = RX9 ∧ yX9_isField.cls ≠ "java/lang/invoke/MethodHandle" ∧ yX9_isField.cls ≠ "java/lang/invoke/VarHandle" ∧ (parseMethodDescriptor yX9_isField.desc).map (fun d => d.parameters.length) = some 1 := by decide +kernel
set_option maxHeartbeats 4000000 in
set_option maxRecDepth 100000 in
theorem m9_isField (l : Launch) (G : WG)   (hv_this : vM 9 0) (Q : Int → St → Prop) (st : St) (a0 : Int) (h : f9_isField Q st a0) : Met l yX9_isField wsX9_isField ({ frames := 1, cells := 0, slots := 0, locals := 22 }) (PcM vM G st [.ref (G.2.2.1 9 0), .int (iI a0)]) (QiM vM G Q) 0 0 G.2.2.2.1 := by
  refine Met.ofW (cc := cX9_isField) (maxL := 2) (ret := (some .boolean)) (by decide) rfl ?_
  intro p e s m args below meth c s₁ B hml hvv
  obtain ⟨rfl, hA, hI, hK, hX⟩ := hvv
  have hx := B.exec
  have hb := B.bytes
  have hr := B.returns
  have hts := atoms_spec (ws := wsX9_isField) B.pre
  have hown : s.vm.findClass RX9 = some m.cls := findClass_of_methodNamed B.named
  have hlocks := B.notSynchronized
  have hS : va_S G.2.2.2.1 s.heap s.heap [] := va_S.rf
  have in9 : ∀ w ∈ wsX90, w ∈ wsX9_isField := by decide +kernel
  have lk_7 := hts (.fieldLink RX9 7 "BeamLinesModel" "a" "[I") (by decide +kernel)
  have hl := lv_entry ([.ref (G.2.2.1 9 0), .int (iI a0)]) (n := 2) (Nat.le_of_ble_eq_true rfl)
  rw [lg_entry_eq]
  generalize (lg_sl ([.ref (G.2.2.1 9 0), .int (iI a0)]) ++ List.replicate (2 - (lg_sl ([.ref (G.2.2.1 9 0), .int (iI a0)])).length) Slot.unset).toArray = ls at hl ⊢
  have hl : lv_has ls 2 [(0, .ref (G.2.2.1 9 0)), (1, .int (iI a0))] := hl
  unfold f9_isField at h
  refine lv_iload_n hx hb dX9_isField_0 rfl (lv_at hl 1 rfl) ?_
  refine r_iconst (n := 0) hx hb dX9_isField_1 ?_
  refine lv_aload_n hx hb dX9_isField_2 rfl (lv_at hl 0 rfl) ?_
  refine gg_9_0 hx hb hts in9 hown hK hI hv_this lk_7 dX9_isField_3 ?_
  refine r_iconst (n := 0) hx hb dX9_isField_6 ?_
  refine r_iald hx hb hK hI (K := 30) (vrM_9_0 hv_this) rfl (mlen_le _) dX9_isField_7 (by decide) (by decide) ?_
  refine r_iconst (n := 1) hx hb dX9_isField_8 ?_
  refine r_isub hx hb dX9_isField_9 ?_
  refine r_calli (va_runS (As := [.int (iI a0), .int (iI 0), .int (iI ((st 30 0 0 0) - 1))]) (rest := []) ⟨hx, hb, hml, hown, hts⟩ (m9_isIn l G _ st a0 0 ((st 30 0 0 0) - 1) h) (va_cwS 3 hts gX9_isField_X9_isIn rfl rfl rfl hd9_isIn ⟨Nat.le_of_ble_eq_true rfl, Nat.le_of_ble_eq_true rfl⟩) (pre_S hK hX hI hA hS [.int (iI a0), .int (iI 0), .int (iI ((st 30 0 0 0) - 1))]) rfl rfl hl.1 rfl (lv_room (Nat.le_of_ble_eq_true rfl)) dX9_isField_10 ⟨Nat.le_of_ble_eq_true rfl, Nat.le_of_ble_eq_true rfl⟩) hS (fun z1 st2 h H locs hI hS => ?_)
  obtain ⟨g3, h⟩ := h
  exact r_zret hx hb hr hlocks hK hI hS (Qp := Q) g3 h dX9_isField_13
theorem hd9_support : yX9_support.cls = RX9 ∧ yX9_support.cls ≠ "java/lang/invoke/MethodHandle" ∧ yX9_support.cls ≠ "java/lang/invoke/VarHandle" ∧ (parseMethodDescriptor yX9_support.desc).map (fun d => d.parameters.length) = some 2 := by decide +kernel
set_option maxHeartbeats 4000000 in
set_option maxRecDepth 100000 in
theorem m9_support (l : Launch) (G : WG)   (hv_this : vM 9 0) (Q : Int → St → Prop) (st : St) (a0 : Int) (a1 : Int) (h : f9_support Q st a0 a1) : Met l yX9_support wsX9_support ({ frames := 2, cells := 0, slots := 0, locals := 43 }) (PcM vM G st [.ref (G.2.2.1 9 0), .int (iI a0), .int (iI a1)]) (QiM vM G Q) 0 0 G.2.2.2.1 := by
  refine Met.ofW (cc := cX9_support) (maxL := 3) (ret := (some .int)) (by decide) rfl ?_
  intro p e s m args below meth c s₁ B hml hvv
  obtain ⟨rfl, hA, hI, hK, hX⟩ := hvv
  have hx := B.exec
  have hb := B.bytes
  have hr := B.returns
  have hts := atoms_spec (ws := wsX9_support) B.pre
  have hown : s.vm.findClass RX9 = some m.cls := findClass_of_methodNamed B.named
  have hlocks := B.notSynchronized
  have hS : va_S G.2.2.2.1 s.heap s.heap [] := va_S.rf
  have in9 : ∀ w ∈ wsX90, w ∈ wsX9_support := by decide +kernel
  have lk_7 := hts (.fieldLink RX9 7 "BeamLinesModel" "a" "[I") (by decide +kernel)
  have lk_46 := hts (.fieldLink RX9 46 "BeamLinesModel" "thrown" "I") (by decide +kernel)
  have hl := lv_entry ([.ref (G.2.2.1 9 0), .int (iI a0), .int (iI a1)]) (n := 3) (Nat.le_of_ble_eq_true rfl)
  rw [lg_entry_eq]
  generalize (lg_sl ([.ref (G.2.2.1 9 0), .int (iI a0), .int (iI a1)]) ++ List.replicate (3 - (lg_sl ([.ref (G.2.2.1 9 0), .int (iI a0), .int (iI a1)])).length) Slot.unset).toArray = ls at hl ⊢
  have hl : lv_has ls 3 [(0, .ref (G.2.2.1 9 0)), (1, .int (iI a0)), (2, .int (iI a1))] := hl
  have J27 : ∀ (st : St) (s0x27 : Int) (H : Heap) (locs : List Loc) (ls : Array Slot), Iv vM G st H → va_S G.2.2.2.1 s.heap H locs → lv_has ls 3 [(0, .ref (G.2.2.1 9 0)), (1, .int (iI a0)), (2, .int (iI a1))] → f9_support_j27 Q a0 a1 st s0x27 → W p l e (headSpec wsX9_support ({ frames := 2, cells := 0, slots := 0, locals := 43 })).room s m ([.ref (G.2.2.1 9 0), .int (iI a0), .int (iI a1)] : List Value).toArray below meth c H locs 0 0 (MQ below (QiM vM G Q) ([.ref (G.2.2.1 9 0), .int (iI a0), .int (iI a1)] : List Value).toArray s 0 0 G.2.2.2.1) (F0 m 27 ls [.int (iI s0x27), .ref (G.2.2.1 9 0)]) := by
    intro st s0x27 H locs ls hI hS hl h
    unfold f9_support_j27 at h
    refine pp_9_6 hx hb hts in9 hown hK hI hS hv_this lk_46 dX9_support_27 (fun st9 hst9 H locs hI hS => ?_)
    replace h := h st9 hst9
    refine lv_aload_n hx hb dX9_support_30 rfl (lv_at hl 0 rfl) ?_
    refine gg_9_6 hx hb hts in9 hown hK hI hv_this lk_46 dX9_support_31 ?_
    obtain ⟨g10, h⟩ := h
    refine r_if_le (tgt := 41) hx hb dX9_support_34 (by decide) g10 (fun c11 => ?_) (fun c11 => ?_)
    · replace h := h.1 c11
      refine lv_aload_n hx hb dX9_support_41 rfl (lv_at hl 0 rfl) ?_
      refine gg_9_0 hx hb hts in9 hown hK hI hv_this lk_7 dX9_support_42 ?_
      refine r_bipush (n := 6) hx hb dX9_support_45 rfl ?_
      refine r_iconst (n := 2) hx hb dX9_support_47 ?_
      refine lv_iload_n hx hb dX9_support_48 rfl (lv_at hl 1 rfl) ?_
      refine r_imul hx hb dX9_support_49 ?_
      refine r_iadd hx hb dX9_support_50 ?_
      refine lv_iload_n hx hb dX9_support_51 rfl (lv_at hl 2 rfl) ?_
      refine r_iadd hx hb dX9_support_52 ?_
      obtain ⟨g12, g13, h⟩ := h
      refine r_iald hx hb hK hI (K := 30) (vrM_9_0 hv_this) rfl (mlen_le _) dX9_support_53 g12 g13 ?_
      exact r_iret hx hb hr hlocks hK hI hS (Qp := Q) h dX9_support_54
    · replace h := h.2 c11
      refine r_iconst (n := 0) hx hb dX9_support_37 ?_
      refine lv_goto (tgt := 54) hx hb dX9_support_38 (by decide) ?_
      exact r_iret hx hb hr hlocks hK hI hS (Qp := Q) h dX9_support_54
  unfold f9_support at h
  refine lv_aload_n hx hb dX9_support_0 rfl (lv_at hl 0 rfl) ?_
  refine lv_aload_n hx hb dX9_support_1 rfl (lv_at hl 0 rfl) ?_
  refine lv_iload_n hx hb dX9_support_2 rfl (lv_at hl 1 rfl) ?_
  refine r_calli (va_runV (As := [.int (iI a0)]) (rest := [.ref (G.2.2.1 9 0)]) ⟨hx, hb, hml, hown, hts⟩ (m9_isSupport l G hv_this _ st a0 h) (cwV 1 hts gX9_support_X9_isSupport rfl rfl rfl hd9_isSupport ⟨Nat.le_of_ble_eq_true rfl, Nat.le_of_ble_eq_true rfl⟩) (pre_V hK hX hI hA hS hv_this rfl rfl [.int (iI a0)]) rfl rfl hl.1 rfl (lv_room (Nat.le_of_ble_eq_true rfl)) dX9_support_3 ⟨Nat.le_of_ble_eq_true rfl, Nat.le_of_ble_eq_true rfl⟩) hS (fun z1 st2 h H locs hI hS => ?_)
  obtain ⟨g3, h⟩ := h
  refine r_if_ne (tgt := 13) hx hb dX9_support_6 (by decide) g3 (fun c4 => ?_) (fun c4 => ?_)
  · replace h := h.2 c4
    refine lv_iload_n hx hb dX9_support_13 rfl (lv_at hl 2 rfl) ?_
    refine r_iconst (n := 0) hx hb dX9_support_14 ?_
    refine r_iconst (n := 1) hx hb dX9_support_15 ?_
    refine r_calli (va_runS (As := [.int (iI a1), .int (iI 0), .int (iI 1)]) (rest := [.ref (G.2.2.1 9 0)]) ⟨hx, hb, hml, hown, hts⟩ (m9_isIn l G _ st2 a1 0 1 h) (va_cwS 3 hts gX9_support_X9_isIn rfl rfl rfl hd9_isIn ⟨Nat.le_of_ble_eq_true rfl, Nat.le_of_ble_eq_true rfl⟩) (pre_S hK hX hI hA hS [.int (iI a1), .int (iI 0), .int (iI 1)]) rfl rfl hl.1 rfl (lv_room (Nat.le_of_ble_eq_true rfl)) dX9_support_16 ⟨Nat.le_of_ble_eq_true rfl, Nat.le_of_ble_eq_true rfl⟩) hS (fun z5 st6 h H locs hI hS => ?_)
    obtain ⟨g7, h⟩ := h
    refine r_if_eq (tgt := 26) hx hb dX9_support_19 (by decide) g7 (fun c8 => ?_) (fun c8 => ?_)
    · replace h := h.1 c8
      refine r_iconst (n := 2) hx hb dX9_support_26 ?_
      exact J27 st6 2 _ _ ls hI hS (lv_sub hl [0, 1, 2] rfl) h
    · replace h := h.2 c8
      refine r_iconst (n := 0) hx hb dX9_support_22 ?_
      refine lv_goto (tgt := 27) hx hb dX9_support_23 (by decide) ?_
      exact J27 st6 0 _ _ ls hI hS (lv_sub hl [0, 1, 2] rfl) h
  · replace h := h.1 c4
    refine r_iconst (n := 1) hx hb dX9_support_9 ?_
    refine lv_goto (tgt := 27) hx hb dX9_support_10 (by decide) ?_
    exact J27 st2 1 _ _ ls hI hS (lv_sub hl [0, 1, 2] rfl) h
theorem hd9_hinge : yX9_hinge.cls = RX9 ∧ yX9_hinge.cls ≠ "java/lang/invoke/MethodHandle" ∧ yX9_hinge.cls ≠ "java/lang/invoke/VarHandle" ∧ (parseMethodDescriptor yX9_hinge.desc).map (fun d => d.parameters.length) = some 1 := by decide +kernel
set_option maxHeartbeats 4000000 in
set_option maxRecDepth 100000 in
theorem m9_hinge (l : Launch) (G : WG)   (hv_this : vM 9 0) (Q : Int → St → Prop) (st : St) (a0 : Int) (h : f9_hinge Q st a0) : Met l yX9_hinge wsX9_hinge ({ frames := 2, cells := 0, slots := 0, locals := 43 }) (PcM vM G st [.ref (G.2.2.1 9 0), .int (iI a0)]) (QiM vM G Q) 0 0 G.2.2.2.1 := by
  refine Met.ofW (cc := cX9_hinge) (maxL := 2) (ret := (some .int)) (by decide) rfl ?_
  intro p e s m args below meth c s₁ B hml hvv
  obtain ⟨rfl, hA, hI, hK, hX⟩ := hvv
  have hx := B.exec
  have hb := B.bytes
  have hr := B.returns
  have hts := atoms_spec (ws := wsX9_hinge) B.pre
  have hown : s.vm.findClass RX9 = some m.cls := findClass_of_methodNamed B.named
  have hlocks := B.notSynchronized
  have hS : va_S G.2.2.2.1 s.heap s.heap [] := va_S.rf
  have in9 : ∀ w ∈ wsX90, w ∈ wsX9_hinge := by decide +kernel
  have lk_7 := hts (.fieldLink RX9 7 "BeamLinesModel" "a" "[I") (by decide +kernel)
  have lk_46 := hts (.fieldLink RX9 46 "BeamLinesModel" "thrown" "I") (by decide +kernel)
  have hl := lv_entry ([.ref (G.2.2.1 9 0), .int (iI a0)]) (n := 2) (Nat.le_of_ble_eq_true rfl)
  rw [lg_entry_eq]
  generalize (lg_sl ([.ref (G.2.2.1 9 0), .int (iI a0)]) ++ List.replicate (2 - (lg_sl ([.ref (G.2.2.1 9 0), .int (iI a0)])).length) Slot.unset).toArray = ls at hl ⊢
  have hl : lv_has ls 2 [(0, .ref (G.2.2.1 9 0)), (1, .int (iI a0))] := hl
  have J14 : ∀ (st : St) (s0x14 : Int) (H : Heap) (locs : List Loc) (ls : Array Slot), Iv vM G st H → va_S G.2.2.2.1 s.heap H locs → lv_has ls 2 [(0, .ref (G.2.2.1 9 0)), (1, .int (iI a0))] → f9_hinge_j14 Q a0 st s0x14 → W p l e (headSpec wsX9_hinge ({ frames := 2, cells := 0, slots := 0, locals := 43 })).room s m ([.ref (G.2.2.1 9 0), .int (iI a0)] : List Value).toArray below meth c H locs 0 0 (MQ below (QiM vM G Q) ([.ref (G.2.2.1 9 0), .int (iI a0)] : List Value).toArray s 0 0 G.2.2.2.1) (F0 m 14 ls [.int (iI s0x14), .ref (G.2.2.1 9 0)]) := by
    intro st s0x14 H locs ls hI hS hl h
    unfold f9_hinge_j14 at h
    refine pp_9_6 hx hb hts in9 hown hK hI hS hv_this lk_46 dX9_hinge_14 (fun st5 hst5 H locs hI hS => ?_)
    replace h := h st5 hst5
    refine lv_aload_n hx hb dX9_hinge_17 rfl (lv_at hl 0 rfl) ?_
    refine gg_9_6 hx hb hts in9 hown hK hI hv_this lk_46 dX9_hinge_18 ?_
    obtain ⟨g6, h⟩ := h
    refine r_if_le (tgt := 28) hx hb dX9_hinge_21 (by decide) g6 (fun c7 => ?_) (fun c7 => ?_)
    · replace h := h.1 c7
      refine lv_aload_n hx hb dX9_hinge_28 rfl (lv_at hl 0 rfl) ?_
      refine gg_9_0 hx hb hts in9 hown hK hI hv_this lk_7 dX9_hinge_29 ?_
      refine r_bipush (n := 16) hx hb dX9_hinge_32 rfl ?_
      refine lv_iload_n hx hb dX9_hinge_34 rfl (lv_at hl 1 rfl) ?_
      refine r_iadd hx hb dX9_hinge_35 ?_
      obtain ⟨g8, g9, h⟩ := h
      refine r_iald hx hb hK hI (K := 30) (vrM_9_0 hv_this) rfl (mlen_le _) dX9_hinge_36 g8 g9 ?_
      exact r_iret hx hb hr hlocks hK hI hS (Qp := Q) h dX9_hinge_37
    · replace h := h.2 c7
      refine r_iconst (n := 0) hx hb dX9_hinge_24 ?_
      refine lv_goto (tgt := 37) hx hb dX9_hinge_25 (by decide) ?_
      exact r_iret hx hb hr hlocks hK hI hS (Qp := Q) h dX9_hinge_37
  unfold f9_hinge at h
  refine lv_aload_n hx hb dX9_hinge_0 rfl (lv_at hl 0 rfl) ?_
  refine lv_aload_n hx hb dX9_hinge_1 rfl (lv_at hl 0 rfl) ?_
  refine lv_iload_n hx hb dX9_hinge_2 rfl (lv_at hl 1 rfl) ?_
  refine r_calli (va_runV (As := [.int (iI a0)]) (rest := [.ref (G.2.2.1 9 0)]) ⟨hx, hb, hml, hown, hts⟩ (m9_isHinge l G hv_this _ st a0 h) (cwV 1 hts gX9_hinge_X9_isHinge rfl rfl rfl hd9_isHinge ⟨Nat.le_of_ble_eq_true rfl, Nat.le_of_ble_eq_true rfl⟩) (pre_V hK hX hI hA hS hv_this rfl rfl [.int (iI a0)]) rfl rfl hl.1 rfl (lv_room (Nat.le_of_ble_eq_true rfl)) dX9_hinge_3 ⟨Nat.le_of_ble_eq_true rfl, Nat.le_of_ble_eq_true rfl⟩) hS (fun z1 st2 h H locs hI hS => ?_)
  obtain ⟨g3, h⟩ := h
  refine r_if_eq (tgt := 13) hx hb dX9_hinge_6 (by decide) g3 (fun c4 => ?_) (fun c4 => ?_)
  · replace h := h.1 c4
    refine r_iconst (n := 1) hx hb dX9_hinge_13 ?_
    exact J14 st2 1 _ _ ls hI hS (lv_sub hl [0, 1] rfl) h
  · replace h := h.2 c4
    refine r_iconst (n := 0) hx hb dX9_hinge_9 ?_
    refine lv_goto (tgt := 14) hx hb dX9_hinge_10 (by decide) ?_
    exact J14 st2 0 _ _ ls hI hS (lv_sub hl [0, 1] rfl) h
theorem hd9_weight : yX9_weight.cls = RX9 ∧ yX9_weight.cls ≠ "java/lang/invoke/MethodHandle" ∧ yX9_weight.cls ≠ "java/lang/invoke/VarHandle" ∧ (parseMethodDescriptor yX9_weight.desc).map (fun d => d.parameters.length) = some 2 := by decide +kernel
set_option maxHeartbeats 4000000 in
set_option maxRecDepth 100000 in
theorem m9_weight (l : Launch) (G : WG)   (hv_this : vM 9 0) (Q : Int → St → Prop) (st : St) (a0 : Int) (a1 : Int) (h : f9_weight Q st a0 a1) : Met l yX9_weight wsX9_weight ({ frames := 1, cells := 0, slots := 0, locals := 22 }) (PcM vM G st [.ref (G.2.2.1 9 0), .int (iI a0), .int (iI a1)]) (QiM vM G Q) 0 0 G.2.2.2.1 := by
  refine Met.ofW (cc := cX9_weight) (maxL := 3) (ret := (some .int)) (by decide) rfl ?_
  intro p e s m args below meth c s₁ B hml hvv
  obtain ⟨rfl, hA, hI, hK, hX⟩ := hvv
  have hx := B.exec
  have hb := B.bytes
  have hr := B.returns
  have hts := atoms_spec (ws := wsX9_weight) B.pre
  have hown : s.vm.findClass RX9 = some m.cls := findClass_of_methodNamed B.named
  have hlocks := B.notSynchronized
  have hS : va_S G.2.2.2.1 s.heap s.heap [] := va_S.rf
  have in9 : ∀ w ∈ wsX90, w ∈ wsX9_weight := by decide +kernel
  have lk_7 := hts (.fieldLink RX9 7 "BeamLinesModel" "a" "[I") (by decide +kernel)
  have lk_46 := hts (.fieldLink RX9 46 "BeamLinesModel" "thrown" "I") (by decide +kernel)
  have hl := lv_entry ([.ref (G.2.2.1 9 0), .int (iI a0), .int (iI a1)]) (n := 3) (Nat.le_of_ble_eq_true rfl)
  rw [lg_entry_eq]
  generalize (lg_sl ([.ref (G.2.2.1 9 0), .int (iI a0), .int (iI a1)]) ++ List.replicate (3 - (lg_sl ([.ref (G.2.2.1 9 0), .int (iI a0), .int (iI a1)])).length) Slot.unset).toArray = ls at hl ⊢
  have hl : lv_has ls 3 [(0, .ref (G.2.2.1 9 0)), (1, .int (iI a0)), (2, .int (iI a1))] := hl
  have J35 : ∀ (st : St) (s0x35 : Int) (H : Heap) (locs : List Loc) (ls : Array Slot), Iv vM G st H → va_S G.2.2.2.1 s.heap H locs → lv_has ls 3 [(0, .ref (G.2.2.1 9 0)), (1, .int (iI a0)), (2, .int (iI a1))] → f9_weight_j35 Q a0 a1 st s0x35 → W p l e (headSpec wsX9_weight ({ frames := 1, cells := 0, slots := 0, locals := 22 })).room s m ([.ref (G.2.2.1 9 0), .int (iI a0), .int (iI a1)] : List Value).toArray below meth c H locs 0 0 (MQ below (QiM vM G Q) ([.ref (G.2.2.1 9 0), .int (iI a0), .int (iI a1)] : List Value).toArray s 0 0 G.2.2.2.1) (F0 m 35 ls [.int (iI s0x35), .ref (G.2.2.1 9 0)]) := by
    intro st s0x35 H locs ls hI hS hl h
    unfold f9_weight_j35 at h
    refine pp_9_6 hx hb hts in9 hown hK hI hS hv_this lk_46 dX9_weight_35 (fun st9 hst9 H locs hI hS => ?_)
    replace h := h st9 hst9
    refine lv_aload_n hx hb dX9_weight_38 rfl (lv_at hl 0 rfl) ?_
    refine gg_9_6 hx hb hts in9 hown hK hI hv_this lk_46 dX9_weight_39 ?_
    obtain ⟨g10, h⟩ := h
    refine r_if_le (tgt := 49) hx hb dX9_weight_42 (by decide) g10 (fun c11 => ?_) (fun c11 => ?_)
    · replace h := h.1 c11
      refine lv_aload_n hx hb dX9_weight_49 rfl (lv_at hl 0 rfl) ?_
      refine gg_9_0 hx hb hts in9 hown hK hI hv_this lk_7 dX9_weight_50 ?_
      refine r_bipush (n := 19) hx hb dX9_weight_53 rfl ?_
      refine r_iconst (n := 2) hx hb dX9_weight_55 ?_
      refine lv_iload_n hx hb dX9_weight_56 rfl (lv_at hl 1 rfl) ?_
      refine r_imul hx hb dX9_weight_57 ?_
      refine r_iadd hx hb dX9_weight_58 ?_
      refine lv_iload_n hx hb dX9_weight_59 rfl (lv_at hl 2 rfl) ?_
      refine r_iadd hx hb dX9_weight_60 ?_
      obtain ⟨g12, g13, h⟩ := h
      refine r_iald hx hb hK hI (K := 30) (vrM_9_0 hv_this) rfl (mlen_le _) dX9_weight_61 g12 g13 ?_
      exact r_iret hx hb hr hlocks hK hI hS (Qp := Q) h dX9_weight_62
    · replace h := h.2 c11
      refine r_iconst (n := 0) hx hb dX9_weight_45 ?_
      refine lv_goto (tgt := 62) hx hb dX9_weight_46 (by decide) ?_
      exact r_iret hx hb hr hlocks hK hI hS (Qp := Q) h dX9_weight_62
  unfold f9_weight at h
  refine lv_aload_n hx hb dX9_weight_0 rfl (lv_at hl 0 rfl) ?_
  refine lv_iload_n hx hb dX9_weight_1 rfl (lv_at hl 1 rfl) ?_
  refine r_iconst (n := 0) hx hb dX9_weight_2 ?_
  refine lv_aload_n hx hb dX9_weight_3 rfl (lv_at hl 0 rfl) ?_
  refine gg_9_0 hx hb hts in9 hown hK hI hv_this lk_7 dX9_weight_4 ?_
  refine r_iconst (n := 4) hx hb dX9_weight_7 ?_
  refine r_iald hx hb hK hI (K := 30) (vrM_9_0 hv_this) rfl (mlen_le _) dX9_weight_8 (by decide) (by decide) ?_
  refine r_iconst (n := 1) hx hb dX9_weight_9 ?_
  refine r_isub hx hb dX9_weight_10 ?_
  refine r_calli (va_runS (As := [.int (iI a0), .int (iI 0), .int (iI ((st 30 0 0 4) - 1))]) (rest := [.ref (G.2.2.1 9 0)]) ⟨hx, hb, hml, hown, hts⟩ (m9_isIn l G _ st a0 0 ((st 30 0 0 4) - 1) h) (va_cwS 3 hts gX9_weight_X9_isIn rfl rfl rfl hd9_isIn ⟨Nat.le_of_ble_eq_true rfl, Nat.le_of_ble_eq_true rfl⟩) (pre_S hK hX hI hA hS [.int (iI a0), .int (iI 0), .int (iI ((st 30 0 0 4) - 1))]) rfl rfl hl.1 rfl (lv_room (Nat.le_of_ble_eq_true rfl)) dX9_weight_11 ⟨Nat.le_of_ble_eq_true rfl, Nat.le_of_ble_eq_true rfl⟩) hS (fun z1 st2 h H locs hI hS => ?_)
  obtain ⟨g3, h⟩ := h
  refine r_if_ne (tgt := 21) hx hb dX9_weight_14 (by decide) g3 (fun c4 => ?_) (fun c4 => ?_)
  · replace h := h.2 c4
    refine lv_iload_n hx hb dX9_weight_21 rfl (lv_at hl 2 rfl) ?_
    refine r_iconst (n := 0) hx hb dX9_weight_22 ?_
    refine r_iconst (n := 1) hx hb dX9_weight_23 ?_
    refine r_calli (va_runS (As := [.int (iI a1), .int (iI 0), .int (iI 1)]) (rest := [.ref (G.2.2.1 9 0)]) ⟨hx, hb, hml, hown, hts⟩ (m9_isIn l G _ st2 a1 0 1 h) (va_cwS 3 hts gX9_weight_X9_isIn rfl rfl rfl hd9_isIn ⟨Nat.le_of_ble_eq_true rfl, Nat.le_of_ble_eq_true rfl⟩) (pre_S hK hX hI hA hS [.int (iI a1), .int (iI 0), .int (iI 1)]) rfl rfl hl.1 rfl (lv_room (Nat.le_of_ble_eq_true rfl)) dX9_weight_24 ⟨Nat.le_of_ble_eq_true rfl, Nat.le_of_ble_eq_true rfl⟩) hS (fun z5 st6 h H locs hI hS => ?_)
    obtain ⟨g7, h⟩ := h
    refine r_if_eq (tgt := 34) hx hb dX9_weight_27 (by decide) g7 (fun c8 => ?_) (fun c8 => ?_)
    · replace h := h.1 c8
      refine r_iconst (n := 2) hx hb dX9_weight_34 ?_
      exact J35 st6 2 _ _ ls hI hS (lv_sub hl [0, 1, 2] rfl) h
    · replace h := h.2 c8
      refine r_iconst (n := 0) hx hb dX9_weight_30 ?_
      refine lv_goto (tgt := 35) hx hb dX9_weight_31 (by decide) ?_
      exact J35 st6 0 _ _ ls hI hS (lv_sub hl [0, 1, 2] rfl) h
  · replace h := h.1 c4
    refine r_iconst (n := 1) hx hb dX9_weight_17 ?_
    refine lv_goto (tgt := 35) hx hb dX9_weight_18 (by decide) ?_
    exact J35 st2 1 _ _ ls hI hS (lv_sub hl [0, 1, 2] rfl) h
theorem hd9_axle : yX9_axle.cls = RX9 ∧ yX9_axle.cls ≠ "java/lang/invoke/MethodHandle" ∧ yX9_axle.cls ≠ "java/lang/invoke/VarHandle" ∧ (parseMethodDescriptor yX9_axle.desc).map (fun d => d.parameters.length) = some 2 := by decide +kernel
set_option maxHeartbeats 4000000 in
set_option maxRecDepth 100000 in
theorem m9_axle (l : Launch) (G : WG)   (hv_this : vM 9 0) (Q : Int → St → Prop) (st : St) (a0 : Int) (a1 : Int) (h : f9_axle Q st a0 a1) : Met l yX9_axle wsX9_axle ({ frames := 1, cells := 0, slots := 0, locals := 22 }) (PcM vM G st [.ref (G.2.2.1 9 0), .int (iI a0), .int (iI a1)]) (QiM vM G Q) 0 0 G.2.2.2.1 := by
  refine Met.ofW (cc := cX9_axle) (maxL := 3) (ret := (some .int)) (by decide) rfl ?_
  intro p e s m args below meth c s₁ B hml hvv
  obtain ⟨rfl, hA, hI, hK, hX⟩ := hvv
  have hx := B.exec
  have hb := B.bytes
  have hr := B.returns
  have hts := atoms_spec (ws := wsX9_axle) B.pre
  have hown : s.vm.findClass RX9 = some m.cls := findClass_of_methodNamed B.named
  have hlocks := B.notSynchronized
  have hS : va_S G.2.2.2.1 s.heap s.heap [] := va_S.rf
  have in9 : ∀ w ∈ wsX90, w ∈ wsX9_axle := by decide +kernel
  have lk_7 := hts (.fieldLink RX9 7 "BeamLinesModel" "a" "[I") (by decide +kernel)
  have lk_46 := hts (.fieldLink RX9 46 "BeamLinesModel" "thrown" "I") (by decide +kernel)
  have hl := lv_entry ([.ref (G.2.2.1 9 0), .int (iI a0), .int (iI a1)]) (n := 3) (Nat.le_of_ble_eq_true rfl)
  rw [lg_entry_eq]
  generalize (lg_sl ([.ref (G.2.2.1 9 0), .int (iI a0), .int (iI a1)]) ++ List.replicate (3 - (lg_sl ([.ref (G.2.2.1 9 0), .int (iI a0), .int (iI a1)])).length) Slot.unset).toArray = ls at hl ⊢
  have hl : lv_has ls 3 [(0, .ref (G.2.2.1 9 0)), (1, .int (iI a0)), (2, .int (iI a1))] := hl
  have J35 : ∀ (st : St) (s0x35 : Int) (H : Heap) (locs : List Loc) (ls : Array Slot), Iv vM G st H → va_S G.2.2.2.1 s.heap H locs → lv_has ls 3 [(0, .ref (G.2.2.1 9 0)), (1, .int (iI a0)), (2, .int (iI a1))] → f9_axle_j35 Q a0 a1 st s0x35 → W p l e (headSpec wsX9_axle ({ frames := 1, cells := 0, slots := 0, locals := 22 })).room s m ([.ref (G.2.2.1 9 0), .int (iI a0), .int (iI a1)] : List Value).toArray below meth c H locs 0 0 (MQ below (QiM vM G Q) ([.ref (G.2.2.1 9 0), .int (iI a0), .int (iI a1)] : List Value).toArray s 0 0 G.2.2.2.1) (F0 m 35 ls [.int (iI s0x35), .ref (G.2.2.1 9 0)]) := by
    intro st s0x35 H locs ls hI hS hl h
    unfold f9_axle_j35 at h
    refine pp_9_6 hx hb hts in9 hown hK hI hS hv_this lk_46 dX9_axle_35 (fun st9 hst9 H locs hI hS => ?_)
    replace h := h st9 hst9
    refine lv_aload_n hx hb dX9_axle_38 rfl (lv_at hl 0 rfl) ?_
    refine gg_9_6 hx hb hts in9 hown hK hI hv_this lk_46 dX9_axle_39 ?_
    obtain ⟨g10, h⟩ := h
    refine r_if_le (tgt := 49) hx hb dX9_axle_42 (by decide) g10 (fun c11 => ?_) (fun c11 => ?_)
    · replace h := h.1 c11
      refine lv_aload_n hx hb dX9_axle_49 rfl (lv_at hl 0 rfl) ?_
      refine gg_9_0 hx hb hts in9 hown hK hI hv_this lk_7 dX9_axle_50 ?_
      refine r_bipush (n := 35) hx hb dX9_axle_53 rfl ?_
      refine r_iconst (n := 2) hx hb dX9_axle_55 ?_
      refine lv_iload_n hx hb dX9_axle_56 rfl (lv_at hl 1 rfl) ?_
      refine r_imul hx hb dX9_axle_57 ?_
      refine r_iadd hx hb dX9_axle_58 ?_
      refine lv_iload_n hx hb dX9_axle_59 rfl (lv_at hl 2 rfl) ?_
      refine r_iadd hx hb dX9_axle_60 ?_
      obtain ⟨g12, g13, h⟩ := h
      refine r_iald hx hb hK hI (K := 30) (vrM_9_0 hv_this) rfl (mlen_le _) dX9_axle_61 g12 g13 ?_
      exact r_iret hx hb hr hlocks hK hI hS (Qp := Q) h dX9_axle_62
    · replace h := h.2 c11
      refine r_iconst (n := 0) hx hb dX9_axle_45 ?_
      refine lv_goto (tgt := 62) hx hb dX9_axle_46 (by decide) ?_
      exact r_iret hx hb hr hlocks hK hI hS (Qp := Q) h dX9_axle_62
  unfold f9_axle at h
  refine lv_aload_n hx hb dX9_axle_0 rfl (lv_at hl 0 rfl) ?_
  refine lv_iload_n hx hb dX9_axle_1 rfl (lv_at hl 1 rfl) ?_
  refine r_iconst (n := 0) hx hb dX9_axle_2 ?_
  refine lv_aload_n hx hb dX9_axle_3 rfl (lv_at hl 0 rfl) ?_
  refine gg_9_0 hx hb hts in9 hown hK hI hv_this lk_7 dX9_axle_4 ?_
  refine r_iconst (n := 5) hx hb dX9_axle_7 ?_
  refine r_iald hx hb hK hI (K := 30) (vrM_9_0 hv_this) rfl (mlen_le _) dX9_axle_8 (by decide) (by decide) ?_
  refine r_iconst (n := 1) hx hb dX9_axle_9 ?_
  refine r_isub hx hb dX9_axle_10 ?_
  refine r_calli (va_runS (As := [.int (iI a0), .int (iI 0), .int (iI ((st 30 0 0 5) - 1))]) (rest := [.ref (G.2.2.1 9 0)]) ⟨hx, hb, hml, hown, hts⟩ (m9_isIn l G _ st a0 0 ((st 30 0 0 5) - 1) h) (va_cwS 3 hts gX9_axle_X9_isIn rfl rfl rfl hd9_isIn ⟨Nat.le_of_ble_eq_true rfl, Nat.le_of_ble_eq_true rfl⟩) (pre_S hK hX hI hA hS [.int (iI a0), .int (iI 0), .int (iI ((st 30 0 0 5) - 1))]) rfl rfl hl.1 rfl (lv_room (Nat.le_of_ble_eq_true rfl)) dX9_axle_11 ⟨Nat.le_of_ble_eq_true rfl, Nat.le_of_ble_eq_true rfl⟩) hS (fun z1 st2 h H locs hI hS => ?_)
  obtain ⟨g3, h⟩ := h
  refine r_if_ne (tgt := 21) hx hb dX9_axle_14 (by decide) g3 (fun c4 => ?_) (fun c4 => ?_)
  · replace h := h.2 c4
    refine lv_iload_n hx hb dX9_axle_21 rfl (lv_at hl 2 rfl) ?_
    refine r_iconst (n := 0) hx hb dX9_axle_22 ?_
    refine r_iconst (n := 1) hx hb dX9_axle_23 ?_
    refine r_calli (va_runS (As := [.int (iI a1), .int (iI 0), .int (iI 1)]) (rest := [.ref (G.2.2.1 9 0)]) ⟨hx, hb, hml, hown, hts⟩ (m9_isIn l G _ st2 a1 0 1 h) (va_cwS 3 hts gX9_axle_X9_isIn rfl rfl rfl hd9_isIn ⟨Nat.le_of_ble_eq_true rfl, Nat.le_of_ble_eq_true rfl⟩) (pre_S hK hX hI hA hS [.int (iI a1), .int (iI 0), .int (iI 1)]) rfl rfl hl.1 rfl (lv_room (Nat.le_of_ble_eq_true rfl)) dX9_axle_24 ⟨Nat.le_of_ble_eq_true rfl, Nat.le_of_ble_eq_true rfl⟩) hS (fun z5 st6 h H locs hI hS => ?_)
    obtain ⟨g7, h⟩ := h
    refine r_if_eq (tgt := 34) hx hb dX9_axle_27 (by decide) g7 (fun c8 => ?_) (fun c8 => ?_)
    · replace h := h.1 c8
      refine r_iconst (n := 2) hx hb dX9_axle_34 ?_
      exact J35 st6 2 _ _ ls hI hS (lv_sub hl [0, 1, 2] rfl) h
    · replace h := h.2 c8
      refine r_iconst (n := 0) hx hb dX9_axle_30 ?_
      refine lv_goto (tgt := 35) hx hb dX9_axle_31 (by decide) ?_
      exact J35 st6 0 _ _ ls hI hS (lv_sub hl [0, 1, 2] rfl) h
  · replace h := h.1 c4
    refine r_iconst (n := 1) hx hb dX9_axle_17 ?_
    refine lv_goto (tgt := 35) hx hb dX9_axle_18 (by decide) ?_
    exact J35 st2 1 _ _ ls hI hS (lv_sub hl [0, 1, 2] rfl) h
theorem hd9_part : yX9_part.cls = RX9 ∧ yX9_part.cls ≠ "java/lang/invoke/MethodHandle" ∧ yX9_part.cls ≠ "java/lang/invoke/VarHandle" ∧ (parseMethodDescriptor yX9_part.desc).map (fun d => d.parameters.length) = some 1 := by decide +kernel
set_option maxHeartbeats 4000000 in
set_option maxRecDepth 100000 in
theorem m9_part (l : Launch) (G : WG)   (hv_this : vM 9 0) (Q : Int → St → Prop) (st : St) (a0 : Int) (h : f9_part Q st a0) : Met l yX9_part wsX9_part ({ frames := 2, cells := 0, slots := 0, locals := 43 }) (PcM vM G st [.ref (G.2.2.1 9 0), .int (iI a0)]) (QiM vM G Q) 0 0 G.2.2.2.1 := by
  refine Met.ofW (cc := cX9_part) (maxL := 4) (ret := (some .int)) (by decide) rfl ?_
  intro p e s m args below meth c s₁ B hml hvv
  obtain ⟨rfl, hA, hI, hK, hX⟩ := hvv
  have hx := B.exec
  have hb := B.bytes
  have hr := B.returns
  have hts := atoms_spec (ws := wsX9_part) B.pre
  have hown : s.vm.findClass RX9 = some m.cls := findClass_of_methodNamed B.named
  have hlocks := B.notSynchronized
  have hS : va_S G.2.2.2.1 s.heap s.heap [] := va_S.rf
  have in9 : ∀ w ∈ wsX90, w ∈ wsX9_part := by decide +kernel
  have lk_7 := hts (.fieldLink RX9 7 "BeamLinesModel" "a" "[I") (by decide +kernel)
  have lk_46 := hts (.fieldLink RX9 46 "BeamLinesModel" "thrown" "I") (by decide +kernel)
  have hl := lv_entry ([.ref (G.2.2.1 9 0), .int (iI a0)]) (n := 4) (Nat.le_of_ble_eq_true rfl)
  rw [lg_entry_eq]
  generalize (lg_sl ([.ref (G.2.2.1 9 0), .int (iI a0)]) ++ List.replicate (4 - (lg_sl ([.ref (G.2.2.1 9 0), .int (iI a0)])).length) Slot.unset).toArray = ls at hl ⊢
  have hl : lv_has ls 4 [(0, .ref (G.2.2.1 9 0)), (1, .int (iI a0))] := hl
  have L30 : ∀ (n30 : Nat), ∀ (st : St) (v2x30 : Int) (v3x30 : Int) (H : Heap) (locs : List Loc) (ls : Array Slot), Iv vM G st H → va_S G.2.2.2.1 s.heap H locs → lv_has ls 4 [(0, .ref (G.2.2.1 9 0)), (1, .int (iI a0)), (2, .int (iI v2x30)), (3, .int (iI v3x30))] → f9_part_l30 Q a0 n30 st v2x30 v3x30 → W p l e (headSpec wsX9_part ({ frames := 2, cells := 0, slots := 0, locals := 43 })).room s m ([.ref (G.2.2.1 9 0), .int (iI a0)] : List Value).toArray below meth c H locs 0 0 (MQ below (QiM vM G Q) ([.ref (G.2.2.1 9 0), .int (iI a0)] : List Value).toArray s 0 0 G.2.2.2.1) (F0 m 30 ls []) := by
    intro n30
    induction n30 with
    | zero =>
      intro st v2x30 v3x30 H locs ls hI hS hl h
      exact h.elim
    | succ n30 ih30 =>
      have J59 : ∀ (st : St) (v3x59 : Int) (s0x59 : Int) (s1x59 : Int) (H : Heap) (locs : List Loc) (ls : Array Slot), Iv vM G st H → va_S G.2.2.2.1 s.heap H locs → lv_has ls 4 [(0, .ref (G.2.2.1 9 0)), (1, .int (iI a0)), (3, .int (iI v3x59))] → f9_part_j59 (fun st v2x30 v3x30 => f9_part_l30 Q a0 n30 st v2x30 v3x30) Q a0 st v3x59 s0x59 s1x59 → W p l e (headSpec wsX9_part ({ frames := 2, cells := 0, slots := 0, locals := 43 })).room s m ([.ref (G.2.2.1 9 0), .int (iI a0)] : List Value).toArray below meth c H locs 0 0 (MQ below (QiM vM G Q) ([.ref (G.2.2.1 9 0), .int (iI a0)] : List Value).toArray s 0 0 G.2.2.2.1) (F0 m 59 ls [.int (iI s0x59), .int (iI s1x59)]) := by
        intro st v3x59 s0x59 s1x59 H locs ls hI hS hl h
        unfold f9_part_j59 at h
        refine r_iadd hx hb dX9_part_59 ?_
        refine r_topi (fun x16 hx16 => ?_)
        replace h := h x16 hx16
        refine lv_istore_n (lv' := [(2, .int (iI x16)), (0, .ref (G.2.2.1 9 0)), (1, .int (iI a0)), (3, .int (iI v3x59))]) hx hb dX9_part_60 rfl hl (by decide) rfl (fun ls hl => ?_)
        obtain ⟨x17, hx17⟩ : ∃ z : Int, z = v3x59 + 1 := ⟨_, rfl⟩
        replace h := h x17 hx17
        refine lv_iinc (v := iI x17) (lv' := [(3, .int (iI x17)), (2, .int (iI x16)), (0, .ref (G.2.2.1 9 0)), (1, .int (iI a0))]) hx hb dX9_part_61 hl (k := 3) rfl (by rw [hx17]; exact iI_add _ _) (by decide) rfl (fun ls hl => ?_)
        refine lv_goto (tgt := 30) hx hb dX9_part_64 (by decide) ?_
        exact ih30 st x16 x17 _ _ ls hI hS (lv_sub hl [2, 3, 1, 0] rfl) h
      intro st v2x30 v3x30 H locs ls hI hS hl h
      unfold f9_part_l30 at h
      refine lv_iload_n hx hb dX9_part_30 rfl (lv_at hl 3 rfl) ?_
      refine lv_aload_n hx hb dX9_part_31 rfl (lv_at hl 0 rfl) ?_
      refine gg_9_0 hx hb hts in9 hown hK hI hv_this lk_7 dX9_part_32 ?_
      refine r_iconst (n := 3) hx hb dX9_part_35 ?_
      refine r_iald hx hb hK hI (K := 30) (vrM_9_0 hv_this) rfl (mlen_le _) dX9_part_36 (by decide) (by decide) ?_
      obtain ⟨g8, h⟩ := h
      obtain ⟨g9, h⟩ := h
      refine r_icmp_ge (tgt := 67) hx hb dX9_part_37 (by decide) g8 g9 (fun c10 => ?_) (fun c10 => ?_)
      · replace h := h.1 c10
        refine lv_iload_n hx hb dX9_part_67 rfl (lv_at hl 2 rfl) ?_
        exact r_iret hx hb hr hlocks hK hI hS (Qp := Q) h dX9_part_68
      · replace h := h.2 c10
        refine lv_iload_n hx hb dX9_part_40 rfl (lv_at hl 2 rfl) ?_
        refine lv_aload_n hx hb dX9_part_41 rfl (lv_at hl 0 rfl) ?_
        refine gg_9_0 hx hb hts in9 hown hK hI hv_this lk_7 dX9_part_42 ?_
        refine r_bipush (n := 16) hx hb dX9_part_45 rfl ?_
        refine lv_iload_n hx hb dX9_part_47 rfl (lv_at hl 3 rfl) ?_
        refine r_iadd hx hb dX9_part_48 ?_
        obtain ⟨g11, g12, h⟩ := h
        refine r_iald hx hb hK hI (K := 30) (vrM_9_0 hv_this) rfl (mlen_le _) dX9_part_49 g11 g12 ?_
        refine lv_iload_n hx hb dX9_part_50 rfl (lv_at hl 1 rfl) ?_
        obtain ⟨g13, h⟩ := h
        obtain ⟨g14, h⟩ := h
        refine r_icmp_gt (tgt := 58) hx hb dX9_part_51 (by decide) g13 g14 (fun c15 => ?_) (fun c15 => ?_)
        · replace h := h.1 c15
          refine r_iconst (n := 0) hx hb dX9_part_58 ?_
          exact J59 st v3x30 0 v2x30 _ _ ls hI hS (lv_sub hl [0, 1, 3] rfl) h
        · replace h := h.2 c15
          refine r_iconst (n := 1) hx hb dX9_part_54 ?_
          refine lv_goto (tgt := 59) hx hb dX9_part_55 (by decide) ?_
          exact J59 st v3x30 1 v2x30 _ _ ls hI hS (lv_sub hl [0, 1, 3] rfl) h
  have J14 : ∀ (st : St) (s0x14 : Int) (H : Heap) (locs : List Loc) (ls : Array Slot), Iv vM G st H → va_S G.2.2.2.1 s.heap H locs → lv_has ls 4 [(0, .ref (G.2.2.1 9 0)), (1, .int (iI a0))] → f9_part_j14 Q a0 st s0x14 → W p l e (headSpec wsX9_part ({ frames := 2, cells := 0, slots := 0, locals := 43 })).room s m ([.ref (G.2.2.1 9 0), .int (iI a0)] : List Value).toArray below meth c H locs 0 0 (MQ below (QiM vM G Q) ([.ref (G.2.2.1 9 0), .int (iI a0)] : List Value).toArray s 0 0 G.2.2.2.1) (F0 m 14 ls [.int (iI s0x14), .ref (G.2.2.1 9 0)]) := by
    intro st s0x14 H locs ls hI hS hl h
    unfold f9_part_j14 at h
    refine pp_9_6 hx hb hts in9 hown hK hI hS hv_this lk_46 dX9_part_14 (fun st5 hst5 H locs hI hS => ?_)
    replace h := h st5 hst5
    refine lv_aload_n hx hb dX9_part_17 rfl (lv_at hl 0 rfl) ?_
    refine gg_9_6 hx hb hts in9 hown hK hI hv_this lk_46 dX9_part_18 ?_
    obtain ⟨g6, h⟩ := h
    refine r_if_le (tgt := 26) hx hb dX9_part_21 (by decide) g6 (fun c7 => ?_) (fun c7 => ?_)
    · replace h := h.1 c7
      refine r_iconst (n := 0) hx hb dX9_part_26 ?_
      refine lv_istore_n (lv' := [(2, .int (iI 0)), (0, .ref (G.2.2.1 9 0)), (1, .int (iI a0))]) hx hb dX9_part_27 rfl hl (by decide) rfl (fun ls hl => ?_)
      refine r_iconst (n := 0) hx hb dX9_part_28 ?_
      refine lv_istore_n (lv' := [(3, .int (iI 0)), (2, .int (iI 0)), (0, .ref (G.2.2.1 9 0)), (1, .int (iI a0))]) hx hb dX9_part_29 rfl hl (by decide) rfl (fun ls hl => ?_)
      obtain ⟨kk, h⟩ := h
      exact L30 kk st5 0 0 _ _ ls hI hS (lv_sub hl [2, 3, 1, 0] rfl) h
    · replace h := h.2 c7
      refine r_iconst (n := 0) hx hb dX9_part_24 ?_
      exact r_iret hx hb hr hlocks hK hI hS (Qp := Q) h dX9_part_25
  unfold f9_part at h
  refine lv_aload_n hx hb dX9_part_0 rfl (lv_at hl 0 rfl) ?_
  refine lv_aload_n hx hb dX9_part_1 rfl (lv_at hl 0 rfl) ?_
  refine lv_iload_n hx hb dX9_part_2 rfl (lv_at hl 1 rfl) ?_
  refine r_calli (va_runV (As := [.int (iI a0)]) (rest := [.ref (G.2.2.1 9 0)]) ⟨hx, hb, hml, hown, hts⟩ (m9_isPlace l G hv_this _ st a0 h) (cwV 1 hts gX9_part_X9_isPlace rfl rfl rfl hd9_isPlace ⟨Nat.le_of_ble_eq_true rfl, Nat.le_of_ble_eq_true rfl⟩) (pre_V hK hX hI hA hS hv_this rfl rfl [.int (iI a0)]) rfl rfl hl.1 rfl (lv_room (Nat.le_of_ble_eq_true rfl)) dX9_part_3 ⟨Nat.le_of_ble_eq_true rfl, Nat.le_of_ble_eq_true rfl⟩) hS (fun z1 st2 h H locs hI hS => ?_)
  obtain ⟨g3, h⟩ := h
  refine r_if_eq (tgt := 13) hx hb dX9_part_6 (by decide) g3 (fun c4 => ?_) (fun c4 => ?_)
  · replace h := h.1 c4
    refine r_iconst (n := 1) hx hb dX9_part_13 ?_
    exact J14 st2 1 _ _ ls hI hS (lv_sub hl [0, 1] rfl) h
  · replace h := h.2 c4
    refine r_iconst (n := 0) hx hb dX9_part_9 ?_
    refine lv_goto (tgt := 14) hx hb dX9_part_10 (by decide) ?_
    exact J14 st2 0 _ _ ls hI hS (lv_sub hl [0, 1] rfl) h
theorem hd9_reactionLine : yX9_reactionLine.cls = RX9 ∧ yX9_reactionLine.cls ≠ "java/lang/invoke/MethodHandle" ∧ yX9_reactionLine.cls ≠ "java/lang/invoke/VarHandle" ∧ (parseMethodDescriptor yX9_reactionLine.desc).map (fun d => d.parameters.length) = some 2 := by decide +kernel
set_option maxHeartbeats 4000000 in
set_option maxRecDepth 100000 in
theorem m9_reactionLine (l : Launch) (G : WG)   (hv_this : vM 9 0) (Q : Int → St → Prop) (st : St) (a0 : Int) (a1 : Int) (h : f9_reactionLine Q st a0 a1) : Met l yX9_reactionLine wsX9_reactionLine ({ frames := 4, cells := 0, slots := 0, locals := 108 }) (PcM vM G st [.ref (G.2.2.1 9 0), .int (iI a0), .int (iI a1)]) (QlM vM G Q) 0 0 G.2.2.2.1 := by
  refine Met.ofW (cc := cX9_reactionLine) (maxL := 3) (ret := (some .long)) (by decide) rfl ?_
  intro p e s m args below meth c s₁ B hml hvv
  obtain ⟨rfl, hA, hI, hK, hX⟩ := hvv
  have hx := B.exec
  have hb := B.bytes
  have hr := B.returns
  have hts := atoms_spec (ws := wsX9_reactionLine) B.pre
  have hown : s.vm.findClass RX9 = some m.cls := findClass_of_methodNamed B.named
  have hlocks := B.notSynchronized
  have hS : va_S G.2.2.2.1 s.heap s.heap [] := va_S.rf
  have in9 : ∀ w ∈ wsX90, w ∈ wsX9_reactionLine := by decide +kernel
  have lk_46 := hts (.fieldLink RX9 46 "BeamLinesModel" "thrown" "I") (by decide +kernel)
  have hl := lv_entry ([.ref (G.2.2.1 9 0), .int (iI a0), .int (iI a1)]) (n := 3) (Nat.le_of_ble_eq_true rfl)
  rw [lg_entry_eq]
  generalize (lg_sl ([.ref (G.2.2.1 9 0), .int (iI a0), .int (iI a1)]) ++ List.replicate (3 - (lg_sl ([.ref (G.2.2.1 9 0), .int (iI a0), .int (iI a1)])).length) Slot.unset).toArray = ls at hl ⊢
  have hl : lv_has ls 3 [(0, .ref (G.2.2.1 9 0)), (1, .int (iI a0)), (2, .int (iI a1))] := hl
  have J22 : ∀ (st : St) (s0x22 : Int) (H : Heap) (locs : List Loc) (ls : Array Slot), Iv vM G st H → va_S G.2.2.2.1 s.heap H locs → lv_has ls 3 [(0, .ref (G.2.2.1 9 0)), (1, .int (iI a0)), (2, .int (iI a1))] → f9_reactionLine_j22 Q a0 a1 st s0x22 → W p l e (headSpec wsX9_reactionLine ({ frames := 4, cells := 0, slots := 0, locals := 108 })).room s m ([.ref (G.2.2.1 9 0), .int (iI a0), .int (iI a1)] : List Value).toArray below meth c H locs 0 0 (MQ below (QlM vM G Q) ([.ref (G.2.2.1 9 0), .int (iI a0), .int (iI a1)] : List Value).toArray s 0 0 G.2.2.2.1) (F0 m 22 ls [.int (iI s0x22), .ref (G.2.2.1 9 0)]) := by
    intro st s0x22 H locs ls hI hS hl h
    unfold f9_reactionLine_j22 at h
    refine pp_9_6 hx hb hts in9 hown hK hI hS hv_this lk_46 dX9_reactionLine_22 (fun st9 hst9 H locs hI hS => ?_)
    replace h := h st9 hst9
    refine lv_aload_n hx hb dX9_reactionLine_25 rfl (lv_at hl 0 rfl) ?_
    refine gg_9_6 hx hb hts in9 hown hK hI hv_this lk_46 dX9_reactionLine_26 ?_
    obtain ⟨g10, h⟩ := h
    refine r_if_le (tgt := 34) hx hb dX9_reactionLine_29 (by decide) g10 (fun c11 => ?_) (fun c11 => ?_)
    · replace h := h.1 c11
      refine lv_aload_n hx hb dX9_reactionLine_34 rfl (lv_at hl 0 rfl) ?_
      refine r_callv (va_runV (As := []) (rest := []) ⟨hx, hb, hml, hown, hts⟩ (m9_lays l G hv_this _ st9 h) (cwV 0 hts gX9_reactionLine_X9_lays rfl rfl rfl hd9_lays ⟨Nat.le_of_ble_eq_true rfl, Nat.le_of_ble_eq_true rfl⟩) (pre_V hK hX hI hA hS hv_this rfl rfl []) rfl rfl hl.1 rfl (lv_room (Nat.le_of_ble_eq_true rfl)) dX9_reactionLine_35 ⟨Nat.le_of_ble_eq_true rfl, Nat.le_of_ble_eq_true rfl⟩) hS (fun st13 h H locs hI hS => ?_)
      refine lv_aload_n hx hb dX9_reactionLine_38 rfl (lv_at hl 0 rfl) ?_
      refine lv_iload_n hx hb dX9_reactionLine_39 rfl (lv_at hl 1 rfl) ?_
      refine lv_iload_n hx hb dX9_reactionLine_40 rfl (lv_at hl 2 rfl) ?_
      refine r_calll (va_runV (As := [.int (iI a0), .int (iI a1)]) (rest := []) ⟨hx, hb, hml, hown, hts⟩ (m9_reactionBy l G hv_this _ st13 a0 a1 h) (cwV 2 hts gX9_reactionLine_X9_reactionBy rfl rfl rfl hd9_reactionBy ⟨Nat.le_of_ble_eq_true rfl, Nat.le_of_ble_eq_true rfl⟩) (pre_V hK hX hI hA hS hv_this rfl rfl [.int (iI a0), .int (iI a1)]) rfl rfl hl.1 rfl (lv_room (Nat.le_of_ble_eq_true rfl)) dX9_reactionLine_41 ⟨Nat.le_of_ble_eq_true rfl, Nat.le_of_ble_eq_true rfl⟩) hS (fun z14 st15 h H locs hI hS => ?_)
      exact r_lret hx hb hr hlocks hK hI hS (Qp := Q) h dX9_reactionLine_44
    · replace h := h.2 c11
      refine r_lconst (z := 0) hx hb dX9_reactionLine_32 rfl ?_
      exact r_lret hx hb hr hlocks hK hI hS (Qp := Q) h dX9_reactionLine_33
  have J21 : ∀ (st : St) (H : Heap) (locs : List Loc) (ls : Array Slot), Iv vM G st H → va_S G.2.2.2.1 s.heap H locs → lv_has ls 3 [(0, .ref (G.2.2.1 9 0)), (1, .int (iI a0)), (2, .int (iI a1))] → f9_reactionLine_j21 Q a0 a1 st → W p l e (headSpec wsX9_reactionLine ({ frames := 4, cells := 0, slots := 0, locals := 108 })).room s m ([.ref (G.2.2.1 9 0), .int (iI a0), .int (iI a1)] : List Value).toArray below meth c H locs 0 0 (MQ below (QlM vM G Q) ([.ref (G.2.2.1 9 0), .int (iI a0), .int (iI a1)] : List Value).toArray s 0 0 G.2.2.2.1) (F0 m 21 ls [.ref (G.2.2.1 9 0)]) := by
    intro st H locs ls hI hS hl h
    unfold f9_reactionLine_j21 at h
    refine r_iconst (n := 1) hx hb dX9_reactionLine_21 ?_
    exact J22 st 1 _ _ ls hI hS (lv_sub hl [0, 1, 2] rfl) h
  unfold f9_reactionLine at h
  refine lv_aload_n hx hb dX9_reactionLine_0 rfl (lv_at hl 0 rfl) ?_
  refine lv_aload_n hx hb dX9_reactionLine_1 rfl (lv_at hl 0 rfl) ?_
  refine lv_iload_n hx hb dX9_reactionLine_2 rfl (lv_at hl 1 rfl) ?_
  refine r_calli (va_runV (As := [.int (iI a0)]) (rest := [.ref (G.2.2.1 9 0)]) ⟨hx, hb, hml, hown, hts⟩ (m9_isSupport l G hv_this _ st a0 h) (cwV 1 hts gX9_reactionLine_X9_isSupport rfl rfl rfl hd9_isSupport ⟨Nat.le_of_ble_eq_true rfl, Nat.le_of_ble_eq_true rfl⟩) (pre_V hK hX hI hA hS hv_this rfl rfl [.int (iI a0)]) rfl rfl hl.1 rfl (lv_room (Nat.le_of_ble_eq_true rfl)) dX9_reactionLine_3 ⟨Nat.le_of_ble_eq_true rfl, Nat.le_of_ble_eq_true rfl⟩) hS (fun z1 st2 h H locs hI hS => ?_)
  obtain ⟨g3, h⟩ := h
  refine r_if_eq (tgt := 21) hx hb dX9_reactionLine_6 (by decide) g3 (fun c4 => ?_) (fun c4 => ?_)
  · replace h := h.1 c4
    exact J21 st2  _ _ ls hI hS (lv_sub hl [0, 1, 2] rfl) h
  · replace h := h.2 c4
    refine lv_aload_n hx hb dX9_reactionLine_9 rfl (lv_at hl 0 rfl) ?_
    refine lv_iload_n hx hb dX9_reactionLine_10 rfl (lv_at hl 2 rfl) ?_
    refine r_calli (va_runV (As := [.int (iI a1)]) (rest := [.ref (G.2.2.1 9 0)]) ⟨hx, hb, hml, hown, hts⟩ (m9_isPlace l G hv_this _ st2 a1 h) (cwV 1 hts gX9_reactionLine_X9_isPlace rfl rfl rfl hd9_isPlace ⟨Nat.le_of_ble_eq_true rfl, Nat.le_of_ble_eq_true rfl⟩) (pre_V hK hX hI hA hS hv_this rfl rfl [.int (iI a1)]) rfl rfl hl.1 rfl (lv_room (Nat.le_of_ble_eq_true rfl)) dX9_reactionLine_11 ⟨Nat.le_of_ble_eq_true rfl, Nat.le_of_ble_eq_true rfl⟩) hS (fun z5 st6 h H locs hI hS => ?_)
    obtain ⟨g7, h⟩ := h
    refine r_if_eq (tgt := 21) hx hb dX9_reactionLine_14 (by decide) g7 (fun c8 => ?_) (fun c8 => ?_)
    · replace h := h.1 c8
      exact J21 st6  _ _ ls hI hS (lv_sub hl [0, 1, 2] rfl) h
    · replace h := h.2 c8
      refine r_iconst (n := 0) hx hb dX9_reactionLine_17 ?_
      refine lv_goto (tgt := 22) hx hb dX9_reactionLine_18 (by decide) ?_
      exact J22 st6 0 _ _ ls hI hS (lv_sub hl [0, 1, 2] rfl) h
theorem hd9_shearLine : yX9_shearLine.cls = RX9 ∧ yX9_shearLine.cls ≠ "java/lang/invoke/MethodHandle" ∧ yX9_shearLine.cls ≠ "java/lang/invoke/VarHandle" ∧ (parseMethodDescriptor yX9_shearLine.desc).map (fun d => d.parameters.length) = some 2 := by decide +kernel
set_option maxHeartbeats 4000000 in
set_option maxRecDepth 100000 in
theorem m9_shearLine (l : Launch) (G : WG)   (hv_this : vM 9 0) (Q : Int → St → Prop) (st : St) (a0 : Int) (a1 : Int) (h : f9_shearLine Q st a0 a1) : Met l yX9_shearLine wsX9_shearLine ({ frames := 4, cells := 0, slots := 0, locals := 108 }) (PcM vM G st [.ref (G.2.2.1 9 0), .int (iI a0), .int (iI a1)]) (QlM vM G Q) 0 0 G.2.2.2.1 := by
  refine Met.ofW (cc := cX9_shearLine) (maxL := 3) (ret := (some .long)) (by decide) rfl ?_
  intro p e s m args below meth c s₁ B hml hvv
  obtain ⟨rfl, hA, hI, hK, hX⟩ := hvv
  have hx := B.exec
  have hb := B.bytes
  have hr := B.returns
  have hts := atoms_spec (ws := wsX9_shearLine) B.pre
  have hown : s.vm.findClass RX9 = some m.cls := findClass_of_methodNamed B.named
  have hlocks := B.notSynchronized
  have hS : va_S G.2.2.2.1 s.heap s.heap [] := va_S.rf
  have in9 : ∀ w ∈ wsX90, w ∈ wsX9_shearLine := by decide +kernel
  have lk_46 := hts (.fieldLink RX9 46 "BeamLinesModel" "thrown" "I") (by decide +kernel)
  have hl := lv_entry ([.ref (G.2.2.1 9 0), .int (iI a0), .int (iI a1)]) (n := 3) (Nat.le_of_ble_eq_true rfl)
  rw [lg_entry_eq]
  generalize (lg_sl ([.ref (G.2.2.1 9 0), .int (iI a0), .int (iI a1)]) ++ List.replicate (3 - (lg_sl ([.ref (G.2.2.1 9 0), .int (iI a0), .int (iI a1)])).length) Slot.unset).toArray = ls at hl ⊢
  have hl : lv_has ls 3 [(0, .ref (G.2.2.1 9 0)), (1, .int (iI a0)), (2, .int (iI a1))] := hl
  have J22 : ∀ (st : St) (s0x22 : Int) (H : Heap) (locs : List Loc) (ls : Array Slot), Iv vM G st H → va_S G.2.2.2.1 s.heap H locs → lv_has ls 3 [(0, .ref (G.2.2.1 9 0)), (1, .int (iI a0)), (2, .int (iI a1))] → f9_shearLine_j22 Q a0 a1 st s0x22 → W p l e (headSpec wsX9_shearLine ({ frames := 4, cells := 0, slots := 0, locals := 108 })).room s m ([.ref (G.2.2.1 9 0), .int (iI a0), .int (iI a1)] : List Value).toArray below meth c H locs 0 0 (MQ below (QlM vM G Q) ([.ref (G.2.2.1 9 0), .int (iI a0), .int (iI a1)] : List Value).toArray s 0 0 G.2.2.2.1) (F0 m 22 ls [.int (iI s0x22), .ref (G.2.2.1 9 0)]) := by
    intro st s0x22 H locs ls hI hS hl h
    unfold f9_shearLine_j22 at h
    refine pp_9_6 hx hb hts in9 hown hK hI hS hv_this lk_46 dX9_shearLine_22 (fun st9 hst9 H locs hI hS => ?_)
    replace h := h st9 hst9
    refine lv_aload_n hx hb dX9_shearLine_25 rfl (lv_at hl 0 rfl) ?_
    refine gg_9_6 hx hb hts in9 hown hK hI hv_this lk_46 dX9_shearLine_26 ?_
    obtain ⟨g10, h⟩ := h
    refine r_if_le (tgt := 34) hx hb dX9_shearLine_29 (by decide) g10 (fun c11 => ?_) (fun c11 => ?_)
    · replace h := h.1 c11
      refine lv_aload_n hx hb dX9_shearLine_34 rfl (lv_at hl 0 rfl) ?_
      refine r_callv (va_runV (As := []) (rest := []) ⟨hx, hb, hml, hown, hts⟩ (m9_lays l G hv_this _ st9 h) (cwV 0 hts gX9_shearLine_X9_lays rfl rfl rfl hd9_lays ⟨Nat.le_of_ble_eq_true rfl, Nat.le_of_ble_eq_true rfl⟩) (pre_V hK hX hI hA hS hv_this rfl rfl []) rfl rfl hl.1 rfl (lv_room (Nat.le_of_ble_eq_true rfl)) dX9_shearLine_35 ⟨Nat.le_of_ble_eq_true rfl, Nat.le_of_ble_eq_true rfl⟩) hS (fun st13 h H locs hI hS => ?_)
      refine lv_aload_n hx hb dX9_shearLine_38 rfl (lv_at hl 0 rfl) ?_
      refine lv_iload_n hx hb dX9_shearLine_39 rfl (lv_at hl 1 rfl) ?_
      refine lv_iload_n hx hb dX9_shearLine_40 rfl (lv_at hl 2 rfl) ?_
      refine r_calll (va_runV (As := [.int (iI a0), .int (iI a1)]) (rest := []) ⟨hx, hb, hml, hown, hts⟩ (m9_shearBy l G hv_this _ st13 a0 a1 h) (cwV 2 hts gX9_shearLine_X9_shearBy rfl rfl rfl hd9_shearBy ⟨Nat.le_of_ble_eq_true rfl, Nat.le_of_ble_eq_true rfl⟩) (pre_V hK hX hI hA hS hv_this rfl rfl [.int (iI a0), .int (iI a1)]) rfl rfl hl.1 rfl (lv_room (Nat.le_of_ble_eq_true rfl)) dX9_shearLine_41 ⟨Nat.le_of_ble_eq_true rfl, Nat.le_of_ble_eq_true rfl⟩) hS (fun z14 st15 h H locs hI hS => ?_)
      exact r_lret hx hb hr hlocks hK hI hS (Qp := Q) h dX9_shearLine_44
    · replace h := h.2 c11
      refine r_lconst (z := 0) hx hb dX9_shearLine_32 rfl ?_
      exact r_lret hx hb hr hlocks hK hI hS (Qp := Q) h dX9_shearLine_33
  have J21 : ∀ (st : St) (H : Heap) (locs : List Loc) (ls : Array Slot), Iv vM G st H → va_S G.2.2.2.1 s.heap H locs → lv_has ls 3 [(0, .ref (G.2.2.1 9 0)), (1, .int (iI a0)), (2, .int (iI a1))] → f9_shearLine_j21 Q a0 a1 st → W p l e (headSpec wsX9_shearLine ({ frames := 4, cells := 0, slots := 0, locals := 108 })).room s m ([.ref (G.2.2.1 9 0), .int (iI a0), .int (iI a1)] : List Value).toArray below meth c H locs 0 0 (MQ below (QlM vM G Q) ([.ref (G.2.2.1 9 0), .int (iI a0), .int (iI a1)] : List Value).toArray s 0 0 G.2.2.2.1) (F0 m 21 ls [.ref (G.2.2.1 9 0)]) := by
    intro st H locs ls hI hS hl h
    unfold f9_shearLine_j21 at h
    refine r_iconst (n := 1) hx hb dX9_shearLine_21 ?_
    exact J22 st 1 _ _ ls hI hS (lv_sub hl [0, 1, 2] rfl) h
  unfold f9_shearLine at h
  refine lv_aload_n hx hb dX9_shearLine_0 rfl (lv_at hl 0 rfl) ?_
  refine lv_aload_n hx hb dX9_shearLine_1 rfl (lv_at hl 0 rfl) ?_
  refine lv_iload_n hx hb dX9_shearLine_2 rfl (lv_at hl 1 rfl) ?_
  refine r_calli (va_runV (As := [.int (iI a0)]) (rest := [.ref (G.2.2.1 9 0)]) ⟨hx, hb, hml, hown, hts⟩ (m9_isField l G hv_this _ st a0 h) (cwV 1 hts gX9_shearLine_X9_isField rfl rfl rfl hd9_isField ⟨Nat.le_of_ble_eq_true rfl, Nat.le_of_ble_eq_true rfl⟩) (pre_V hK hX hI hA hS hv_this rfl rfl [.int (iI a0)]) rfl rfl hl.1 rfl (lv_room (Nat.le_of_ble_eq_true rfl)) dX9_shearLine_3 ⟨Nat.le_of_ble_eq_true rfl, Nat.le_of_ble_eq_true rfl⟩) hS (fun z1 st2 h H locs hI hS => ?_)
  obtain ⟨g3, h⟩ := h
  refine r_if_eq (tgt := 21) hx hb dX9_shearLine_6 (by decide) g3 (fun c4 => ?_) (fun c4 => ?_)
  · replace h := h.1 c4
    exact J21 st2  _ _ ls hI hS (lv_sub hl [0, 1, 2] rfl) h
  · replace h := h.2 c4
    refine lv_aload_n hx hb dX9_shearLine_9 rfl (lv_at hl 0 rfl) ?_
    refine lv_iload_n hx hb dX9_shearLine_10 rfl (lv_at hl 2 rfl) ?_
    refine r_calli (va_runV (As := [.int (iI a1)]) (rest := [.ref (G.2.2.1 9 0)]) ⟨hx, hb, hml, hown, hts⟩ (m9_isPlace l G hv_this _ st2 a1 h) (cwV 1 hts gX9_shearLine_X9_isPlace rfl rfl rfl hd9_isPlace ⟨Nat.le_of_ble_eq_true rfl, Nat.le_of_ble_eq_true rfl⟩) (pre_V hK hX hI hA hS hv_this rfl rfl [.int (iI a1)]) rfl rfl hl.1 rfl (lv_room (Nat.le_of_ble_eq_true rfl)) dX9_shearLine_11 ⟨Nat.le_of_ble_eq_true rfl, Nat.le_of_ble_eq_true rfl⟩) hS (fun z5 st6 h H locs hI hS => ?_)
    obtain ⟨g7, h⟩ := h
    refine r_if_eq (tgt := 21) hx hb dX9_shearLine_14 (by decide) g7 (fun c8 => ?_) (fun c8 => ?_)
    · replace h := h.1 c8
      exact J21 st6  _ _ ls hI hS (lv_sub hl [0, 1, 2] rfl) h
    · replace h := h.2 c8
      refine r_iconst (n := 0) hx hb dX9_shearLine_17 ?_
      refine lv_goto (tgt := 22) hx hb dX9_shearLine_18 (by decide) ?_
      exact J22 st6 0 _ _ ls hI hS (lv_sub hl [0, 1, 2] rfl) h
theorem hd9_momentLine : yX9_momentLine.cls = RX9 ∧ yX9_momentLine.cls ≠ "java/lang/invoke/MethodHandle" ∧ yX9_momentLine.cls ≠ "java/lang/invoke/VarHandle" ∧ (parseMethodDescriptor yX9_momentLine.desc).map (fun d => d.parameters.length) = some 2 := by decide +kernel
set_option maxHeartbeats 4000000 in
set_option maxRecDepth 100000 in
theorem m9_momentLine (l : Launch) (G : WG)   (hv_this : vM 9 0) (Q : Int → St → Prop) (st : St) (a0 : Int) (a1 : Int) (h : f9_momentLine Q st a0 a1) : Met l yX9_momentLine wsX9_momentLine ({ frames := 4, cells := 0, slots := 0, locals := 108 }) (PcM vM G st [.ref (G.2.2.1 9 0), .int (iI a0), .int (iI a1)]) (QlM vM G Q) 0 0 G.2.2.2.1 := by
  refine Met.ofW (cc := cX9_momentLine) (maxL := 3) (ret := (some .long)) (by decide) rfl ?_
  intro p e s m args below meth c s₁ B hml hvv
  obtain ⟨rfl, hA, hI, hK, hX⟩ := hvv
  have hx := B.exec
  have hb := B.bytes
  have hr := B.returns
  have hts := atoms_spec (ws := wsX9_momentLine) B.pre
  have hown : s.vm.findClass RX9 = some m.cls := findClass_of_methodNamed B.named
  have hlocks := B.notSynchronized
  have hS : va_S G.2.2.2.1 s.heap s.heap [] := va_S.rf
  have in9 : ∀ w ∈ wsX90, w ∈ wsX9_momentLine := by decide +kernel
  have lk_46 := hts (.fieldLink RX9 46 "BeamLinesModel" "thrown" "I") (by decide +kernel)
  have hl := lv_entry ([.ref (G.2.2.1 9 0), .int (iI a0), .int (iI a1)]) (n := 3) (Nat.le_of_ble_eq_true rfl)
  rw [lg_entry_eq]
  generalize (lg_sl ([.ref (G.2.2.1 9 0), .int (iI a0), .int (iI a1)]) ++ List.replicate (3 - (lg_sl ([.ref (G.2.2.1 9 0), .int (iI a0), .int (iI a1)])).length) Slot.unset).toArray = ls at hl ⊢
  have hl : lv_has ls 3 [(0, .ref (G.2.2.1 9 0)), (1, .int (iI a0)), (2, .int (iI a1))] := hl
  have J22 : ∀ (st : St) (s0x22 : Int) (H : Heap) (locs : List Loc) (ls : Array Slot), Iv vM G st H → va_S G.2.2.2.1 s.heap H locs → lv_has ls 3 [(0, .ref (G.2.2.1 9 0)), (1, .int (iI a0)), (2, .int (iI a1))] → f9_momentLine_j22 Q a0 a1 st s0x22 → W p l e (headSpec wsX9_momentLine ({ frames := 4, cells := 0, slots := 0, locals := 108 })).room s m ([.ref (G.2.2.1 9 0), .int (iI a0), .int (iI a1)] : List Value).toArray below meth c H locs 0 0 (MQ below (QlM vM G Q) ([.ref (G.2.2.1 9 0), .int (iI a0), .int (iI a1)] : List Value).toArray s 0 0 G.2.2.2.1) (F0 m 22 ls [.int (iI s0x22), .ref (G.2.2.1 9 0)]) := by
    intro st s0x22 H locs ls hI hS hl h
    unfold f9_momentLine_j22 at h
    refine pp_9_6 hx hb hts in9 hown hK hI hS hv_this lk_46 dX9_momentLine_22 (fun st9 hst9 H locs hI hS => ?_)
    replace h := h st9 hst9
    refine lv_aload_n hx hb dX9_momentLine_25 rfl (lv_at hl 0 rfl) ?_
    refine gg_9_6 hx hb hts in9 hown hK hI hv_this lk_46 dX9_momentLine_26 ?_
    obtain ⟨g10, h⟩ := h
    refine r_if_le (tgt := 34) hx hb dX9_momentLine_29 (by decide) g10 (fun c11 => ?_) (fun c11 => ?_)
    · replace h := h.1 c11
      refine lv_aload_n hx hb dX9_momentLine_34 rfl (lv_at hl 0 rfl) ?_
      refine r_callv (va_runV (As := []) (rest := []) ⟨hx, hb, hml, hown, hts⟩ (m9_lays l G hv_this _ st9 h) (cwV 0 hts gX9_momentLine_X9_lays rfl rfl rfl hd9_lays ⟨Nat.le_of_ble_eq_true rfl, Nat.le_of_ble_eq_true rfl⟩) (pre_V hK hX hI hA hS hv_this rfl rfl []) rfl rfl hl.1 rfl (lv_room (Nat.le_of_ble_eq_true rfl)) dX9_momentLine_35 ⟨Nat.le_of_ble_eq_true rfl, Nat.le_of_ble_eq_true rfl⟩) hS (fun st13 h H locs hI hS => ?_)
      refine lv_aload_n hx hb dX9_momentLine_38 rfl (lv_at hl 0 rfl) ?_
      refine lv_iload_n hx hb dX9_momentLine_39 rfl (lv_at hl 1 rfl) ?_
      refine lv_iload_n hx hb dX9_momentLine_40 rfl (lv_at hl 2 rfl) ?_
      refine r_calll (va_runV (As := [.int (iI a0), .int (iI a1)]) (rest := []) ⟨hx, hb, hml, hown, hts⟩ (m9_momentBy l G hv_this _ st13 a0 a1 h) (cwV 2 hts gX9_momentLine_X9_momentBy rfl rfl rfl hd9_momentBy ⟨Nat.le_of_ble_eq_true rfl, Nat.le_of_ble_eq_true rfl⟩) (pre_V hK hX hI hA hS hv_this rfl rfl [.int (iI a0), .int (iI a1)]) rfl rfl hl.1 rfl (lv_room (Nat.le_of_ble_eq_true rfl)) dX9_momentLine_41 ⟨Nat.le_of_ble_eq_true rfl, Nat.le_of_ble_eq_true rfl⟩) hS (fun z14 st15 h H locs hI hS => ?_)
      exact r_lret hx hb hr hlocks hK hI hS (Qp := Q) h dX9_momentLine_44
    · replace h := h.2 c11
      refine r_lconst (z := 0) hx hb dX9_momentLine_32 rfl ?_
      exact r_lret hx hb hr hlocks hK hI hS (Qp := Q) h dX9_momentLine_33
  have J21 : ∀ (st : St) (H : Heap) (locs : List Loc) (ls : Array Slot), Iv vM G st H → va_S G.2.2.2.1 s.heap H locs → lv_has ls 3 [(0, .ref (G.2.2.1 9 0)), (1, .int (iI a0)), (2, .int (iI a1))] → f9_momentLine_j21 Q a0 a1 st → W p l e (headSpec wsX9_momentLine ({ frames := 4, cells := 0, slots := 0, locals := 108 })).room s m ([.ref (G.2.2.1 9 0), .int (iI a0), .int (iI a1)] : List Value).toArray below meth c H locs 0 0 (MQ below (QlM vM G Q) ([.ref (G.2.2.1 9 0), .int (iI a0), .int (iI a1)] : List Value).toArray s 0 0 G.2.2.2.1) (F0 m 21 ls [.ref (G.2.2.1 9 0)]) := by
    intro st H locs ls hI hS hl h
    unfold f9_momentLine_j21 at h
    refine r_iconst (n := 1) hx hb dX9_momentLine_21 ?_
    exact J22 st 1 _ _ ls hI hS (lv_sub hl [0, 1, 2] rfl) h
  unfold f9_momentLine at h
  refine lv_aload_n hx hb dX9_momentLine_0 rfl (lv_at hl 0 rfl) ?_
  refine lv_aload_n hx hb dX9_momentLine_1 rfl (lv_at hl 0 rfl) ?_
  refine lv_iload_n hx hb dX9_momentLine_2 rfl (lv_at hl 1 rfl) ?_
  refine r_calli (va_runV (As := [.int (iI a0)]) (rest := [.ref (G.2.2.1 9 0)]) ⟨hx, hb, hml, hown, hts⟩ (m9_isPlace l G hv_this _ st a0 h) (cwV 1 hts gX9_momentLine_X9_isPlace rfl rfl rfl hd9_isPlace ⟨Nat.le_of_ble_eq_true rfl, Nat.le_of_ble_eq_true rfl⟩) (pre_V hK hX hI hA hS hv_this rfl rfl [.int (iI a0)]) rfl rfl hl.1 rfl (lv_room (Nat.le_of_ble_eq_true rfl)) dX9_momentLine_3 ⟨Nat.le_of_ble_eq_true rfl, Nat.le_of_ble_eq_true rfl⟩) hS (fun z1 st2 h H locs hI hS => ?_)
  obtain ⟨g3, h⟩ := h
  refine r_if_eq (tgt := 21) hx hb dX9_momentLine_6 (by decide) g3 (fun c4 => ?_) (fun c4 => ?_)
  · replace h := h.1 c4
    exact J21 st2  _ _ ls hI hS (lv_sub hl [0, 1, 2] rfl) h
  · replace h := h.2 c4
    refine lv_aload_n hx hb dX9_momentLine_9 rfl (lv_at hl 0 rfl) ?_
    refine lv_iload_n hx hb dX9_momentLine_10 rfl (lv_at hl 2 rfl) ?_
    refine r_calli (va_runV (As := [.int (iI a1)]) (rest := [.ref (G.2.2.1 9 0)]) ⟨hx, hb, hml, hown, hts⟩ (m9_isPlace l G hv_this _ st2 a1 h) (cwV 1 hts gX9_momentLine_X9_isPlace rfl rfl rfl hd9_isPlace ⟨Nat.le_of_ble_eq_true rfl, Nat.le_of_ble_eq_true rfl⟩) (pre_V hK hX hI hA hS hv_this rfl rfl [.int (iI a1)]) rfl rfl hl.1 rfl (lv_room (Nat.le_of_ble_eq_true rfl)) dX9_momentLine_11 ⟨Nat.le_of_ble_eq_true rfl, Nat.le_of_ble_eq_true rfl⟩) hS (fun z5 st6 h H locs hI hS => ?_)
    obtain ⟨g7, h⟩ := h
    refine r_if_eq (tgt := 21) hx hb dX9_momentLine_14 (by decide) g7 (fun c8 => ?_) (fun c8 => ?_)
    · replace h := h.1 c8
      exact J21 st6  _ _ ls hI hS (lv_sub hl [0, 1, 2] rfl) h
    · replace h := h.2 c8
      refine r_iconst (n := 0) hx hb dX9_momentLine_17 ?_
      refine lv_goto (tgt := 22) hx hb dX9_momentLine_18 (by decide) ?_
      exact J22 st6 0 _ _ ls hI hS (lv_sub hl [0, 1, 2] rfl) h
theorem hd9_area : yX9_area.cls = RX9 ∧ yX9_area.cls ≠ "java/lang/invoke/MethodHandle" ∧ yX9_area.cls ≠ "java/lang/invoke/VarHandle" ∧ (parseMethodDescriptor yX9_area.desc).map (fun d => d.parameters.length) = some 1 := by decide +kernel
set_option maxHeartbeats 4000000 in
set_option maxRecDepth 100000 in
theorem m9_area (l : Launch) (G : WG)   (hv_this : vM 9 0) (Q : Int → St → Prop) (st : St) (a0 : Int) (h : f9_area Q st a0) : Met l yX9_area wsX9_area ({ frames := 4, cells := 0, slots := 0, locals := 108 }) (PcM vM G st [.ref (G.2.2.1 9 0), .int (iI a0)]) (QlM vM G Q) 0 0 G.2.2.2.1 := by
  refine Met.ofW (cc := cX9_area) (maxL := 5) (ret := (some .long)) (by decide) rfl ?_
  intro p e s m args below meth c s₁ B hml hvv
  obtain ⟨rfl, hA, hI, hK, hX⟩ := hvv
  have hx := B.exec
  have hb := B.bytes
  have hr := B.returns
  have hts := atoms_spec (ws := wsX9_area) B.pre
  have hown : s.vm.findClass RX9 = some m.cls := findClass_of_methodNamed B.named
  have hlocks := B.notSynchronized
  have hS : va_S G.2.2.2.1 s.heap s.heap [] := va_S.rf
  have in9 : ∀ w ∈ wsX90, w ∈ wsX9_area := by decide +kernel
  have lk_46 := hts (.fieldLink RX9 46 "BeamLinesModel" "thrown" "I") (by decide +kernel)
  have hl := lv_entry ([.ref (G.2.2.1 9 0), .int (iI a0)]) (n := 5) (Nat.le_of_ble_eq_true rfl)
  rw [lg_entry_eq]
  generalize (lg_sl ([.ref (G.2.2.1 9 0), .int (iI a0)]) ++ List.replicate (5 - (lg_sl ([.ref (G.2.2.1 9 0), .int (iI a0)])).length) Slot.unset).toArray = ls at hl ⊢
  have hl : lv_has ls 5 [(0, .ref (G.2.2.1 9 0)), (1, .int (iI a0))] := hl
  have L35 : ∀ (n35 : Nat), ∀ (st : St) (v2x35 : Int) (v4x35 : Int) (H : Heap) (locs : List Loc) (ls : Array Slot), Iv vM G st H → va_S G.2.2.2.1 s.heap H locs → lv_has ls 5 [(0, .ref (G.2.2.1 9 0)), (1, .int (iI a0)), (2, .long (lI v2x35)), (4, .int (iI v4x35))] → f9_area_l35 Q a0 n35 st v2x35 v4x35 → W p l e (headSpec wsX9_area ({ frames := 4, cells := 0, slots := 0, locals := 108 })).room s m ([.ref (G.2.2.1 9 0), .int (iI a0)] : List Value).toArray below meth c H locs 0 0 (MQ below (QlM vM G Q) ([.ref (G.2.2.1 9 0), .int (iI a0)] : List Value).toArray s 0 0 G.2.2.2.1) (F0 m 35 ls []) := by
    intro n35
    induction n35 with
    | zero =>
      intro st v2x35 v4x35 H locs ls hI hS hl h
      exact h.elim
    | succ n35 ih35 =>
      intro st v2x35 v4x35 H locs ls hI hS hl h
      unfold f9_area_l35 at h
      refine lv_iload hx hb dX9_area_35 (lv_at hl 3 rfl) ?_
      refine lv_aload_n hx hb dX9_area_37 rfl (lv_at hl 0 rfl) ?_
      refine r_calli (va_runV (As := []) (rest := [.int (iI v4x35)]) ⟨hx, hb, hml, hown, hts⟩ (m9_places l G hv_this _ st h) (cwV 0 hts gX9_area_X9_places rfl rfl rfl hd9_places ⟨Nat.le_of_ble_eq_true rfl, Nat.le_of_ble_eq_true rfl⟩) (pre_V hK hX hI hA hS hv_this rfl rfl []) rfl rfl hl.1 rfl (lv_room (Nat.le_of_ble_eq_true rfl)) dX9_area_38 ⟨Nat.le_of_ble_eq_true rfl, Nat.le_of_ble_eq_true rfl⟩) hS (fun z10 st11 h H locs hI hS => ?_)
      obtain ⟨g12, h⟩ := h
      obtain ⟨g13, h⟩ := h
      refine r_icmp_ge (tgt := 60) hx hb dX9_area_41 (by decide) g12 g13 (fun c14 => ?_) (fun c14 => ?_)
      · replace h := h.1 c14
        refine lv_lload_n hx hb dX9_area_60 rfl (lv_at hl 2 rfl) ?_
        exact r_lret hx hb hr hlocks hK hI hS (Qp := Q) h dX9_area_61
      · replace h := h.2 c14
        refine lv_lload_n hx hb dX9_area_44 rfl (lv_at hl 2 rfl) ?_
        refine lv_aload_n hx hb dX9_area_45 rfl (lv_at hl 0 rfl) ?_
        refine lv_iload_n hx hb dX9_area_46 rfl (lv_at hl 1 rfl) ?_
        refine lv_iload hx hb dX9_area_47 (lv_at hl 3 rfl) ?_
        refine r_calll (va_runV (As := [.int (iI a0), .int (iI v4x35)]) (rest := [.long (lI v2x35)]) ⟨hx, hb, hml, hown, hts⟩ (m9_momentBy l G hv_this _ st11 a0 v4x35 h) (cwV 2 hts gX9_area_X9_momentBy rfl rfl rfl hd9_momentBy ⟨Nat.le_of_ble_eq_true rfl, Nat.le_of_ble_eq_true rfl⟩) (pre_V hK hX hI hA hS hv_this rfl rfl [.int (iI a0), .int (iI v4x35)]) rfl rfl hl.1 rfl (lv_room (Nat.le_of_ble_eq_true rfl)) dX9_area_49 ⟨Nat.le_of_ble_eq_true rfl, Nat.le_of_ble_eq_true rfl⟩) hS (fun z15 st16 h H locs hI hS => ?_)
        refine r_ladd hx hb dX9_area_52 ?_
        refine r_topl (fun x17 hx17 => ?_)
        replace h := h x17 hx17
        refine lv_lstore_n (lv' := [(2, .long (lI x17)), (0, .ref (G.2.2.1 9 0)), (1, .int (iI a0)), (4, .int (iI v4x35))]) hx hb dX9_area_53 rfl hl (by decide) rfl (fun ls hl => ?_)
        obtain ⟨x18, hx18⟩ : ∃ z : Int, z = v4x35 + 1 := ⟨_, rfl⟩
        replace h := h x18 hx18
        refine lv_iinc (v := iI x18) (lv' := [(4, .int (iI x18)), (2, .long (lI x17)), (0, .ref (G.2.2.1 9 0)), (1, .int (iI a0))]) hx hb dX9_area_54 hl (k := 3) rfl (by rw [hx18]; exact iI_add _ _) (by decide) rfl (fun ls hl => ?_)
        refine lv_goto (tgt := 35) hx hb dX9_area_57 (by decide) ?_
        exact ih35 st16 x17 x18 _ _ ls hI hS (lv_sub hl [2, 3, 1, 0] rfl) h
  have J14 : ∀ (st : St) (s0x14 : Int) (H : Heap) (locs : List Loc) (ls : Array Slot), Iv vM G st H → va_S G.2.2.2.1 s.heap H locs → lv_has ls 5 [(0, .ref (G.2.2.1 9 0)), (1, .int (iI a0))] → f9_area_j14 Q a0 st s0x14 → W p l e (headSpec wsX9_area ({ frames := 4, cells := 0, slots := 0, locals := 108 })).room s m ([.ref (G.2.2.1 9 0), .int (iI a0)] : List Value).toArray below meth c H locs 0 0 (MQ below (QlM vM G Q) ([.ref (G.2.2.1 9 0), .int (iI a0)] : List Value).toArray s 0 0 G.2.2.2.1) (F0 m 14 ls [.int (iI s0x14), .ref (G.2.2.1 9 0)]) := by
    intro st s0x14 H locs ls hI hS hl h
    unfold f9_area_j14 at h
    refine pp_9_6 hx hb hts in9 hown hK hI hS hv_this lk_46 dX9_area_14 (fun st5 hst5 H locs hI hS => ?_)
    replace h := h st5 hst5
    refine lv_aload_n hx hb dX9_area_17 rfl (lv_at hl 0 rfl) ?_
    refine gg_9_6 hx hb hts in9 hown hK hI hv_this lk_46 dX9_area_18 ?_
    obtain ⟨g6, h⟩ := h
    refine r_if_le (tgt := 26) hx hb dX9_area_21 (by decide) g6 (fun c7 => ?_) (fun c7 => ?_)
    · replace h := h.1 c7
      refine lv_aload_n hx hb dX9_area_26 rfl (lv_at hl 0 rfl) ?_
      refine r_callv (va_runV (As := []) (rest := []) ⟨hx, hb, hml, hown, hts⟩ (m9_lays l G hv_this _ st5 h) (cwV 0 hts gX9_area_X9_lays rfl rfl rfl hd9_lays ⟨Nat.le_of_ble_eq_true rfl, Nat.le_of_ble_eq_true rfl⟩) (pre_V hK hX hI hA hS hv_this rfl rfl []) rfl rfl hl.1 rfl (lv_room (Nat.le_of_ble_eq_true rfl)) dX9_area_27 ⟨Nat.le_of_ble_eq_true rfl, Nat.le_of_ble_eq_true rfl⟩) hS (fun st9 h H locs hI hS => ?_)
      refine r_lconst (z := 0) hx hb dX9_area_30 rfl ?_
      refine lv_lstore_n (lv' := [(2, .long (lI 0)), (0, .ref (G.2.2.1 9 0)), (1, .int (iI a0))]) hx hb dX9_area_31 rfl hl (by decide) rfl (fun ls hl => ?_)
      refine r_iconst (n := 0) hx hb dX9_area_32 ?_
      refine lv_istore (lv' := [(4, .int (iI 0)), (2, .long (lI 0)), (0, .ref (G.2.2.1 9 0)), (1, .int (iI a0))]) hx hb dX9_area_33 hl (by decide) rfl (fun ls hl => ?_)
      obtain ⟨kk, h⟩ := h
      exact L35 kk st9 0 0 _ _ ls hI hS (lv_sub hl [2, 3, 1, 0] rfl) h
    · replace h := h.2 c7
      refine r_lconst (z := 0) hx hb dX9_area_24 rfl ?_
      exact r_lret hx hb hr hlocks hK hI hS (Qp := Q) h dX9_area_25
  unfold f9_area at h
  refine lv_aload_n hx hb dX9_area_0 rfl (lv_at hl 0 rfl) ?_
  refine lv_aload_n hx hb dX9_area_1 rfl (lv_at hl 0 rfl) ?_
  refine lv_iload_n hx hb dX9_area_2 rfl (lv_at hl 1 rfl) ?_
  refine r_calli (va_runV (As := [.int (iI a0)]) (rest := [.ref (G.2.2.1 9 0)]) ⟨hx, hb, hml, hown, hts⟩ (m9_isPlace l G hv_this _ st a0 h) (cwV 1 hts gX9_area_X9_isPlace rfl rfl rfl hd9_isPlace ⟨Nat.le_of_ble_eq_true rfl, Nat.le_of_ble_eq_true rfl⟩) (pre_V hK hX hI hA hS hv_this rfl rfl [.int (iI a0)]) rfl rfl hl.1 rfl (lv_room (Nat.le_of_ble_eq_true rfl)) dX9_area_3 ⟨Nat.le_of_ble_eq_true rfl, Nat.le_of_ble_eq_true rfl⟩) hS (fun z1 st2 h H locs hI hS => ?_)
  obtain ⟨g3, h⟩ := h
  refine r_if_eq (tgt := 13) hx hb dX9_area_6 (by decide) g3 (fun c4 => ?_) (fun c4 => ?_)
  · replace h := h.1 c4
    refine r_iconst (n := 1) hx hb dX9_area_13 ?_
    exact J14 st2 1 _ _ ls hI hS (lv_sub hl [0, 1] rfl) h
  · replace h := h.2 c4
    refine r_iconst (n := 0) hx hb dX9_area_9 ?_
    refine lv_goto (tgt := 14) hx hb dX9_area_10 (by decide) ?_
    exact J14 st2 0 _ _ ls hI hS (lv_sub hl [0, 1] rfl) h
