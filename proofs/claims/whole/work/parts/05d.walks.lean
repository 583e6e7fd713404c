theorem hd8_moveHinge : yX8_moveHinge.cls = RX8 ∧ yX8_moveHinge.cls ≠ "java/lang/invoke/MethodHandle" ∧ yX8_moveHinge.cls ≠ "java/lang/invoke/VarHandle" ∧ (parseMethodDescriptor yX8_moveHinge.desc).map (fun d => d.parameters.length) = some 2 := by decide +kernel
set_option maxHeartbeats 4000000 in
set_option maxRecDepth 100000 in
theorem m8_moveHinge (l : Launch) (G : WG) (hfl : l.stackTraces = false)  (hv_this : vC 8 0) (Q : Int → St → Prop) (X : String → St → Prop) (st : St) (a0 : Int) (a1 : Int) (h : f8_moveHinge Q X st a0 a1) : vx_Met l yX8_moveHinge wsX8_moveHinge ({ frames := 8, cells := 2, slots := 12, locals := 136 }) (PcM vC G st [.ref (G.2.2.1 8 0), .int (iI a0), .int (iI a1)]) (QiM vC G Q) (XM vC G X) 2 12 G.2.2.2.1 := by
  refine vx_ofW (cc := cX8_moveHinge) (maxL := 4) (ret := (some .int)) (by decide) rfl ?_
  intro p e s m args below meth c s₁ B hml hE hvv
  obtain ⟨rfl, hA, hI, hK, hX⟩ := hvv
  have hx := B.exec
  have hb := B.bytes
  have hr := B.returns
  have hts := atoms_spec (ws := wsX8_moveHinge) B.pre
  have hown : s.vm.findClass RX8 = some m.cls := findClass_of_methodNamed B.named
  have hlocks := B.notSynchronized
  have hS : va_S G.2.2.2.1 s.heap s.heap [] := va_S.rf
  have in0 : ∀ w ∈ wsX00, w ∈ wsX8_moveHinge := by decide +kernel
  have in8 : ∀ w ∈ wsX80, w ∈ wsX8_moveHinge := by decide +kernel
  have lk_23 := hts (.fieldLink RX8 23 "BeamLines" "present" "LBeamLines$Beam;") (by decide +kernel)
  have lk_138 := hts (.fieldLink RX8 138 "BeamLines$Beam" "hinges" "LBeamLines$Row;") (by decide +kernel)
  have hl := lv_entry ([.ref (G.2.2.1 8 0), .int (iI a0), .int (iI a1)]) (n := 4) (Nat.le_of_ble_eq_true rfl)
  rw [lg_entry_eq]
  generalize (lg_sl ([.ref (G.2.2.1 8 0), .int (iI a0), .int (iI a1)]) ++ List.replicate (4 - (lg_sl ([.ref (G.2.2.1 8 0), .int (iI a0), .int (iI a1)])).length) Slot.unset).toArray = ls at hl ⊢
  have hl : lv_has ls 4 [(0, .ref (G.2.2.1 8 0)), (1, .int (iI a0)), (2, .int (iI a1))] := hl
  unfold f8_moveHinge at h
  refine lv_aload_n hx hb dX8_moveHinge_0 rfl (lv_at hl 0 rfl) ?_
  refine lv_aload_n hx hb dX8_moveHinge_1 rfl (lv_at hl 0 rfl) ?_
  refine gg_8_2 hx hb hts in8 hown hK hI hv_this lk_23 dX8_moveHinge_2 ?_
  refine gg_0_3 hx hb hts in0 hown hK hI (vrC_8_2 hv_this) lk_138 dX8_moveHinge_5 ?_
  refine lv_iload_n hx hb dX8_moveHinge_8 rfl (lv_at hl 1 rfl) ?_
  refine r_xcallv (vx_runV (As := [.ref (G.2.2.1 6 (4 * 0 + 1)), .int (iI a0)]) (rest := []) ⟨hx, hb, hml, hown, hts⟩ (m8_needNumber l G hfl (4 * 0 + 1) hv_this (vrC_0_3 (vrC_8_2 hv_this)) _ _ st a0 h) (cwV 2 hts gX8_moveHinge_X8_needNumber rfl rfl rfl hd8_needNumber ⟨Nat.le_of_ble_eq_true rfl, Nat.le_of_ble_eq_true rfl⟩) (pre_V hK hX hI hA hS hv_this rfl rfl [.ref (G.2.2.1 6 (4 * 0 + 1)), .int (iI a0)]) rfl rfl hl.1 rfl (lv_room (Nat.le_of_ble_eq_true rfl)) dX8_moveHinge_9 ⟨Nat.le_of_ble_eq_true rfl, Nat.le_of_ble_eq_true rfl⟩) hS hE hlocks hK (by decide) (by decide) (fun st2 h H locs hI hS => ?_)
  refine lv_aload_n hx hb dX8_moveHinge_12 rfl (lv_at hl 0 rfl) ?_
  refine lv_iload_n hx hb dX8_moveHinge_13 rfl (lv_at hl 2 rfl) ?_
  refine r_xcallv (vx_runV (As := [.int (iI a1)]) (rest := []) ⟨hx, hb, hml, hown, hts⟩ (m8_needHingePlace l G hfl hv_this _ _ st2 a1 h) (cwV 1 hts gX8_moveHinge_X8_needHingePlace rfl rfl rfl hd8_needHingePlace ⟨Nat.le_of_ble_eq_true rfl, Nat.le_of_ble_eq_true rfl⟩) (pre_V hK hX hI hA hS hv_this rfl rfl [.int (iI a1)]) rfl rfl hl.1 rfl (lv_room (Nat.le_of_ble_eq_true rfl)) dX8_moveHinge_14 ⟨Nat.le_of_ble_eq_true rfl, Nat.le_of_ble_eq_true rfl⟩) hS hE hlocks hK (by decide) (by decide) (fun st4 h H locs hI hS => ?_)
  refine lv_aload_n hx hb dX8_moveHinge_17 rfl (lv_at hl 0 rfl) ?_
  refine lv_iload_n hx hb dX8_moveHinge_18 rfl (lv_at hl 1 rfl) ?_
  refine lv_iload_n hx hb dX8_moveHinge_19 rfl (lv_at hl 2 rfl) ?_
  refine r_calli (va_runV (As := [.int (iI a0), .int (iI a1)]) (rest := []) ⟨hx, hb, hml, hown, hts⟩ (m8_tryHingeAt l G hv_this _ st4 a0 a1 h) (cwV 2 hts gX8_moveHinge_X8_tryHingeAt rfl rfl rfl hd8_tryHingeAt ⟨Nat.le_of_ble_eq_true rfl, Nat.le_of_ble_eq_true rfl⟩) (pre_V hK hX hI hA hS hv_this rfl rfl [.int (iI a0), .int (iI a1)]) rfl rfl hl.1 rfl (lv_room (Nat.le_of_ble_eq_true rfl)) dX8_moveHinge_20 ⟨Nat.le_of_ble_eq_true rfl, Nat.le_of_ble_eq_true rfl⟩) hS (fun z5 st6 h H locs hI hS => ?_)
  refine lv_istore_n (lv' := [(3, .int (iI z5)), (0, .ref (G.2.2.1 8 0)), (1, .int (iI a0)), (2, .int (iI a1))]) hx hb dX8_moveHinge_23 rfl hl (by decide) rfl (fun ls hl => ?_)
  refine lv_iload_n hx hb dX8_moveHinge_24 rfl (lv_at hl 0 rfl) ?_
  obtain ⟨g7, h⟩ := h
  refine r_if_lt (tgt := 32) hx hb dX8_moveHinge_25 (by decide) g7 (fun c8 => ?_) (fun c8 => ?_)
  · replace h := h.1 c8
    refine lv_iload_n hx hb dX8_moveHinge_32 rfl (lv_at hl 0 rfl) ?_
    refine W.widen (k := 2) (n := 12) (by decide) (by decide) ?_
    exact vx_ret (r_iret hx hb hr hlocks hK hI hS (Qp := Q) h dX8_moveHinge_33)
  · replace h := h.2 c8
    refine lv_aload_n hx hb dX8_moveHinge_28 rfl (lv_at hl 1 rfl) ?_
    refine r_callv (va_runV (As := []) (rest := []) ⟨hx, hb, hml, hown, hts⟩ (m8_takeTrial l G hv_this _ st6 h) (cwV 0 hts gX8_moveHinge_X8_takeTrial rfl rfl rfl hd8_takeTrial ⟨Nat.le_of_ble_eq_true rfl, Nat.le_of_ble_eq_true rfl⟩) (pre_V hK hX hI hA hS hv_this rfl rfl []) rfl rfl hl.1 rfl (lv_room (Nat.le_of_ble_eq_true rfl)) dX8_moveHinge_29 ⟨Nat.le_of_ble_eq_true rfl, Nat.le_of_ble_eq_true rfl⟩) hS (fun st10 h H locs hI hS => ?_)
    refine lv_iload_n hx hb dX8_moveHinge_32 rfl (lv_at hl 0 rfl) ?_
    refine W.widen (k := 2) (n := 12) (by decide) (by decide) ?_
    exact vx_ret (r_iret hx hb hr hlocks hK hI hS (Qp := Q) h dX8_moveHinge_33)
theorem hd8_addPair : yX8_addPair.cls = RX8 ∧ yX8_addPair.cls ≠ "java/lang/invoke/MethodHandle" ∧ yX8_addPair.cls ≠ "java/lang/invoke/VarHandle" ∧ (parseMethodDescriptor yX8_addPair.desc).map (fun d => d.parameters.length) = some 4 := by decide +kernel
set_option maxHeartbeats 4000000 in
set_option maxRecDepth 100000 in
theorem m8_addPair (l : Launch) (G : WG)  (a0 : Int) (hv_this : vC 8 0) (hv_a0 : vC 6 a0) (Q : Int → St → Prop) (st : St) (a1 : Int) (a2 : Int) (a3 : Int) (h : f8_addPair a0 Q st a1 a2 a3) : Met l yX8_addPair wsX8_addPair ({ frames := 5, cells := 0, slots := 0, locals := 106 }) (PcM vC G st [.ref (G.2.2.1 8 0), .ref (G.2.2.1 6 a0), .int (iI a1), .int (iI a2), .int (iI a3)]) (QiM vC G Q) 0 0 G.2.2.2.1 := by
  refine Met.ofW (cc := cX8_addPair) (maxL := 5) (ret := (some .int)) (by decide) rfl ?_
  intro p e s m args below meth c s₁ B hml hvv
  obtain ⟨rfl, hA, hI, hK, hX⟩ := hvv
  have hx := B.exec
  have hb := B.bytes
  have hr := B.returns
  have hts := atoms_spec (ws := wsX8_addPair) B.pre
  have hown : s.vm.findClass RX8 = some m.cls := findClass_of_methodNamed B.named
  have hlocks := B.notSynchronized
  have hS : va_S G.2.2.2.1 s.heap s.heap [] := va_S.rf
  have in8 : ∀ w ∈ wsX80, w ∈ wsX8_addPair := by decide +kernel
  have lk_23 := hts (.fieldLink RX8 23 "BeamLines" "present" "LBeamLines$Beam;") (by decide +kernel)
  have lk_60 := hts (.fieldLink RX8 60 "BeamLines" "history" "LBeamLines$History;") (by decide +kernel)
  have hl := lv_entry ([.ref (G.2.2.1 8 0), .ref (G.2.2.1 6 a0), .int (iI a1), .int (iI a2), .int (iI a3)]) (n := 5) (Nat.le_of_ble_eq_true rfl)
  rw [lg_entry_eq]
  generalize (lg_sl ([.ref (G.2.2.1 8 0), .ref (G.2.2.1 6 a0), .int (iI a1), .int (iI a2), .int (iI a3)]) ++ List.replicate (5 - (lg_sl ([.ref (G.2.2.1 8 0), .ref (G.2.2.1 6 a0), .int (iI a1), .int (iI a2), .int (iI a3)])).length) Slot.unset).toArray = ls at hl ⊢
  have hl : lv_has ls 5 [(0, .ref (G.2.2.1 8 0)), (1, .ref (G.2.2.1 6 a0)), (2, .int (iI a1)), (3, .int (iI a2)), (4, .int (iI a3))] := hl
  unfold f8_addPair at h
  refine lv_aload_n hx hb dX8_addPair_0 rfl (lv_at hl 1 rfl) ?_
  refine r_calli (va_runV (As := []) (rest := []) ⟨hx, hb, hml, hown, hts⟩ (m6_isFull l G a0 hv_a0 _ st h) (cwV 0 hts gX8_addPair_X6_isFull rfl rfl rfl hd6_isFull ⟨Nat.le_of_ble_eq_true rfl, Nat.le_of_ble_eq_true rfl⟩) (pre_V hK hX hI hA hS hv_a0 rfl rfl []) rfl rfl hl.1 rfl (lv_room (Nat.le_of_ble_eq_true rfl)) dX8_addPair_1 ⟨Nat.le_of_ble_eq_true rfl, Nat.le_of_ble_eq_true rfl⟩) hS (fun z1 st2 h H locs hI hS => ?_)
  obtain ⟨g3, h⟩ := h
  refine r_if_eq (tgt := 10) hx hb dX8_addPair_4 (by decide) g3 (fun c4 => ?_) (fun c4 => ?_)
  · replace h := h.1 c4
    refine lv_aload_n hx hb dX8_addPair_10 rfl (lv_at hl 0 rfl) ?_
    refine gg_8_9 hx hb hts in8 hown hK hI hv_this lk_60 dX8_addPair_11 ?_
    refine lv_aload_n hx hb dX8_addPair_14 rfl (lv_at hl 0 rfl) ?_
    refine gg_8_2 hx hb hts in8 hown hK hI hv_this lk_23 dX8_addPair_15 ?_
    refine r_callv (va_runV (As := [.ref (G.2.2.1 0 0)]) (rest := []) ⟨hx, hb, hml, hown, hts⟩ (m2_remember l G 0 (vrC_8_9 hv_this) (vrC_8_2 hv_this) _ st2 h) (cwV 1 hts gX8_addPair_X2_remember rfl rfl rfl hd2_remember ⟨Nat.le_of_ble_eq_true rfl, Nat.le_of_ble_eq_true rfl⟩) (pre_V hK hX hI hA hS (vrC_8_9 hv_this) rfl rfl [.ref (G.2.2.1 0 0)]) rfl rfl hl.1 rfl (lv_room (Nat.le_of_ble_eq_true rfl)) dX8_addPair_18 ⟨Nat.le_of_ble_eq_true rfl, Nat.le_of_ble_eq_true rfl⟩) hS (fun st6 h H locs hI hS => ?_)
    refine lv_aload_n hx hb dX8_addPair_21 rfl (lv_at hl 1 rfl) ?_
    refine lv_iload_n hx hb dX8_addPair_22 rfl (lv_at hl 2 rfl) ?_
    refine lv_iload_n hx hb dX8_addPair_23 rfl (lv_at hl 3 rfl) ?_
    refine r_calli (va_runV (As := [.int (iI a1), .int (iI a2)]) (rest := []) ⟨hx, hb, hml, hown, hts⟩ (m6_putLast l G a0 hv_a0 _ st6 a1 a2 h) (cwV 2 hts gX8_addPair_X6_putLast rfl rfl rfl hd6_putLast ⟨Nat.le_of_ble_eq_true rfl, Nat.le_of_ble_eq_true rfl⟩) (pre_V hK hX hI hA hS hv_a0 rfl rfl [.int (iI a1), .int (iI a2)]) rfl rfl hl.1 rfl (lv_room (Nat.le_of_ble_eq_true rfl)) dX8_addPair_24 ⟨Nat.le_of_ble_eq_true rfl, Nat.le_of_ble_eq_true rfl⟩) hS (fun z7 st8 h H locs hI hS => ?_)
    exact r_iret hx hb hr hlocks hK hI hS (Qp := Q) h dX8_addPair_27
  · replace h := h.2 c4
    refine lv_iload hx hb dX8_addPair_7 (lv_at hl 4 rfl) ?_
    exact r_iret hx hb hr hlocks hK hI hS (Qp := Q) h dX8_addPair_9
theorem hd8_addLoad : yX8_addLoad.cls = RX8 ∧ yX8_addLoad.cls ≠ "java/lang/invoke/MethodHandle" ∧ yX8_addLoad.cls ≠ "java/lang/invoke/VarHandle" ∧ (parseMethodDescriptor yX8_addLoad.desc).map (fun d => d.parameters.length) = some 2 := by decide +kernel
set_option maxHeartbeats 4000000 in
set_option maxRecDepth 100000 in
theorem m8_addLoad (l : Launch) (G : WG) (hfl : l.stackTraces = false)  (hv_this : vC 8 0) (Q : Int → St → Prop) (X : String → St → Prop) (st : St) (a0 : Int) (a1 : Int) (h : f8_addLoad Q X st a0 a1) : vx_Met l yX8_addLoad wsX8_addLoad ({ frames := 7, cells := 2, slots := 12, locals := 130 }) (PcM vC G st [.ref (G.2.2.1 8 0), .int (iI a0), .int (iI a1)]) (QiM vC G Q) (XM vC G X) 2 12 G.2.2.2.1 := by
  refine vx_ofW (cc := cX8_addLoad) (maxL := 3) (ret := (some .int)) (by decide) rfl ?_
  intro p e s m args below meth c s₁ B hml hE hvv
  obtain ⟨rfl, hA, hI, hK, hX⟩ := hvv
  have hx := B.exec
  have hb := B.bytes
  have hr := B.returns
  have hts := atoms_spec (ws := wsX8_addLoad) B.pre
  have hown : s.vm.findClass RX8 = some m.cls := findClass_of_methodNamed B.named
  have hlocks := B.notSynchronized
  have hS : va_S G.2.2.2.1 s.heap s.heap [] := va_S.rf
  have in0 : ∀ w ∈ wsX00, w ∈ wsX8_addLoad := by decide +kernel
  have in8 : ∀ w ∈ wsX80, w ∈ wsX8_addLoad := by decide +kernel
  have lk_23 := hts (.fieldLink RX8 23 "BeamLines" "present" "LBeamLines$Beam;") (by decide +kernel)
  have lk_141 := hts (.fieldLink RX8 141 "BeamLines$Beam" "loads" "LBeamLines$Row;") (by decide +kernel)
  have hl := lv_entry ([.ref (G.2.2.1 8 0), .int (iI a0), .int (iI a1)]) (n := 3) (Nat.le_of_ble_eq_true rfl)
  rw [lg_entry_eq]
  generalize (lg_sl ([.ref (G.2.2.1 8 0), .int (iI a0), .int (iI a1)]) ++ List.replicate (3 - (lg_sl ([.ref (G.2.2.1 8 0), .int (iI a0), .int (iI a1)])).length) Slot.unset).toArray = ls at hl ⊢
  have hl : lv_has ls 3 [(0, .ref (G.2.2.1 8 0)), (1, .int (iI a0)), (2, .int (iI a1))] := hl
  unfold f8_addLoad at h
  refine lv_aload_n hx hb dX8_addLoad_0 rfl (lv_at hl 0 rfl) ?_
  refine lv_iload_n hx hb dX8_addLoad_1 rfl (lv_at hl 2 rfl) ?_
  refine r_xcallv (vx_runV (As := [.int (iI a1)]) (rest := []) ⟨hx, hb, hml, hown, hts⟩ (m8_needPlace l G hfl hv_this _ _ st a1 h) (cwV 1 hts gX8_addLoad_X8_needPlace rfl rfl rfl hd8_needPlace ⟨Nat.le_of_ble_eq_true rfl, Nat.le_of_ble_eq_true rfl⟩) (pre_V hK hX hI hA hS hv_this rfl rfl [.int (iI a1)]) rfl rfl hl.1 rfl (lv_room (Nat.le_of_ble_eq_true rfl)) dX8_addLoad_2 ⟨Nat.le_of_ble_eq_true rfl, Nat.le_of_ble_eq_true rfl⟩) hS hE hlocks hK (by decide) (by decide) (fun st2 h H locs hI hS => ?_)
  refine lv_aload_n hx hb dX8_addLoad_5 rfl (lv_at hl 0 rfl) ?_
  refine lv_iload_n hx hb dX8_addLoad_6 rfl (lv_at hl 1 rfl) ?_
  refine r_iconst (n := 1) hx hb dX8_addLoad_7 ?_
  refine r_sipush (n := 999) hx hb dX8_addLoad_8 rfl ?_
  refine r_xcallv (vx_runV (As := [.int (iI a0), .int (iI 1), .int (iI 999)]) (rest := []) ⟨hx, hb, hml, hown, hts⟩ (m8_needRange l G hfl hv_this _ _ st2 a0 1 999 h) (cwV 3 hts gX8_addLoad_X8_needRange rfl rfl rfl hd8_needRange ⟨Nat.le_of_ble_eq_true rfl, Nat.le_of_ble_eq_true rfl⟩) (pre_V hK hX hI hA hS hv_this rfl rfl [.int (iI a0), .int (iI 1), .int (iI 999)]) rfl rfl hl.1 rfl (lv_room (Nat.le_of_ble_eq_true rfl)) dX8_addLoad_11 ⟨Nat.le_of_ble_eq_true rfl, Nat.le_of_ble_eq_true rfl⟩) hS hE hlocks hK (by decide) (by decide) (fun st4 h H locs hI hS => ?_)
  refine lv_aload_n hx hb dX8_addLoad_14 rfl (lv_at hl 0 rfl) ?_
  refine lv_aload_n hx hb dX8_addLoad_15 rfl (lv_at hl 0 rfl) ?_
  refine gg_8_2 hx hb hts in8 hown hK hI hv_this lk_23 dX8_addLoad_16 ?_
  refine gg_0_4 hx hb hts in0 hown hK hI (vrC_8_2 hv_this) lk_141 dX8_addLoad_19 ?_
  refine lv_iload_n hx hb dX8_addLoad_22 rfl (lv_at hl 1 rfl) ?_
  refine lv_iload_n hx hb dX8_addLoad_23 rfl (lv_at hl 2 rfl) ?_
  refine r_bipush (n := (-13)) hx hb dX8_addLoad_24 rfl ?_
  refine r_calli (va_runV (As := [.ref (G.2.2.1 6 (4 * 0 + 2)), .int (iI a0), .int (iI a1), .int (iI (-13))]) (rest := []) ⟨hx, hb, hml, hown, hts⟩ (m8_addPair l G (4 * 0 + 2) hv_this (vrC_0_4 (vrC_8_2 hv_this)) _ st4 a0 a1 (-13) h) (cwV 4 hts gX8_addLoad_X8_addPair rfl rfl rfl hd8_addPair ⟨Nat.le_of_ble_eq_true rfl, Nat.le_of_ble_eq_true rfl⟩) (pre_V hK hX hI hA hS hv_this rfl rfl [.ref (G.2.2.1 6 (4 * 0 + 2)), .int (iI a0), .int (iI a1), .int (iI (-13))]) rfl rfl hl.1 rfl (lv_room (Nat.le_of_ble_eq_true rfl)) dX8_addLoad_26 ⟨Nat.le_of_ble_eq_true rfl, Nat.le_of_ble_eq_true rfl⟩) hS (fun z5 st6 h H locs hI hS => ?_)
  refine W.widen (k := 2) (n := 12) (by decide) (by decide) ?_
  exact vx_ret (r_iret hx hb hr hlocks hK hI hS (Qp := Q) h dX8_addLoad_29)
theorem hd8_dropPair : yX8_dropPair.cls = RX8 ∧ yX8_dropPair.cls ≠ "java/lang/invoke/MethodHandle" ∧ yX8_dropPair.cls ≠ "java/lang/invoke/VarHandle" ∧ (parseMethodDescriptor yX8_dropPair.desc).map (fun d => d.parameters.length) = some 2 := by decide +kernel
set_option maxHeartbeats 4000000 in
set_option maxRecDepth 100000 in
theorem m8_dropPair (l : Launch) (G : WG) (hfl : l.stackTraces = false) (a0 : Int) (hv_this : vC 8 0) (hv_a0 : vC 6 a0) (Q : Int → St → Prop) (X : String → St → Prop) (st : St) (a1 : Int) (h : f8_dropPair a0 Q X st a1) : vx_Met l yX8_dropPair wsX8_dropPair ({ frames := 7, cells := 1, slots := 6, locals := 111 }) (PcM vC G st [.ref (G.2.2.1 8 0), .ref (G.2.2.1 6 a0), .int (iI a1)]) (QiM vC G Q) (XM vC G X) 1 6 G.2.2.2.1 := by
  refine vx_ofW (cc := cX8_dropPair) (maxL := 4) (ret := (some .int)) (by decide) rfl ?_
  intro p e s m args below meth c s₁ B hml hE hvv
  obtain ⟨rfl, hA, hI, hK, hX⟩ := hvv
  have hx := B.exec
  have hb := B.bytes
  have hr := B.returns
  have hts := atoms_spec (ws := wsX8_dropPair) B.pre
  have hown : s.vm.findClass RX8 = some m.cls := findClass_of_methodNamed B.named
  have hlocks := B.notSynchronized
  have hS : va_S G.2.2.2.1 s.heap s.heap [] := va_S.rf
  have in8 : ∀ w ∈ wsX80, w ∈ wsX8_dropPair := by decide +kernel
  have lk_23 := hts (.fieldLink RX8 23 "BeamLines" "present" "LBeamLines$Beam;") (by decide +kernel)
  have lk_60 := hts (.fieldLink RX8 60 "BeamLines" "history" "LBeamLines$History;") (by decide +kernel)
  have hl := lv_entry ([.ref (G.2.2.1 8 0), .ref (G.2.2.1 6 a0), .int (iI a1)]) (n := 4) (Nat.le_of_ble_eq_true rfl)
  rw [lg_entry_eq]
  generalize (lg_sl ([.ref (G.2.2.1 8 0), .ref (G.2.2.1 6 a0), .int (iI a1)]) ++ List.replicate (4 - (lg_sl ([.ref (G.2.2.1 8 0), .ref (G.2.2.1 6 a0), .int (iI a1)])).length) Slot.unset).toArray = ls at hl ⊢
  have hl : lv_has ls 4 [(0, .ref (G.2.2.1 8 0)), (1, .ref (G.2.2.1 6 a0)), (2, .int (iI a1))] := hl
  unfold f8_dropPair at h
  refine lv_aload_n hx hb dX8_dropPair_0 rfl (lv_at hl 0 rfl) ?_
  refine lv_aload_n hx hb dX8_dropPair_1 rfl (lv_at hl 1 rfl) ?_
  refine lv_iload_n hx hb dX8_dropPair_2 rfl (lv_at hl 2 rfl) ?_
  refine r_xcallv (vx_runV (As := [.ref (G.2.2.1 6 a0), .int (iI a1)]) (rest := []) ⟨hx, hb, hml, hown, hts⟩ (m8_needNumber l G hfl a0 hv_this hv_a0 _ _ st a1 h) (cwV 2 hts gX8_dropPair_X8_needNumber rfl rfl rfl hd8_needNumber ⟨Nat.le_of_ble_eq_true rfl, Nat.le_of_ble_eq_true rfl⟩) (pre_V hK hX hI hA hS hv_this rfl rfl [.ref (G.2.2.1 6 a0), .int (iI a1)]) rfl rfl hl.1 rfl (lv_room (Nat.le_of_ble_eq_true rfl)) dX8_dropPair_3 ⟨Nat.le_of_ble_eq_true rfl, Nat.le_of_ble_eq_true rfl⟩) hS hE hlocks hK (by decide) (by decide) (fun st2 h H locs hI hS => ?_)
  refine lv_aload_n hx hb dX8_dropPair_6 rfl (lv_at hl 0 rfl) ?_
  refine gg_8_9 hx hb hts in8 hown hK hI hv_this lk_60 dX8_dropPair_7 ?_
  refine lv_aload_n hx hb dX8_dropPair_10 rfl (lv_at hl 0 rfl) ?_
  refine gg_8_2 hx hb hts in8 hown hK hI hv_this lk_23 dX8_dropPair_11 ?_
  refine r_callv (va_runV (As := [.ref (G.2.2.1 0 0)]) (rest := []) ⟨hx, hb, hml, hown, hts⟩ (m2_remember l G 0 (vrC_8_9 hv_this) (vrC_8_2 hv_this) _ st2 h) (cwV 1 hts gX8_dropPair_X2_remember rfl rfl rfl hd2_remember ⟨Nat.le_of_ble_eq_true rfl, Nat.le_of_ble_eq_true rfl⟩) (pre_V hK hX hI hA hS (vrC_8_9 hv_this) rfl rfl [.ref (G.2.2.1 0 0)]) rfl rfl hl.1 rfl (lv_room (Nat.le_of_ble_eq_true rfl)) dX8_dropPair_14 ⟨Nat.le_of_ble_eq_true rfl, Nat.le_of_ble_eq_true rfl⟩) hS (fun st4 h H locs hI hS => ?_)
  refine lv_aload_n hx hb dX8_dropPair_17 rfl (lv_at hl 1 rfl) ?_
  refine lv_iload_n hx hb dX8_dropPair_18 rfl (lv_at hl 2 rfl) ?_
  refine r_calli (va_runV (As := [.int (iI a1)]) (rest := []) ⟨hx, hb, hml, hown, hts⟩ (m6_first l G a0 hv_a0 _ st4 a1 h) (cwV 1 hts gX8_dropPair_X6_first rfl rfl rfl hd6_first ⟨Nat.le_of_ble_eq_true rfl, Nat.le_of_ble_eq_true rfl⟩) (pre_V hK hX hI hA hS hv_a0 rfl rfl [.int (iI a1)]) rfl rfl hl.1 rfl (lv_room (Nat.le_of_ble_eq_true rfl)) dX8_dropPair_19 ⟨Nat.le_of_ble_eq_true rfl, Nat.le_of_ble_eq_true rfl⟩) hS (fun z5 st6 h H locs hI hS => ?_)
  refine lv_istore_n (lv' := [(3, .int (iI z5)), (0, .ref (G.2.2.1 8 0)), (1, .ref (G.2.2.1 6 a0)), (2, .int (iI a1))]) hx hb dX8_dropPair_22 rfl hl (by decide) rfl (fun ls hl => ?_)
  refine lv_aload_n hx hb dX8_dropPair_23 rfl (lv_at hl 2 rfl) ?_
  refine lv_iload_n hx hb dX8_dropPair_24 rfl (lv_at hl 3 rfl) ?_
  refine r_callv (va_runV (As := [.int (iI a1)]) (rest := []) ⟨hx, hb, hml, hown, hts⟩ (m6_remove l G a0 hv_a0 _ st6 a1 h) (cwV 1 hts gX8_dropPair_X6_remove rfl rfl rfl hd6_remove ⟨Nat.le_of_ble_eq_true rfl, Nat.le_of_ble_eq_true rfl⟩) (pre_V hK hX hI hA hS hv_a0 rfl rfl [.int (iI a1)]) rfl rfl hl.1 rfl (lv_room (Nat.le_of_ble_eq_true rfl)) dX8_dropPair_25 ⟨Nat.le_of_ble_eq_true rfl, Nat.le_of_ble_eq_true rfl⟩) hS (fun st8 h H locs hI hS => ?_)
  refine lv_iload_n hx hb dX8_dropPair_28 rfl (lv_at hl 0 rfl) ?_
  refine W.widen (k := 1) (n := 6) (by decide) (by decide) ?_
  exact vx_ret (r_iret hx hb hr hlocks hK hI hS (Qp := Q) h dX8_dropPair_29)
theorem hd8_dropLoad : yX8_dropLoad.cls = RX8 ∧ yX8_dropLoad.cls ≠ "java/lang/invoke/MethodHandle" ∧ yX8_dropLoad.cls ≠ "java/lang/invoke/VarHandle" ∧ (parseMethodDescriptor yX8_dropLoad.desc).map (fun d => d.parameters.length) = some 1 := by decide +kernel
set_option maxHeartbeats 4000000 in
set_option maxRecDepth 100000 in
theorem m8_dropLoad (l : Launch) (G : WG) (hfl : l.stackTraces = false)  (hv_this : vC 8 0) (Q : Int → St → Prop) (X : String → St → Prop) (st : St) (a0 : Int) (h : f8_dropLoad Q X st a0) : vx_Met l yX8_dropLoad wsX8_dropLoad ({ frames := 8, cells := 1, slots := 6, locals := 134 }) (PcM vC G st [.ref (G.2.2.1 8 0), .int (iI a0)]) (QiM vC G Q) (XM vC G X) 1 6 G.2.2.2.1 := by
  refine vx_ofW (cc := cX8_dropLoad) (maxL := 2) (ret := (some .int)) (by decide) rfl ?_
  intro p e s m args below meth c s₁ B hml hE hvv
  obtain ⟨rfl, hA, hI, hK, hX⟩ := hvv
  have hx := B.exec
  have hb := B.bytes
  have hr := B.returns
  have hts := atoms_spec (ws := wsX8_dropLoad) B.pre
  have hown : s.vm.findClass RX8 = some m.cls := findClass_of_methodNamed B.named
  have hlocks := B.notSynchronized
  have hS : va_S G.2.2.2.1 s.heap s.heap [] := va_S.rf
  have in0 : ∀ w ∈ wsX00, w ∈ wsX8_dropLoad := by decide +kernel
  have in8 : ∀ w ∈ wsX80, w ∈ wsX8_dropLoad := by decide +kernel
  have lk_23 := hts (.fieldLink RX8 23 "BeamLines" "present" "LBeamLines$Beam;") (by decide +kernel)
  have lk_141 := hts (.fieldLink RX8 141 "BeamLines$Beam" "loads" "LBeamLines$Row;") (by decide +kernel)
  have hl := lv_entry ([.ref (G.2.2.1 8 0), .int (iI a0)]) (n := 2) (Nat.le_of_ble_eq_true rfl)
  rw [lg_entry_eq]
  generalize (lg_sl ([.ref (G.2.2.1 8 0), .int (iI a0)]) ++ List.replicate (2 - (lg_sl ([.ref (G.2.2.1 8 0), .int (iI a0)])).length) Slot.unset).toArray = ls at hl ⊢
  have hl : lv_has ls 2 [(0, .ref (G.2.2.1 8 0)), (1, .int (iI a0))] := hl
  unfold f8_dropLoad at h
  refine lv_aload_n hx hb dX8_dropLoad_0 rfl (lv_at hl 0 rfl) ?_
  refine lv_aload_n hx hb dX8_dropLoad_1 rfl (lv_at hl 0 rfl) ?_
  refine gg_8_2 hx hb hts in8 hown hK hI hv_this lk_23 dX8_dropLoad_2 ?_
  refine gg_0_4 hx hb hts in0 hown hK hI (vrC_8_2 hv_this) lk_141 dX8_dropLoad_5 ?_
  refine lv_iload_n hx hb dX8_dropLoad_8 rfl (lv_at hl 1 rfl) ?_
  refine r_xcalli (vx_runV (As := [.ref (G.2.2.1 6 (4 * 0 + 2)), .int (iI a0)]) (rest := []) ⟨hx, hb, hml, hown, hts⟩ (m8_dropPair l G hfl (4 * 0 + 2) hv_this (vrC_0_4 (vrC_8_2 hv_this)) _ _ st a0 h) (cwV 2 hts gX8_dropLoad_X8_dropPair rfl rfl rfl hd8_dropPair ⟨Nat.le_of_ble_eq_true rfl, Nat.le_of_ble_eq_true rfl⟩) (pre_V hK hX hI hA hS hv_this rfl rfl [.ref (G.2.2.1 6 (4 * 0 + 2)), .int (iI a0)]) rfl rfl hl.1 rfl (lv_room (Nat.le_of_ble_eq_true rfl)) dX8_dropLoad_9 ⟨Nat.le_of_ble_eq_true rfl, Nat.le_of_ble_eq_true rfl⟩) hS hE hlocks hK (by decide) (by decide) (fun z1 st2 h H locs hI hS => ?_)
  refine W.widen (k := 1) (n := 6) (by decide) (by decide) ?_
  exact vx_ret (r_iret hx hb hr hlocks hK hI hS (Qp := Q) h dX8_dropLoad_12)
theorem hd8_addAxle : yX8_addAxle.cls = RX8 ∧ yX8_addAxle.cls ≠ "java/lang/invoke/MethodHandle" ∧ yX8_addAxle.cls ≠ "java/lang/invoke/VarHandle" ∧ (parseMethodDescriptor yX8_addAxle.desc).map (fun d => d.parameters.length) = some 2 := by decide +kernel
set_option maxHeartbeats 4000000 in
set_option maxRecDepth 100000 in
theorem m8_addAxle (l : Launch) (G : WG) (hfl : l.stackTraces = false)  (hv_this : vC 8 0) (Q : Int → St → Prop) (X : String → St → Prop) (st : St) (a0 : Int) (a1 : Int) (h : f8_addAxle Q X st a0 a1) : vx_Met l yX8_addAxle wsX8_addAxle ({ frames := 7, cells := 2, slots := 12, locals := 130 }) (PcM vC G st [.ref (G.2.2.1 8 0), .int (iI a0), .int (iI a1)]) (QiM vC G Q) (XM vC G X) 2 12 G.2.2.2.1 := by
  refine vx_ofW (cc := cX8_addAxle) (maxL := 3) (ret := (some .int)) (by decide) rfl ?_
  intro p e s m args below meth c s₁ B hml hE hvv
  obtain ⟨rfl, hA, hI, hK, hX⟩ := hvv
  have hx := B.exec
  have hb := B.bytes
  have hr := B.returns
  have hts := atoms_spec (ws := wsX8_addAxle) B.pre
  have hown : s.vm.findClass RX8 = some m.cls := findClass_of_methodNamed B.named
  have hlocks := B.notSynchronized
  have hS : va_S G.2.2.2.1 s.heap s.heap [] := va_S.rf
  have in0 : ∀ w ∈ wsX00, w ∈ wsX8_addAxle := by decide +kernel
  have in8 : ∀ w ∈ wsX80, w ∈ wsX8_addAxle := by decide +kernel
  have lk_23 := hts (.fieldLink RX8 23 "BeamLines" "present" "LBeamLines$Beam;") (by decide +kernel)
  have lk_144 := hts (.fieldLink RX8 144 "BeamLines$Beam" "axles" "LBeamLines$Row;") (by decide +kernel)
  have hl := lv_entry ([.ref (G.2.2.1 8 0), .int (iI a0), .int (iI a1)]) (n := 3) (Nat.le_of_ble_eq_true rfl)
  rw [lg_entry_eq]
  generalize (lg_sl ([.ref (G.2.2.1 8 0), .int (iI a0), .int (iI a1)]) ++ List.replicate (3 - (lg_sl ([.ref (G.2.2.1 8 0), .int (iI a0), .int (iI a1)])).length) Slot.unset).toArray = ls at hl ⊢
  have hl : lv_has ls 3 [(0, .ref (G.2.2.1 8 0)), (1, .int (iI a0)), (2, .int (iI a1))] := hl
  unfold f8_addAxle at h
  refine lv_aload_n hx hb dX8_addAxle_0 rfl (lv_at hl 0 rfl) ?_
  refine lv_iload_n hx hb dX8_addAxle_1 rfl (lv_at hl 1 rfl) ?_
  refine r_iconst (n := 1) hx hb dX8_addAxle_2 ?_
  refine r_sipush (n := 999) hx hb dX8_addAxle_3 rfl ?_
  refine r_xcallv (vx_runV (As := [.int (iI a0), .int (iI 1), .int (iI 999)]) (rest := []) ⟨hx, hb, hml, hown, hts⟩ (m8_needRange l G hfl hv_this _ _ st a0 1 999 h) (cwV 3 hts gX8_addAxle_X8_needRange rfl rfl rfl hd8_needRange ⟨Nat.le_of_ble_eq_true rfl, Nat.le_of_ble_eq_true rfl⟩) (pre_V hK hX hI hA hS hv_this rfl rfl [.int (iI a0), .int (iI 1), .int (iI 999)]) rfl rfl hl.1 rfl (lv_room (Nat.le_of_ble_eq_true rfl)) dX8_addAxle_6 ⟨Nat.le_of_ble_eq_true rfl, Nat.le_of_ble_eq_true rfl⟩) hS hE hlocks hK (by decide) (by decide) (fun st2 h H locs hI hS => ?_)
  refine lv_aload_n hx hb dX8_addAxle_9 rfl (lv_at hl 0 rfl) ?_
  refine lv_iload_n hx hb dX8_addAxle_10 rfl (lv_at hl 2 rfl) ?_
  refine r_iconst (n := 0) hx hb dX8_addAxle_11 ?_
  refine r_bipush (n := 30) hx hb dX8_addAxle_12 rfl ?_
  refine r_xcallv (vx_runV (As := [.int (iI a1), .int (iI 0), .int (iI 30)]) (rest := []) ⟨hx, hb, hml, hown, hts⟩ (m8_needRange l G hfl hv_this _ _ st2 a1 0 30 h) (cwV 3 hts gX8_addAxle_X8_needRange rfl rfl rfl hd8_needRange ⟨Nat.le_of_ble_eq_true rfl, Nat.le_of_ble_eq_true rfl⟩) (pre_V hK hX hI hA hS hv_this rfl rfl [.int (iI a1), .int (iI 0), .int (iI 30)]) rfl rfl hl.1 rfl (lv_room (Nat.le_of_ble_eq_true rfl)) dX8_addAxle_14 ⟨Nat.le_of_ble_eq_true rfl, Nat.le_of_ble_eq_true rfl⟩) hS hE hlocks hK (by decide) (by decide) (fun st4 h H locs hI hS => ?_)
  refine lv_aload_n hx hb dX8_addAxle_17 rfl (lv_at hl 0 rfl) ?_
  refine lv_aload_n hx hb dX8_addAxle_18 rfl (lv_at hl 0 rfl) ?_
  refine gg_8_2 hx hb hts in8 hown hK hI hv_this lk_23 dX8_addAxle_19 ?_
  refine gg_0_5 hx hb hts in0 hown hK hI (vrC_8_2 hv_this) lk_144 dX8_addAxle_22 ?_
  refine lv_iload_n hx hb dX8_addAxle_25 rfl (lv_at hl 1 rfl) ?_
  refine lv_iload_n hx hb dX8_addAxle_26 rfl (lv_at hl 2 rfl) ?_
  refine r_bipush (n := (-14)) hx hb dX8_addAxle_27 rfl ?_
  refine r_calli (va_runV (As := [.ref (G.2.2.1 6 (4 * 0 + 3)), .int (iI a0), .int (iI a1), .int (iI (-14))]) (rest := []) ⟨hx, hb, hml, hown, hts⟩ (m8_addPair l G (4 * 0 + 3) hv_this (vrC_0_5 (vrC_8_2 hv_this)) _ st4 a0 a1 (-14) h) (cwV 4 hts gX8_addAxle_X8_addPair rfl rfl rfl hd8_addPair ⟨Nat.le_of_ble_eq_true rfl, Nat.le_of_ble_eq_true rfl⟩) (pre_V hK hX hI hA hS hv_this rfl rfl [.ref (G.2.2.1 6 (4 * 0 + 3)), .int (iI a0), .int (iI a1), .int (iI (-14))]) rfl rfl hl.1 rfl (lv_room (Nat.le_of_ble_eq_true rfl)) dX8_addAxle_29 ⟨Nat.le_of_ble_eq_true rfl, Nat.le_of_ble_eq_true rfl⟩) hS (fun z5 st6 h H locs hI hS => ?_)
  refine W.widen (k := 2) (n := 12) (by decide) (by decide) ?_
  exact vx_ret (r_iret hx hb hr hlocks hK hI hS (Qp := Q) h dX8_addAxle_32)
theorem hd8_dropAxle : yX8_dropAxle.cls = RX8 ∧ yX8_dropAxle.cls ≠ "java/lang/invoke/MethodHandle" ∧ yX8_dropAxle.cls ≠ "java/lang/invoke/VarHandle" ∧ (parseMethodDescriptor yX8_dropAxle.desc).map (fun d => d.parameters.length) = some 1 := by decide +kernel
set_option maxHeartbeats 4000000 in
set_option maxRecDepth 100000 in
theorem m8_dropAxle (l : Launch) (G : WG) (hfl : l.stackTraces = false)  (hv_this : vC 8 0) (Q : Int → St → Prop) (X : String → St → Prop) (st : St) (a0 : Int) (h : f8_dropAxle Q X st a0) : vx_Met l yX8_dropAxle wsX8_dropAxle ({ frames := 8, cells := 1, slots := 6, locals := 134 }) (PcM vC G st [.ref (G.2.2.1 8 0), .int (iI a0)]) (QiM vC G Q) (XM vC G X) 1 6 G.2.2.2.1 := by
  refine vx_ofW (cc := cX8_dropAxle) (maxL := 2) (ret := (some .int)) (by decide) rfl ?_
  intro p e s m args below meth c s₁ B hml hE hvv
  obtain ⟨rfl, hA, hI, hK, hX⟩ := hvv
  have hx := B.exec
  have hb := B.bytes
  have hr := B.returns
  have hts := atoms_spec (ws := wsX8_dropAxle) B.pre
  have hown : s.vm.findClass RX8 = some m.cls := findClass_of_methodNamed B.named
  have hlocks := B.notSynchronized
  have hS : va_S G.2.2.2.1 s.heap s.heap [] := va_S.rf
  have in0 : ∀ w ∈ wsX00, w ∈ wsX8_dropAxle := by decide +kernel
  have in8 : ∀ w ∈ wsX80, w ∈ wsX8_dropAxle := by decide +kernel
  have lk_23 := hts (.fieldLink RX8 23 "BeamLines" "present" "LBeamLines$Beam;") (by decide +kernel)
  have lk_144 := hts (.fieldLink RX8 144 "BeamLines$Beam" "axles" "LBeamLines$Row;") (by decide +kernel)
  have hl := lv_entry ([.ref (G.2.2.1 8 0), .int (iI a0)]) (n := 2) (Nat.le_of_ble_eq_true rfl)
  rw [lg_entry_eq]
  generalize (lg_sl ([.ref (G.2.2.1 8 0), .int (iI a0)]) ++ List.replicate (2 - (lg_sl ([.ref (G.2.2.1 8 0), .int (iI a0)])).length) Slot.unset).toArray = ls at hl ⊢
  have hl : lv_has ls 2 [(0, .ref (G.2.2.1 8 0)), (1, .int (iI a0))] := hl
  unfold f8_dropAxle at h
  refine lv_aload_n hx hb dX8_dropAxle_0 rfl (lv_at hl 0 rfl) ?_
  refine lv_aload_n hx hb dX8_dropAxle_1 rfl (lv_at hl 0 rfl) ?_
  refine gg_8_2 hx hb hts in8 hown hK hI hv_this lk_23 dX8_dropAxle_2 ?_
  refine gg_0_5 hx hb hts in0 hown hK hI (vrC_8_2 hv_this) lk_144 dX8_dropAxle_5 ?_
  refine lv_iload_n hx hb dX8_dropAxle_8 rfl (lv_at hl 1 rfl) ?_
  refine r_xcalli (vx_runV (As := [.ref (G.2.2.1 6 (4 * 0 + 3)), .int (iI a0)]) (rest := []) ⟨hx, hb, hml, hown, hts⟩ (m8_dropPair l G hfl (4 * 0 + 3) hv_this (vrC_0_5 (vrC_8_2 hv_this)) _ _ st a0 h) (cwV 2 hts gX8_dropAxle_X8_dropPair rfl rfl rfl hd8_dropPair ⟨Nat.le_of_ble_eq_true rfl, Nat.le_of_ble_eq_true rfl⟩) (pre_V hK hX hI hA hS hv_this rfl rfl [.ref (G.2.2.1 6 (4 * 0 + 3)), .int (iI a0)]) rfl rfl hl.1 rfl (lv_room (Nat.le_of_ble_eq_true rfl)) dX8_dropAxle_9 ⟨Nat.le_of_ble_eq_true rfl, Nat.le_of_ble_eq_true rfl⟩) hS hE hlocks hK (by decide) (by decide) (fun z1 st2 h H locs hI hS => ?_)
  refine W.widen (k := 1) (n := 6) (by decide) (by decide) ?_
  exact vx_ret (r_iret hx hb hr hlocks hK hI hS (Qp := Q) h dX8_dropAxle_12)
theorem hd8_setBearing : yX8_setBearing.cls = RX8 ∧ yX8_setBearing.cls ≠ "java/lang/invoke/MethodHandle" ∧ yX8_setBearing.cls ≠ "java/lang/invoke/VarHandle" ∧ (parseMethodDescriptor yX8_setBearing.desc).map (fun d => d.parameters.length) = some 2 := by decide +kernel
set_option maxHeartbeats 4000000 in
set_option maxRecDepth 100000 in
theorem m8_setBearing (l : Launch) (G : WG) (hfl : l.stackTraces = false)  (hv_this : vC 8 0) (Q : Int → St → Prop) (X : String → St → Prop) (st : St) (a0 : Int) (a1 : Int) (h : f8_setBearing Q X st a0 a1) : vx_Met l yX8_setBearing wsX8_setBearing ({ frames := 7, cells := 2, slots := 12, locals := 112 }) (PcM vC G st [.ref (G.2.2.1 8 0), .int (iI a0), .int (iI a1)]) (QiM vC G Q) (XM vC G X) 2 12 G.2.2.2.1 := by
  refine vx_ofW (cc := cX8_setBearing) (maxL := 4) (ret := (some .int)) (by decide) rfl ?_
  intro p e s m args below meth c s₁ B hml hE hvv
  obtain ⟨rfl, hA, hI, hK, hX⟩ := hvv
  have hx := B.exec
  have hb := B.bytes
  have hr := B.returns
  have hts := atoms_spec (ws := wsX8_setBearing) B.pre
  have hown : s.vm.findClass RX8 = some m.cls := findClass_of_methodNamed B.named
  have hlocks := B.notSynchronized
  have hS : va_S G.2.2.2.1 s.heap s.heap [] := va_S.rf
  have in0 : ∀ w ∈ wsX00, w ∈ wsX8_setBearing := by decide +kernel
  have in8 : ∀ w ∈ wsX80, w ∈ wsX8_setBearing := by decide +kernel
  have lk_23 := hts (.fieldLink RX8 23 "BeamLines" "present" "LBeamLines$Beam;") (by decide +kernel)
  have lk_60 := hts (.fieldLink RX8 60 "BeamLines" "history" "LBeamLines$History;") (by decide +kernel)
  have lk_85 := hts (.fieldLink RX8 85 "BeamLines$Beam" "supports" "LBeamLines$Row;") (by decide +kernel)
  have kc_281 : (Jvm.Cond.constant RX8 281 (iI 99999)).before _ s = true := hts (.constant RX8 281 99999) (by decide +kernel)
  have hl := lv_entry ([.ref (G.2.2.1 8 0), .int (iI a0), .int (iI a1)]) (n := 4) (Nat.le_of_ble_eq_true rfl)
  rw [lg_entry_eq]
  generalize (lg_sl ([.ref (G.2.2.1 8 0), .int (iI a0), .int (iI a1)]) ++ List.replicate (4 - (lg_sl ([.ref (G.2.2.1 8 0), .int (iI a0), .int (iI a1)])).length) Slot.unset).toArray = ls at hl ⊢
  have hl : lv_has ls 4 [(0, .ref (G.2.2.1 8 0)), (1, .int (iI a0)), (2, .int (iI a1))] := hl
  have J26 : ∀ (st : St) (H : Heap) (locs : List Loc) (ls : Array Slot), Iv vC G st H → va_S G.2.2.2.1 s.heap H locs → lv_has ls 4 [(0, .ref (G.2.2.1 8 0)), (1, .int (iI a0)), (2, .int (iI a1))] → f8_setBearing_j26 Q X a0 a1 st → W p l e (headSpec wsX8_setBearing ({ frames := 7, cells := 2, slots := 12, locals := 112 })).room s m ([.ref (G.2.2.1 8 0), .int (iI a0), .int (iI a1)] : List Value).toArray below meth c H locs 2 12 (vx_MQ below (QiM vC G Q) (XM vC G X) ([.ref (G.2.2.1 8 0), .int (iI a0), .int (iI a1)] : List Value).toArray s 2 12 G.2.2.2.1) (F0 m 26 ls []) := by
    intro st H locs ls hI hS hl h
    unfold f8_setBearing_j26 at h
    refine lv_aload_n hx hb dX8_setBearing_26 rfl (lv_at hl 0 rfl) ?_
    refine gg_8_9 hx hb hts in8 hown hK hI hv_this lk_60 dX8_setBearing_27 ?_
    refine lv_aload_n hx hb dX8_setBearing_30 rfl (lv_at hl 0 rfl) ?_
    refine gg_8_2 hx hb hts in8 hown hK hI hv_this lk_23 dX8_setBearing_31 ?_
    refine r_callv (va_runV (As := [.ref (G.2.2.1 0 0)]) (rest := []) ⟨hx, hb, hml, hown, hts⟩ (m2_remember l G 0 (vrC_8_9 hv_this) (vrC_8_2 hv_this) _ st h) (cwV 1 hts gX8_setBearing_X2_remember rfl rfl rfl hd2_remember ⟨Nat.le_of_ble_eq_true rfl, Nat.le_of_ble_eq_true rfl⟩) (pre_V hK hX hI hA hS (vrC_8_9 hv_this) rfl rfl [.ref (G.2.2.1 0 0)]) rfl rfl hl.1 rfl (lv_room (Nat.le_of_ble_eq_true rfl)) dX8_setBearing_34 ⟨Nat.le_of_ble_eq_true rfl, Nat.le_of_ble_eq_true rfl⟩) hS (fun st8 h H locs hI hS => ?_)
    refine lv_aload_n hx hb dX8_setBearing_37 rfl (lv_at hl 0 rfl) ?_
    refine gg_8_2 hx hb hts in8 hown hK hI hv_this lk_23 dX8_setBearing_38 ?_
    refine gg_0_2 hx hb hts in0 hown hK hI (vrC_8_2 hv_this) lk_85 dX8_setBearing_41 ?_
    refine lv_iload_n hx hb dX8_setBearing_44 rfl (lv_at hl 1 rfl) ?_
    refine r_calli (va_runV (As := [.int (iI a0)]) (rest := []) ⟨hx, hb, hml, hown, hts⟩ (m6_second l G (4 * 0) (vrC_0_2 (vrC_8_2 hv_this)) _ st8 a0 h) (cwV 1 hts gX8_setBearing_X6_second rfl rfl rfl hd6_second ⟨Nat.le_of_ble_eq_true rfl, Nat.le_of_ble_eq_true rfl⟩) (pre_V hK hX hI hA hS (vrC_0_2 (vrC_8_2 hv_this)) rfl rfl [.int (iI a0)]) rfl rfl hl.1 rfl (lv_room (Nat.le_of_ble_eq_true rfl)) dX8_setBearing_45 ⟨Nat.le_of_ble_eq_true rfl, Nat.le_of_ble_eq_true rfl⟩) hS (fun z9 st10 h H locs hI hS => ?_)
    refine lv_istore_n (lv' := [(3, .int (iI z9)), (0, .ref (G.2.2.1 8 0)), (1, .int (iI a0)), (2, .int (iI a1))]) hx hb dX8_setBearing_48 rfl hl (by decide) rfl (fun ls hl => ?_)
    refine lv_aload_n hx hb dX8_setBearing_49 rfl (lv_at hl 1 rfl) ?_
    refine gg_8_2 hx hb hts in8 hown hK hI hv_this lk_23 dX8_setBearing_50 ?_
    refine gg_0_2 hx hb hts in0 hown hK hI (vrC_8_2 hv_this) lk_85 dX8_setBearing_53 ?_
    refine lv_iload_n hx hb dX8_setBearing_56 rfl (lv_at hl 2 rfl) ?_
    refine lv_iload_n hx hb dX8_setBearing_57 rfl (lv_at hl 3 rfl) ?_
    refine r_callv (va_runV (As := [.int (iI a0), .int (iI a1)]) (rest := []) ⟨hx, hb, hml, hown, hts⟩ (m6_setSecond l G (4 * 0) (vrC_0_2 (vrC_8_2 hv_this)) _ st10 a0 a1 h) (cwV 2 hts gX8_setBearing_X6_setSecond rfl rfl rfl hd6_setSecond ⟨Nat.le_of_ble_eq_true rfl, Nat.le_of_ble_eq_true rfl⟩) (pre_V hK hX hI hA hS (vrC_0_2 (vrC_8_2 hv_this)) rfl rfl [.int (iI a0), .int (iI a1)]) rfl rfl hl.1 rfl (lv_room (Nat.le_of_ble_eq_true rfl)) dX8_setBearing_58 ⟨Nat.le_of_ble_eq_true rfl, Nat.le_of_ble_eq_true rfl⟩) hS (fun st12 h H locs hI hS => ?_)
    refine lv_iload_n hx hb dX8_setBearing_61 rfl (lv_at hl 0 rfl) ?_
    refine W.widen (k := 2) (n := 12) (by decide) (by decide) ?_
    exact vx_ret (r_iret hx hb hr hlocks hK hI hS (Qp := Q) h dX8_setBearing_62)
  unfold f8_setBearing at h
  refine lv_aload_n hx hb dX8_setBearing_0 rfl (lv_at hl 0 rfl) ?_
  refine lv_aload_n hx hb dX8_setBearing_1 rfl (lv_at hl 0 rfl) ?_
  refine gg_8_2 hx hb hts in8 hown hK hI hv_this lk_23 dX8_setBearing_2 ?_
  refine gg_0_2 hx hb hts in0 hown hK hI (vrC_8_2 hv_this) lk_85 dX8_setBearing_5 ?_
  refine lv_iload_n hx hb dX8_setBearing_8 rfl (lv_at hl 1 rfl) ?_
  refine r_xcallv (vx_runV (As := [.ref (G.2.2.1 6 (4 * 0)), .int (iI a0)]) (rest := []) ⟨hx, hb, hml, hown, hts⟩ (m8_needNumber l G hfl (4 * 0) hv_this (vrC_0_2 (vrC_8_2 hv_this)) _ _ st a0 h) (cwV 2 hts gX8_setBearing_X8_needNumber rfl rfl rfl hd8_needNumber ⟨Nat.le_of_ble_eq_true rfl, Nat.le_of_ble_eq_true rfl⟩) (pre_V hK hX hI hA hS hv_this rfl rfl [.ref (G.2.2.1 6 (4 * 0)), .int (iI a0)]) rfl rfl hl.1 rfl (lv_room (Nat.le_of_ble_eq_true rfl)) dX8_setBearing_9 ⟨Nat.le_of_ble_eq_true rfl, Nat.le_of_ble_eq_true rfl⟩) hS hE hlocks hK (by decide) (by decide) (fun st2 h H locs hI hS => ?_)
  refine lv_iload_n hx hb dX8_setBearing_12 rfl (lv_at hl 2 rfl) ?_
  refine r_iconst (n := (-1)) hx hb dX8_setBearing_13 ?_
  obtain ⟨g3, h⟩ := h
  refine r_icmp_eq (tgt := 26) hx hb dX8_setBearing_14 (by decide) g3 (inI_mk rfl) (fun c4 => ?_) (fun c4 => ?_)
  · replace h := h.1 c4
    refine W.widen (k := 2) (n := 12) (by decide) (by decide) ?_
    exact J26 st2  _ _ ls hI hS (lv_sub hl [0, 1, 2] rfl) h
  · replace h := h.2 c4
    refine lv_aload_n hx hb dX8_setBearing_17 rfl (lv_at hl 0 rfl) ?_
    refine lv_iload_n hx hb dX8_setBearing_18 rfl (lv_at hl 2 rfl) ?_
    refine r_iconst (n := 1) hx hb dX8_setBearing_19 ?_
    refine lv_ldcw (v := iI 99999) hx hb hown kc_281 dX8_setBearing_20 ?_
    refine r_xcallv (vx_runV (As := [.int (iI a1), .int (iI 1), .int (iI 99999)]) (rest := []) ⟨hx, hb, hml, hown, hts⟩ (m8_needRange l G hfl hv_this _ _ st2 a1 1 99999 h) (cwV 3 hts gX8_setBearing_X8_needRange rfl rfl rfl hd8_needRange ⟨Nat.le_of_ble_eq_true rfl, Nat.le_of_ble_eq_true rfl⟩) (pre_V hK hX hI hA hS hv_this rfl rfl [.int (iI a1), .int (iI 1), .int (iI 99999)]) rfl rfl hl.1 rfl (lv_room (Nat.le_of_ble_eq_true rfl)) dX8_setBearing_23 ⟨Nat.le_of_ble_eq_true rfl, Nat.le_of_ble_eq_true rfl⟩) hS hE hlocks hK (by decide) (by decide) (fun st6 h H locs hI hS => ?_)
    exact J26 st6  _ _ ls hI hS (lv_sub hl [0, 1, 2] rfl) h
theorem hd8_setMost : yX8_setMost.cls = RX8 ∧ yX8_setMost.cls ≠ "java/lang/invoke/MethodHandle" ∧ yX8_setMost.cls ≠ "java/lang/invoke/VarHandle" ∧ (parseMethodDescriptor yX8_setMost.desc).map (fun d => d.parameters.length) = some 1 := by decide +kernel
set_option maxHeartbeats 4000000 in
set_option maxRecDepth 100000 in
theorem m8_setMost (l : Launch) (G : WG) (hfl : l.stackTraces = false)  (hv_this : vC 8 0) (Q : Int → St → Prop) (X : String → St → Prop) (st : St) (a0 : Int) (h : f8_setMost Q X st a0) : vx_Met l yX8_setMost wsX8_setMost ({ frames := 7, cells := 1, slots := 6, locals := 112 }) (PcM vC G st [.ref (G.2.2.1 8 0), .int (iI a0)]) (QiM vC G Q) (XM vC G X) 1 6 G.2.2.2.1 := by
  refine vx_ofW (cc := cX8_setMost) (maxL := 3) (ret := (some .int)) (by decide) rfl ?_
  intro p e s m args below meth c s₁ B hml hE hvv
  obtain ⟨rfl, hA, hI, hK, hX⟩ := hvv
  have hx := B.exec
  have hb := B.bytes
  have hr := B.returns
  have hts := atoms_spec (ws := wsX8_setMost) B.pre
  have hown : s.vm.findClass RX8 = some m.cls := findClass_of_methodNamed B.named
  have hlocks := B.notSynchronized
  have hS : va_S G.2.2.2.1 s.heap s.heap [] := va_S.rf
  have in0 : ∀ w ∈ wsX00, w ∈ wsX8_setMost := by decide +kernel
  have in8 : ∀ w ∈ wsX80, w ∈ wsX8_setMost := by decide +kernel
  have lk_23 := hts (.fieldLink RX8 23 "BeamLines" "present" "LBeamLines$Beam;") (by decide +kernel)
  have lk_60 := hts (.fieldLink RX8 60 "BeamLines" "history" "LBeamLines$History;") (by decide +kernel)
  have lk_82 := hts (.fieldLink RX8 82 "BeamLines$Beam" "most" "I") (by decide +kernel)
  have kc_289 : (Jvm.Cond.constant RX8 289 (iI 999999)).before _ s = true := hts (.constant RX8 289 999999) (by decide +kernel)
  have hl := lv_entry ([.ref (G.2.2.1 8 0), .int (iI a0)]) (n := 3) (Nat.le_of_ble_eq_true rfl)
  rw [lg_entry_eq]
  generalize (lg_sl ([.ref (G.2.2.1 8 0), .int (iI a0)]) ++ List.replicate (3 - (lg_sl ([.ref (G.2.2.1 8 0), .int (iI a0)])).length) Slot.unset).toArray = ls at hl ⊢
  have hl : lv_has ls 3 [(0, .ref (G.2.2.1 8 0)), (1, .int (iI a0))] := hl
  unfold f8_setMost at h
  refine lv_aload_n hx hb dX8_setMost_0 rfl (lv_at hl 0 rfl) ?_
  refine lv_iload_n hx hb dX8_setMost_1 rfl (lv_at hl 1 rfl) ?_
  refine r_iconst (n := 1) hx hb dX8_setMost_2 ?_
  refine lv_ldcw (v := iI 999999) hx hb hown kc_289 dX8_setMost_3 ?_
  refine r_xcallv (vx_runV (As := [.int (iI a0), .int (iI 1), .int (iI 999999)]) (rest := []) ⟨hx, hb, hml, hown, hts⟩ (m8_needRange l G hfl hv_this _ _ st a0 1 999999 h) (cwV 3 hts gX8_setMost_X8_needRange rfl rfl rfl hd8_needRange ⟨Nat.le_of_ble_eq_true rfl, Nat.le_of_ble_eq_true rfl⟩) (pre_V hK hX hI hA hS hv_this rfl rfl [.int (iI a0), .int (iI 1), .int (iI 999999)]) rfl rfl hl.1 rfl (lv_room (Nat.le_of_ble_eq_true rfl)) dX8_setMost_6 ⟨Nat.le_of_ble_eq_true rfl, Nat.le_of_ble_eq_true rfl⟩) hS hE hlocks hK (by decide) (by decide) (fun st2 h H locs hI hS => ?_)
  refine lv_aload_n hx hb dX8_setMost_9 rfl (lv_at hl 0 rfl) ?_
  refine gg_8_9 hx hb hts in8 hown hK hI hv_this lk_60 dX8_setMost_10 ?_
  refine lv_aload_n hx hb dX8_setMost_13 rfl (lv_at hl 0 rfl) ?_
  refine gg_8_2 hx hb hts in8 hown hK hI hv_this lk_23 dX8_setMost_14 ?_
  refine r_callv (va_runV (As := [.ref (G.2.2.1 0 0)]) (rest := []) ⟨hx, hb, hml, hown, hts⟩ (m2_remember l G 0 (vrC_8_9 hv_this) (vrC_8_2 hv_this) _ st2 h) (cwV 1 hts gX8_setMost_X2_remember rfl rfl rfl hd2_remember ⟨Nat.le_of_ble_eq_true rfl, Nat.le_of_ble_eq_true rfl⟩) (pre_V hK hX hI hA hS (vrC_8_9 hv_this) rfl rfl [.ref (G.2.2.1 0 0)]) rfl rfl hl.1 rfl (lv_room (Nat.le_of_ble_eq_true rfl)) dX8_setMost_17 ⟨Nat.le_of_ble_eq_true rfl, Nat.le_of_ble_eq_true rfl⟩) hS (fun st4 h H locs hI hS => ?_)
  refine lv_aload_n hx hb dX8_setMost_20 rfl (lv_at hl 0 rfl) ?_
  refine gg_8_2 hx hb hts in8 hown hK hI hv_this lk_23 dX8_setMost_21 ?_
  refine gg_0_1 hx hb hts in0 hown hK hI (vrC_8_2 hv_this) lk_82 dX8_setMost_24 ?_
  refine r_topi (fun x5 hx5 => ?_)
  replace h := h x5 hx5
  refine lv_istore_n (lv' := [(2, .int (iI x5)), (0, .ref (G.2.2.1 8 0)), (1, .int (iI a0))]) hx hb dX8_setMost_27 rfl hl (by decide) rfl (fun ls hl => ?_)
  refine lv_aload_n hx hb dX8_setMost_28 rfl (lv_at hl 1 rfl) ?_
  refine gg_8_2 hx hb hts in8 hown hK hI hv_this lk_23 dX8_setMost_29 ?_
  refine lv_iload_n hx hb dX8_setMost_32 rfl (lv_at hl 2 rfl) ?_
  refine pp_0_1 hx hb hts in0 hown hK hI hS (vrC_8_2 hv_this) lk_82 dX8_setMost_33 (fun st6 hst6 H locs hI hS => ?_)
  replace h := h st6 hst6
  refine lv_iload_n hx hb dX8_setMost_36 rfl (lv_at hl 0 rfl) ?_
  refine W.widen (k := 1) (n := 6) (by decide) (by decide) ?_
  exact vx_ret (r_iret hx hb hr hlocks hK hI hS (Qp := Q) h dX8_setMost_37)
theorem hd8_undo : yX8_undo.cls = RX8 ∧ yX8_undo.cls ≠ "java/lang/invoke/MethodHandle" ∧ yX8_undo.cls ≠ "java/lang/invoke/VarHandle" ∧ (parseMethodDescriptor yX8_undo.desc).map (fun d => d.parameters.length) = some 0 := by decide +kernel
set_option maxHeartbeats 4000000 in
set_option maxRecDepth 100000 in
theorem m8_undo (l : Launch) (G : WG) (hfl : l.stackTraces = false)  (hv_this : vC 8 0) (Q : Int → St → Prop) (X : String → St → Prop) (st : St)  (h : f8_undo Q X st) : vx_Met l yX8_undo wsX8_undo ({ frames := 6, cells := 1, slots := 6, locals := 113 }) (PcM vC G st [.ref (G.2.2.1 8 0)]) (QiM vC G Q) (XM vC G X) 1 6 G.2.2.2.1 := by
  refine vx_ofW (cc := cX8_undo) (maxL := 1) (ret := (some .int)) (by decide) rfl ?_
  intro p e s m args below meth c s₁ B hml hE hvv
  obtain ⟨rfl, hA, hI, hK, hX⟩ := hvv
  have hx := B.exec
  have hb := B.bytes
  have hr := B.returns
  have hts := atoms_spec (ws := wsX8_undo) B.pre
  have hown : s.vm.findClass RX8 = some m.cls := findClass_of_methodNamed B.named
  have hlocks := B.notSynchronized
  have hS : va_S G.2.2.2.1 s.heap s.heap [] := va_S.rf
  have in2 : ∀ w ∈ wsX20, w ∈ wsX8_undo := by decide +kernel
  have in8 : ∀ w ∈ wsX80, w ∈ wsX8_undo := by decide +kernel
  have lk_23 := hts (.fieldLink RX8 23 "BeamLines" "present" "LBeamLines$Beam;") (by decide +kernel)
  have lk_30 := hts (.fieldLink RX8 30 "BeamLines" "lines" "LBeamLines$Lines;") (by decide +kernel)
  have lk_60 := hts (.fieldLink RX8 60 "BeamLines" "history" "LBeamLines$History;") (by decide +kernel)
  have lk_293 := hts (.fieldLink RX8 293 "BeamLines$History" "size" "I") (by decide +kernel)
  have hl := lv_entry ([.ref (G.2.2.1 8 0)]) (n := 1) (Nat.le_of_ble_eq_true rfl)
  rw [lg_entry_eq]
  generalize (lg_sl ([.ref (G.2.2.1 8 0)]) ++ List.replicate (1 - (lg_sl ([.ref (G.2.2.1 8 0)])).length) Slot.unset).toArray = ls at hl ⊢
  have hl : lv_has ls 1 [(0, .ref (G.2.2.1 8 0))] := hl
  unfold f8_undo at h
  refine lv_aload_n hx hb dX8_undo_0 rfl (lv_at hl 0 rfl) ?_
  refine gg_8_9 hx hb hts in8 hown hK hI hv_this lk_60 dX8_undo_1 ?_
  refine lv_aload_n hx hb dX8_undo_4 rfl (lv_at hl 0 rfl) ?_
  refine gg_8_2 hx hb hts in8 hown hK hI hv_this lk_23 dX8_undo_5 ?_
  refine r_calli (va_runV (As := [.ref (G.2.2.1 0 0)]) (rest := []) ⟨hx, hb, hml, hown, hts⟩ (m2_takeBack l G 0 (vrC_8_9 hv_this) (vrC_8_2 hv_this) _ st h) (cwV 1 hts gX8_undo_X2_takeBack rfl rfl rfl hd2_takeBack ⟨Nat.le_of_ble_eq_true rfl, Nat.le_of_ble_eq_true rfl⟩) (pre_V hK hX hI hA hS (vrC_8_9 hv_this) rfl rfl [.ref (G.2.2.1 0 0)]) rfl rfl hl.1 rfl (lv_room (Nat.le_of_ble_eq_true rfl)) dX8_undo_8 ⟨Nat.le_of_ble_eq_true rfl, Nat.le_of_ble_eq_true rfl⟩) hS (fun z1 st2 h H locs hI hS => ?_)
  obtain ⟨g3, h⟩ := h
  refine r_if_ne (tgt := 22) hx hb dX8_undo_11 (by decide) g3 (fun c4 => ?_) (fun c4 => ?_)
  · replace h := h.2 c4
    refine lv_aload_n hx hb dX8_undo_22 rfl (lv_at hl 0 rfl) ?_
    refine gg_8_3 hx hb hts in8 hown hK hI hv_this lk_30 dX8_undo_23 ?_
    refine lv_aload_n hx hb dX8_undo_26 rfl (lv_at hl 0 rfl) ?_
    refine gg_8_2 hx hb hts in8 hown hK hI hv_this lk_23 dX8_undo_27 ?_
    refine r_calli (va_runV (As := [.ref (G.2.2.1 0 0)]) (rest := []) ⟨hx, hb, hml, hown, hts⟩ (m3_reckon l G 0 0 (vrC_8_3 hv_this) (vrC_8_2 hv_this) _ st2 h) (cwV 1 hts gX8_undo_X3_reckon rfl rfl rfl hd3_reckon ⟨Nat.le_of_ble_eq_true rfl, Nat.le_of_ble_eq_true rfl⟩) (pre_V hK hX hI hA hS (vrC_8_3 hv_this) rfl rfl [.ref (G.2.2.1 0 0)]) rfl rfl hl.1 rfl (lv_room (Nat.le_of_ble_eq_true rfl)) dX8_undo_30 ⟨Nat.le_of_ble_eq_true rfl, Nat.le_of_ble_eq_true rfl⟩) hS (fun z5 st6 h H locs hI hS => ?_)
    refine lv_pop hx hb dX8_undo_33 rfl ?_
    refine lv_aload_n hx hb dX8_undo_34 rfl (lv_at hl 0 rfl) ?_
    refine gg_8_9 hx hb hts in8 hown hK hI hv_this lk_60 dX8_undo_35 ?_
    refine gg_2_1 hx hb hts in2 hown hK hI (vrC_8_9 hv_this) lk_293 dX8_undo_38 ?_
    refine W.widen (k := 1) (n := 6) (by decide) (by decide) ?_
    exact vx_ret (r_iret hx hb hr hlocks hK hI hS (Qp := Q) h dX8_undo_41)
  · replace h := h.1 c4
    exact r_throw hx hb hfl hts hown (cls := "java/lang/IllegalStateException") (by decide) (by decide +kernel) (by decide +kernel) (by decide +kernel) (fun w h9 => by first | exact List.mem_cons_of_mem _ (List.mem_append_right _ h9) | exact List.mem_cons_of_mem _ (List.mem_append_left _ (List.mem_append_right _ h9)) | exact List.mem_cons_of_mem _ (List.mem_append_left _ (List.mem_append_left _ (List.mem_append_right _ h9)))) (by decide +kernel) (by decide +kernel) hX hS hl.1 hml dX8_undo_14 dX8_undo_17 dX8_undo_18 dX8_undo_21 hE ⟨Nat.le_of_ble_eq_true rfl, Nat.le_of_ble_eq_true rfl, Nat.le_of_ble_eq_true rfl, Nat.le_of_ble_eq_true rfl⟩ (Nat.le_of_ble_eq_true rfl) hlocks hK hI h (by decide) (by decide)
theorem hd8_needSlot : yX8_needSlot.cls = RX8 ∧ yX8_needSlot.cls ≠ "java/lang/invoke/MethodHandle" ∧ yX8_needSlot.cls ≠ "java/lang/invoke/VarHandle" ∧ (parseMethodDescriptor yX8_needSlot.desc).map (fun d => d.parameters.length) = some 1 := by decide +kernel
set_option maxHeartbeats 4000000 in
set_option maxRecDepth 100000 in
theorem m8_needSlot (l : Launch) (G : WG) (hfl : l.stackTraces = false)  (hv_this : vC 8 0) (Q : St → Prop) (X : String → St → Prop) (st : St) (a0 : Int) (h : f8_needSlot Q X st a0) : vx_Met l yX8_needSlot wsX8_needSlot ({ frames := 6, cells := 1, slots := 6, locals := 89 }) (PcM vC G st [.ref (G.2.2.1 8 0), .int (iI a0)]) (QvM vC G Q) (XM vC G X) 1 6 G.2.2.2.1 := by
  refine vx_ofW (cc := cX8_needSlot) (maxL := 2) (ret := none) (by decide) rfl ?_
  intro p e s m args below meth c s₁ B hml hE hvv
  obtain ⟨rfl, hA, hI, hK, hX⟩ := hvv
  have hx := B.exec
  have hb := B.bytes
  have hr := B.returns
  have hts := atoms_spec (ws := wsX8_needSlot) B.pre
  have hown : s.vm.findClass RX8 = some m.cls := findClass_of_methodNamed B.named
  have hlocks := B.notSynchronized
  have hS : va_S G.2.2.2.1 s.heap s.heap [] := va_S.rf
  have hl := lv_entry ([.ref (G.2.2.1 8 0), .int (iI a0)]) (n := 2) (Nat.le_of_ble_eq_true rfl)
  rw [lg_entry_eq]
  generalize (lg_sl ([.ref (G.2.2.1 8 0), .int (iI a0)]) ++ List.replicate (2 - (lg_sl ([.ref (G.2.2.1 8 0), .int (iI a0)])).length) Slot.unset).toArray = ls at hl ⊢
  have hl : lv_has ls 2 [(0, .ref (G.2.2.1 8 0)), (1, .int (iI a0))] := hl
  have J9 : ∀ (st : St) (H : Heap) (locs : List Loc) (ls : Array Slot), Iv vC G st H → va_S G.2.2.2.1 s.heap H locs → lv_has ls 2 [] → f8_needSlot_j9 Q X st → W p l e (headSpec wsX8_needSlot ({ frames := 6, cells := 1, slots := 6, locals := 89 })).room s m ([.ref (G.2.2.1 8 0), .int (iI a0)] : List Value).toArray below meth c H locs 0 0 (vx_MQ below (QvM vC G Q) (XM vC G X) ([.ref (G.2.2.1 8 0), .int (iI a0)] : List Value).toArray s 1 6 G.2.2.2.1) (F0 m 9 ls []) := by
    intro st H locs ls hI hS hl h
    unfold f8_needSlot_j9 at h
    exact r_throw hx hb hfl hts hown (cls := "java/lang/IndexOutOfBoundsException") (by decide) (by decide +kernel) (by decide +kernel) (by decide +kernel) (fun w h9 => by first | exact List.mem_cons_of_mem _ (List.mem_append_right _ h9) | exact List.mem_cons_of_mem _ (List.mem_append_left _ (List.mem_append_right _ h9)) | exact List.mem_cons_of_mem _ (List.mem_append_left _ (List.mem_append_left _ (List.mem_append_right _ h9)))) (by decide +kernel) (by decide +kernel) hX hS hl.1 hml dX8_needSlot_9 dX8_needSlot_12 dX8_needSlot_13 dX8_needSlot_16 hE ⟨Nat.le_of_ble_eq_true rfl, Nat.le_of_ble_eq_true rfl, Nat.le_of_ble_eq_true rfl, Nat.le_of_ble_eq_true rfl⟩ (Nat.le_of_ble_eq_true rfl) hlocks hK hI h (by decide) (by decide)
  unfold f8_needSlot at h
  refine lv_iload_n hx hb dX8_needSlot_0 rfl (lv_at hl 1 rfl) ?_
  obtain ⟨g1, h⟩ := h
  refine r_if_lt (tgt := 9) hx hb dX8_needSlot_1 (by decide) g1 (fun c2 => ?_) (fun c2 => ?_)
  · replace h := h.1 c2
    exact J9 st  _ _ ls hI hS (lv_sub hl [] rfl) h
  · replace h := h.2 c2
    refine lv_iload_n hx hb dX8_needSlot_4 rfl (lv_at hl 1 rfl) ?_
    refine r_iconst (n := 2) hx hb dX8_needSlot_5 ?_
    obtain ⟨g3, h⟩ := h
    refine r_icmp_lt (tgt := 17) hx hb dX8_needSlot_6 (by decide) g3 (inI_mk rfl) (fun c4 => ?_) (fun c4 => ?_)
    · replace h := h.1 c4
      refine W.widen (k := 1) (n := 6) (by decide) (by decide) ?_
      exact vx_ret (r_vret hx hb hr hlocks hK hI hS (Qp := Q) h dX8_needSlot_17)
    · replace h := h.2 c4
      exact J9 st  _ _ ls hI hS (lv_sub hl [] rfl) h
theorem hd8_save : yX8_save.cls = RX8 ∧ yX8_save.cls ≠ "java/lang/invoke/MethodHandle" ∧ yX8_save.cls ≠ "java/lang/invoke/VarHandle" ∧ (parseMethodDescriptor yX8_save.desc).map (fun d => d.parameters.length) = some 1 := by decide +kernel
set_option maxHeartbeats 4000000 in
set_option maxRecDepth 100000 in
theorem m8_save (l : Launch) (G : WG) (hfl : l.stackTraces = false)  (hv_this : vC 8 0) (Q : St → Prop) (X : String → St → Prop) (st : St) (a0 : Int) (h : f8_save Q X st a0) : vx_Met l yX8_save wsX8_save ({ frames := 7, cells := 1, slots := 6, locals := 110 }) (PcM vC G st [.ref (G.2.2.1 8 0), .int (iI a0)]) (QvM vC G Q) (XM vC G X) 1 6 G.2.2.2.1 := by
  refine vx_ofW (cc := cX8_save) (maxL := 2) (ret := none) (by decide) rfl ?_
  intro p e s m args below meth c s₁ B hml hE hvv
  obtain ⟨rfl, hA, hI, hK, hX⟩ := hvv
  have hx := B.exec
  have hb := B.bytes
  have hr := B.returns
  have hts := atoms_spec (ws := wsX8_save) B.pre
  have hown : s.vm.findClass RX8 = some m.cls := findClass_of_methodNamed B.named
  have hlocks := B.notSynchronized
  have hS : va_S G.2.2.2.1 s.heap s.heap [] := va_S.rf
  have in8 : ∀ w ∈ wsX80, w ∈ wsX8_save := by decide +kernel
  have lk_23 := hts (.fieldLink RX8 23 "BeamLines" "present" "LBeamLines$Beam;") (by decide +kernel)
  have lk_64 := hts (.fieldLink RX8 64 "BeamLines" "saved" "[LBeamLines$Beam;") (by decide +kernel)
  have lk_68 := hts (.fieldLink RX8 68 "BeamLines" "isSaved" "[Z") (by decide +kernel)
  have hl := lv_entry ([.ref (G.2.2.1 8 0), .int (iI a0)]) (n := 2) (Nat.le_of_ble_eq_true rfl)
  rw [lg_entry_eq]
  generalize (lg_sl ([.ref (G.2.2.1 8 0), .int (iI a0)]) ++ List.replicate (2 - (lg_sl ([.ref (G.2.2.1 8 0), .int (iI a0)])).length) Slot.unset).toArray = ls at hl ⊢
  have hl : lv_has ls 2 [(0, .ref (G.2.2.1 8 0)), (1, .int (iI a0))] := hl
  unfold f8_save at h
  refine lv_aload_n hx hb dX8_save_0 rfl (lv_at hl 0 rfl) ?_
  refine lv_iload_n hx hb dX8_save_1 rfl (lv_at hl 1 rfl) ?_
  refine r_xcallv (vx_runV (As := [.int (iI a0)]) (rest := []) ⟨hx, hb, hml, hown, hts⟩ (m8_needSlot l G hfl hv_this _ _ st a0 h) (cwV 1 hts gX8_save_X8_needSlot rfl rfl rfl hd8_needSlot ⟨Nat.le_of_ble_eq_true rfl, Nat.le_of_ble_eq_true rfl⟩) (pre_V hK hX hI hA hS hv_this rfl rfl [.int (iI a0)]) rfl rfl hl.1 rfl (lv_room (Nat.le_of_ble_eq_true rfl)) dX8_save_2 ⟨Nat.le_of_ble_eq_true rfl, Nat.le_of_ble_eq_true rfl⟩) hS hE hlocks hK (by decide) (by decide) (fun st2 h H locs hI hS => ?_)
  refine lv_aload_n hx hb dX8_save_5 rfl (lv_at hl 0 rfl) ?_
  refine gg_8_10 hx hb hts in8 hown hK hI hv_this lk_64 dX8_save_6 ?_
  refine lv_iload_n hx hb dX8_save_9 rfl (lv_at hl 1 rfl) ?_
  obtain ⟨g3, g4, h⟩ := h
  refine r_aaldB hx hb hK hI (K := 26) (vrC_8_10 hv_this) rfl (lts_mk rfl) dX8_save_10 g3 g4 (a := G.2.2.1 0 (3 + a0)) (by rw [Int.toNat_of_nonneg g3]) ?_
  refine lv_aload_n hx hb dX8_save_11 rfl (lv_at hl 0 rfl) ?_
  refine gg_8_2 hx hb hts in8 hown hK hI hv_this lk_23 dX8_save_12 ?_
  refine r_callv (va_runV (As := [.ref (G.2.2.1 0 0)]) (rest := []) ⟨hx, hb, hml, hown, hts⟩ (m0_copyFrom l G (3 + a0) 0 (va_26 (vrC_8_10 hv_this) g3 g4) (vrC_8_2 hv_this) _ st2 h) (cwV 1 hts gX8_save_X0_copyFrom rfl rfl rfl hd0_copyFrom ⟨Nat.le_of_ble_eq_true rfl, Nat.le_of_ble_eq_true rfl⟩) (pre_V hK hX hI hA hS (va_26 (vrC_8_10 hv_this) g3 g4) rfl rfl [.ref (G.2.2.1 0 0)]) rfl rfl hl.1 rfl (lv_room (Nat.le_of_ble_eq_true rfl)) dX8_save_15 ⟨Nat.le_of_ble_eq_true rfl, Nat.le_of_ble_eq_true rfl⟩) hS (fun st6 h H locs hI hS => ?_)
  refine lv_aload_n hx hb dX8_save_18 rfl (lv_at hl 0 rfl) ?_
  refine gg_8_11 hx hb hts in8 hown hK hI hv_this lk_68 dX8_save_19 ?_
  refine lv_iload_n hx hb dX8_save_22 rfl (lv_at hl 1 rfl) ?_
  refine r_iconst (n := 1) hx hb dX8_save_23 ?_
  obtain ⟨g7, g8, h⟩ := h
  refine r_zast hx hb hK hI hS (K := 27) (vrC_8_11 hv_this) (fun _ => rfl) (lts_mk rfl) dX8_save_24 g7 g8 (by decide) (fun st9 hst9 H locs hI hS => ?_)
  replace h := h st9 hst9
  refine W.widen (k := 1) (n := 6) (by decide) (by decide) ?_
  exact vx_ret (r_vret hx hb hr hlocks hK hI hS (Qp := Q) h dX8_save_25)
theorem hd8_restore : yX8_restore.cls = RX8 ∧ yX8_restore.cls ≠ "java/lang/invoke/MethodHandle" ∧ yX8_restore.cls ≠ "java/lang/invoke/VarHandle" ∧ (parseMethodDescriptor yX8_restore.desc).map (fun d => d.parameters.length) = some 1 := by decide +kernel
set_option maxHeartbeats 4000000 in
set_option maxRecDepth 100000 in
theorem m8_restore (l : Launch) (G : WG) (hfl : l.stackTraces = false)  (hv_this : vC 8 0) (Q : Int → St → Prop) (X : String → St → Prop) (st : St) (a0 : Int) (h : f8_restore Q X st a0) : vx_Met l yX8_restore wsX8_restore ({ frames := 7, cells := 2, slots := 12, locals := 113 }) (PcM vC G st [.ref (G.2.2.1 8 0), .int (iI a0)]) (QiM vC G Q) (XM vC G X) 2 12 G.2.2.2.1 := by
  refine vx_ofW (cc := cX8_restore) (maxL := 2) (ret := (some .int)) (by decide) rfl ?_
  intro p e s m args below meth c s₁ B hml hE hvv
  obtain ⟨rfl, hA, hI, hK, hX⟩ := hvv
  have hx := B.exec
  have hb := B.bytes
  have hr := B.returns
  have hts := atoms_spec (ws := wsX8_restore) B.pre
  have hown : s.vm.findClass RX8 = some m.cls := findClass_of_methodNamed B.named
  have hlocks := B.notSynchronized
  have hS : va_S G.2.2.2.1 s.heap s.heap [] := va_S.rf
  have in0 : ∀ w ∈ wsX00, w ∈ wsX8_restore := by decide +kernel
  have in6 : ∀ w ∈ wsX60, w ∈ wsX8_restore := by decide +kernel
  have in8 : ∀ w ∈ wsX80, w ∈ wsX8_restore := by decide +kernel
  have lk_23 := hts (.fieldLink RX8 23 "BeamLines" "present" "LBeamLines$Beam;") (by decide +kernel)
  have lk_30 := hts (.fieldLink RX8 30 "BeamLines" "lines" "LBeamLines$Lines;") (by decide +kernel)
  have lk_60 := hts (.fieldLink RX8 60 "BeamLines" "history" "LBeamLines$History;") (by decide +kernel)
  have lk_64 := hts (.fieldLink RX8 64 "BeamLines" "saved" "[LBeamLines$Beam;") (by decide +kernel)
  have lk_68 := hts (.fieldLink RX8 68 "BeamLines" "isSaved" "[Z") (by decide +kernel)
  have lk_85 := hts (.fieldLink RX8 85 "BeamLines$Beam" "supports" "LBeamLines$Row;") (by decide +kernel)
  have lk_135 := hts (.fieldLink RX8 135 "BeamLines$Row" "size" "I") (by decide +kernel)
  have hl := lv_entry ([.ref (G.2.2.1 8 0), .int (iI a0)]) (n := 2) (Nat.le_of_ble_eq_true rfl)
  rw [lg_entry_eq]
  generalize (lg_sl ([.ref (G.2.2.1 8 0), .int (iI a0)]) ++ List.replicate (2 - (lg_sl ([.ref (G.2.2.1 8 0), .int (iI a0)])).length) Slot.unset).toArray = ls at hl ⊢
  have hl : lv_has ls 2 [(0, .ref (G.2.2.1 8 0)), (1, .int (iI a0))] := hl
  unfold f8_restore at h
  refine lv_aload_n hx hb dX8_restore_0 rfl (lv_at hl 0 rfl) ?_
  refine lv_iload_n hx hb dX8_restore_1 rfl (lv_at hl 1 rfl) ?_
  refine r_xcallv (vx_runV (As := [.int (iI a0)]) (rest := []) ⟨hx, hb, hml, hown, hts⟩ (m8_needSlot l G hfl hv_this _ _ st a0 h) (cwV 1 hts gX8_restore_X8_needSlot rfl rfl rfl hd8_needSlot ⟨Nat.le_of_ble_eq_true rfl, Nat.le_of_ble_eq_true rfl⟩) (pre_V hK hX hI hA hS hv_this rfl rfl [.int (iI a0)]) rfl rfl hl.1 rfl (lv_room (Nat.le_of_ble_eq_true rfl)) dX8_restore_2 ⟨Nat.le_of_ble_eq_true rfl, Nat.le_of_ble_eq_true rfl⟩) hS hE hlocks hK (by decide) (by decide) (fun st2 h H locs hI hS => ?_)
  refine lv_aload_n hx hb dX8_restore_5 rfl (lv_at hl 0 rfl) ?_
  refine gg_8_11 hx hb hts in8 hown hK hI hv_this lk_68 dX8_restore_6 ?_
  refine lv_iload_n hx hb dX8_restore_9 rfl (lv_at hl 1 rfl) ?_
  obtain ⟨g3, g4, h⟩ := h
  refine r_zald hx hb hK hI (K := 27) (vrC_8_11 hv_this) rfl (lts_mk rfl) dX8_restore_10 g3 g4 ?_
  obtain ⟨g5, h⟩ := h
  refine r_if_ne (tgt := 22) hx hb dX8_restore_11 (by decide) g5 (fun c6 => ?_) (fun c6 => ?_)
  · replace h := h.2 c6
    refine lv_aload_n hx hb dX8_restore_22 rfl (lv_at hl 0 rfl) ?_
    refine gg_8_9 hx hb hts in8 hown hK hI hv_this lk_60 dX8_restore_23 ?_
    refine lv_aload_n hx hb dX8_restore_26 rfl (lv_at hl 0 rfl) ?_
    refine gg_8_2 hx hb hts in8 hown hK hI hv_this lk_23 dX8_restore_27 ?_
    refine r_callv (va_runV (As := [.ref (G.2.2.1 0 0)]) (rest := []) ⟨hx, hb, hml, hown, hts⟩ (m2_remember l G 0 (vrC_8_9 hv_this) (vrC_8_2 hv_this) _ st2 h) (cwV 1 hts gX8_restore_X2_remember rfl rfl rfl hd2_remember ⟨Nat.le_of_ble_eq_true rfl, Nat.le_of_ble_eq_true rfl⟩) (pre_V hK hX hI hA hS (vrC_8_9 hv_this) rfl rfl [.ref (G.2.2.1 0 0)]) rfl rfl hl.1 rfl (lv_room (Nat.le_of_ble_eq_true rfl)) dX8_restore_30 ⟨Nat.le_of_ble_eq_true rfl, Nat.le_of_ble_eq_true rfl⟩) hS (fun st8 h H locs hI hS => ?_)
    refine lv_aload_n hx hb dX8_restore_33 rfl (lv_at hl 0 rfl) ?_
    refine gg_8_2 hx hb hts in8 hown hK hI hv_this lk_23 dX8_restore_34 ?_
    refine lv_aload_n hx hb dX8_restore_37 rfl (lv_at hl 0 rfl) ?_
    refine gg_8_10 hx hb hts in8 hown hK hI hv_this lk_64 dX8_restore_38 ?_
    refine lv_iload_n hx hb dX8_restore_41 rfl (lv_at hl 1 rfl) ?_
    obtain ⟨g9, g10, h⟩ := h
    refine r_aaldB hx hb hK hI (K := 26) (vrC_8_10 hv_this) rfl (lts_mk rfl) dX8_restore_42 g9 g10 (a := G.2.2.1 0 (3 + a0)) (by rw [Int.toNat_of_nonneg g9]) ?_
    refine r_callv (va_runV (As := [.ref (G.2.2.1 0 (3 + a0))]) (rest := []) ⟨hx, hb, hml, hown, hts⟩ (m0_copyFrom l G 0 (3 + a0) (vrC_8_2 hv_this) (va_26 (vrC_8_10 hv_this) g9 g10) _ st8 h) (cwV 1 hts gX8_restore_X0_copyFrom rfl rfl rfl hd0_copyFrom ⟨Nat.le_of_ble_eq_true rfl, Nat.le_of_ble_eq_true rfl⟩) (pre_V hK hX hI hA hS (vrC_8_2 hv_this) rfl rfl [.ref (G.2.2.1 0 (3 + a0))]) rfl rfl hl.1 rfl (lv_room (Nat.le_of_ble_eq_true rfl)) dX8_restore_43 ⟨Nat.le_of_ble_eq_true rfl, Nat.le_of_ble_eq_true rfl⟩) hS (fun st12 h H locs hI hS => ?_)
    refine lv_aload_n hx hb dX8_restore_46 rfl (lv_at hl 0 rfl) ?_
    refine gg_8_3 hx hb hts in8 hown hK hI hv_this lk_30 dX8_restore_47 ?_
    refine lv_aload_n hx hb dX8_restore_50 rfl (lv_at hl 0 rfl) ?_
    refine gg_8_2 hx hb hts in8 hown hK hI hv_this lk_23 dX8_restore_51 ?_
    refine r_calli (va_runV (As := [.ref (G.2.2.1 0 0)]) (rest := []) ⟨hx, hb, hml, hown, hts⟩ (m3_reckon l G 0 0 (vrC_8_3 hv_this) (vrC_8_2 hv_this) _ st12 h) (cwV 1 hts gX8_restore_X3_reckon rfl rfl rfl hd3_reckon ⟨Nat.le_of_ble_eq_true rfl, Nat.le_of_ble_eq_true rfl⟩) (pre_V hK hX hI hA hS (vrC_8_3 hv_this) rfl rfl [.ref (G.2.2.1 0 0)]) rfl rfl hl.1 rfl (lv_room (Nat.le_of_ble_eq_true rfl)) dX8_restore_54 ⟨Nat.le_of_ble_eq_true rfl, Nat.le_of_ble_eq_true rfl⟩) hS (fun z13 st14 h H locs hI hS => ?_)
    refine lv_pop hx hb dX8_restore_57 rfl ?_
    refine lv_aload_n hx hb dX8_restore_58 rfl (lv_at hl 0 rfl) ?_
    refine gg_8_2 hx hb hts in8 hown hK hI hv_this lk_23 dX8_restore_59 ?_
    refine gg_0_2 hx hb hts in0 hown hK hI (vrC_8_2 hv_this) lk_85 dX8_restore_62 ?_
    refine gg_6_2 hx hb hts in6 hown hK hI (vrC_0_2 (vrC_8_2 hv_this)) lk_135 dX8_restore_65 ?_
    refine W.widen (k := 2) (n := 12) (by decide) (by decide) ?_
    exact vx_ret (r_iret hx hb hr hlocks hK hI hS (Qp := Q) h dX8_restore_68)
  · replace h := h.1 c6
    exact r_throw hx hb hfl hts hown (cls := "java/lang/IllegalStateException") (by decide) (by decide +kernel) (by decide +kernel) (by decide +kernel) (fun w h9 => by first | exact List.mem_cons_of_mem _ (List.mem_append_right _ h9) | exact List.mem_cons_of_mem _ (List.mem_append_left _ (List.mem_append_right _ h9)) | exact List.mem_cons_of_mem _ (List.mem_append_left _ (List.mem_append_left _ (List.mem_append_right _ h9)))) (by decide +kernel) (by decide +kernel) hX hS hl.1 hml dX8_restore_14 dX8_restore_17 dX8_restore_18 dX8_restore_21 hE ⟨Nat.le_of_ble_eq_true rfl, Nat.le_of_ble_eq_true rfl, Nat.le_of_ble_eq_true rfl, Nat.le_of_ble_eq_true rfl⟩ (Nat.le_of_ble_eq_true rfl) hlocks hK hI h (by decide) (by decide)
theorem hd8_writeBeam : yX8_writeBeam.cls = RX8 ∧ yX8_writeBeam.cls ≠ "java/lang/invoke/MethodHandle" ∧ yX8_writeBeam.cls ≠ "java/lang/invoke/VarHandle" ∧ (parseMethodDescriptor yX8_writeBeam.desc).map (fun d => d.parameters.length) = some 0 := by decide +kernel
set_option maxHeartbeats 4000000 in
set_option maxRecDepth 100000 in
theorem m8_writeBeam (l : Launch) (G : WG)   (hv_this : vC 8 0) (Q : Int → St → Prop) (st : St)  (h : f8_writeBeam Q st) : Met l yX8_writeBeam wsX8_writeBeam ({ frames := 2, cells := 0, slots := 0, locals := 43 }) (PcM vC G st [.ref (G.2.2.1 8 0)]) (QiM vC G Q) 0 0 G.2.2.2.1 := by
  refine Met.ofW (cc := cX8_writeBeam) (maxL := 2) (ret := (some .int)) (by decide) rfl ?_
  intro p e s m args below meth c s₁ B hml hvv
  obtain ⟨rfl, hA, hI, hK, hX⟩ := hvv
  have hx := B.exec
  have hb := B.bytes
  have hr := B.returns
  have hts := atoms_spec (ws := wsX8_writeBeam) B.pre
  have hown : s.vm.findClass RX8 = some m.cls := findClass_of_methodNamed B.named
  have hlocks := B.notSynchronized
  have hS : va_S G.2.2.2.1 s.heap s.heap [] := va_S.rf
  have in0 : ∀ w ∈ wsX00, w ∈ wsX8_writeBeam := by decide +kernel
  have in8 : ∀ w ∈ wsX80, w ∈ wsX8_writeBeam := by decide +kernel
  have lk_23 := hts (.fieldLink RX8 23 "BeamLines" "present" "LBeamLines$Beam;") (by decide +kernel)
  have lk_72 := hts (.fieldLink RX8 72 "BeamLines" "written" "[C") (by decide +kernel)
  have lk_76 := hts (.fieldLink RX8 76 "BeamLines" "writtenLength" "I") (by decide +kernel)
  have lk_79 := hts (.fieldLink RX8 79 "BeamLines$Beam" "length" "I") (by decide +kernel)
  have hl := lv_entry ([.ref (G.2.2.1 8 0)]) (n := 2) (Nat.le_of_ble_eq_true rfl)
  rw [lg_entry_eq]
  generalize (lg_sl ([.ref (G.2.2.1 8 0)]) ++ List.replicate (2 - (lg_sl ([.ref (G.2.2.1 8 0)])).length) Slot.unset).toArray = ls at hl ⊢
  have hl : lv_has ls 2 [(0, .ref (G.2.2.1 8 0))] := hl
  have L15 : ∀ (n15 : Nat), ∀ (st : St) (v1x15 : Int) (H : Heap) (locs : List Loc) (ls : Array Slot), Iv vC G st H → va_S G.2.2.2.1 s.heap H locs → lv_has ls 2 [(0, .ref (G.2.2.1 8 0)), (1, .int (iI v1x15))] → f8_writeBeam_l15 Q n15 st v1x15 → W p l e (headSpec wsX8_writeBeam ({ frames := 2, cells := 0, slots := 0, locals := 43 })).room s m ([.ref (G.2.2.1 8 0)] : List Value).toArray below meth c H locs 0 0 (MQ below (QiM vC G Q) ([.ref (G.2.2.1 8 0)] : List Value).toArray s 0 0 G.2.2.2.1) (F0 m 15 ls []) := by
    intro n15
    induction n15 with
    | zero =>
      intro st v1x15 H locs ls hI hS hl h
      exact h.elim
    | succ n15 ih15 =>
      intro st v1x15 H locs ls hI hS hl h
      unfold f8_writeBeam_l15 at h
      refine lv_iload_n hx hb dX8_writeBeam_15 rfl (lv_at hl 1 rfl) ?_
      refine lv_aload_n hx hb dX8_writeBeam_16 rfl (lv_at hl 0 rfl) ?_
      refine gg_8_13 hx hb hts in8 hown hK hI hv_this lk_76 dX8_writeBeam_17 ?_
      obtain ⟨g2, h⟩ := h
      obtain ⟨g3, h⟩ := h
      refine r_icmp_ge (tgt := 49) hx hb dX8_writeBeam_20 (by decide) g2 g3 (fun c4 => ?_) (fun c4 => ?_)
      · replace h := h.1 c4
        refine lv_aload_n hx hb dX8_writeBeam_49 rfl (lv_at hl 0 rfl) ?_
        refine gg_8_13 hx hb hts in8 hown hK hI hv_this lk_76 dX8_writeBeam_50 ?_
        exact r_iret hx hb hr hlocks hK hI hS (Qp := Q) h dX8_writeBeam_53
      · replace h := h.2 c4
        refine lv_iload_n hx hb dX8_writeBeam_23 rfl (lv_at hl 1 rfl) ?_
        refine r_bipush (n := 31) hx hb dX8_writeBeam_24 rfl ?_
        obtain ⟨g5, h⟩ := h
        refine r_icmp_ge (tgt := 49) hx hb dX8_writeBeam_26 (by decide) g5 (inI_mk rfl) (fun c6 => ?_) (fun c6 => ?_)
        · replace h := h.1 c6
          refine lv_aload_n hx hb dX8_writeBeam_49 rfl (lv_at hl 0 rfl) ?_
          refine gg_8_13 hx hb hts in8 hown hK hI hv_this lk_76 dX8_writeBeam_50 ?_
          exact r_iret hx hb hr hlocks hK hI hS (Qp := Q) h dX8_writeBeam_53
        · replace h := h.2 c6
          refine lv_aload_n hx hb dX8_writeBeam_29 rfl (lv_at hl 0 rfl) ?_
          refine gg_8_12 hx hb hts in8 hown hK hI hv_this lk_72 dX8_writeBeam_30 ?_
          refine lv_iload_n hx hb dX8_writeBeam_33 rfl (lv_at hl 1 rfl) ?_
          refine lv_aload_n hx hb dX8_writeBeam_34 rfl (lv_at hl 0 rfl) ?_
          refine gg_8_2 hx hb hts in8 hown hK hI hv_this lk_23 dX8_writeBeam_35 ?_
          refine lv_iload_n hx hb dX8_writeBeam_38 rfl (lv_at hl 1 rfl) ?_
          refine r_calli (va_runV (As := [.int (iI v1x15)]) (rest := [.int (iI v1x15), .ref (G.2.2.1 28 0)]) ⟨hx, hb, hml, hown, hts⟩ (m0_signAt l G 0 (vrC_8_2 hv_this) _ st v1x15 h) (cwV 1 hts gX8_writeBeam_X0_signAt rfl rfl rfl hd0_signAt ⟨Nat.le_of_ble_eq_true rfl, Nat.le_of_ble_eq_true rfl⟩) (pre_V hK hX hI hA hS (vrC_8_2 hv_this) rfl rfl [.int (iI v1x15)]) rfl rfl hl.1 rfl (lv_room (Nat.le_of_ble_eq_true rfl)) dX8_writeBeam_39 ⟨Nat.le_of_ble_eq_true rfl, Nat.le_of_ble_eq_true rfl⟩) hS (fun z7 st8 h H locs hI hS => ?_)
          obtain ⟨g9, g10, h⟩ := h
          obtain ⟨g11, h⟩ := h
          refine r_cast hx hb hK hI hS (K := 28) (vrC_8_12 hv_this) (fun _ => rfl) (lts_mk rfl) dX8_writeBeam_42 g9 g10 (char_fit g11.1 g11.2) (fun st12 hst12 H locs hI hS => ?_)
          replace h := h st12 hst12
          obtain ⟨x13, hx13⟩ : ∃ z : Int, z = v1x15 + 1 := ⟨_, rfl⟩
          replace h := h x13 hx13
          refine lv_iinc (v := iI x13) (lv' := [(1, .int (iI x13)), (0, .ref (G.2.2.1 8 0))]) hx hb dX8_writeBeam_43 hl (k := 1) rfl (by rw [hx13]; exact iI_add _ _) (by decide) rfl (fun ls hl => ?_)
          refine lv_goto (tgt := 15) hx hb dX8_writeBeam_46 (by decide) ?_
          exact ih15 st12 x13 _ _ ls hI hS (lv_sub hl [1, 0] rfl) h
  unfold f8_writeBeam at h
  refine lv_aload_n hx hb dX8_writeBeam_0 rfl (lv_at hl 0 rfl) ?_
  refine lv_aload_n hx hb dX8_writeBeam_1 rfl (lv_at hl 0 rfl) ?_
  refine gg_8_2 hx hb hts in8 hown hK hI hv_this lk_23 dX8_writeBeam_2 ?_
  refine gg_0_0 hx hb hts in0 hown hK hI (vrC_8_2 hv_this) lk_79 dX8_writeBeam_5 ?_
  refine r_iconst (n := 1) hx hb dX8_writeBeam_8 ?_
  refine r_iadd hx hb dX8_writeBeam_9 ?_
  refine pp_8_13 hx hb hts in8 hown hK hI hS hv_this lk_76 dX8_writeBeam_10 (fun st1 hst1 H locs hI hS => ?_)
  replace h := h st1 hst1
  refine r_iconst (n := 0) hx hb dX8_writeBeam_13 ?_
  refine lv_istore_n (lv' := [(1, .int (iI 0)), (0, .ref (G.2.2.1 8 0))]) hx hb dX8_writeBeam_14 rfl hl (by decide) rfl (fun ls hl => ?_)
  obtain ⟨kk, h⟩ := h
  exact L15 kk st1 0 _ _ ls hI hS (lv_sub hl [1, 0] rfl) h
theorem hd8_writtenByte : yX8_writtenByte.cls = RX8 ∧ yX8_writtenByte.cls ≠ "java/lang/invoke/MethodHandle" ∧ yX8_writtenByte.cls ≠ "java/lang/invoke/VarHandle" ∧ (parseMethodDescriptor yX8_writtenByte.desc).map (fun d => d.parameters.length) = some 1 := by decide +kernel
set_option maxHeartbeats 4000000 in
set_option maxRecDepth 100000 in
theorem m8_writtenByte (l : Launch) (G : WG) (hfl : l.stackTraces = false)  (hv_this : vC 8 0) (Q : Int → St → Prop) (X : String → St → Prop) (st : St) (a0 : Int) (h : f8_writtenByte Q X st a0) : vx_Met l yX8_writtenByte wsX8_writtenByte ({ frames := 6, cells := 1, slots := 6, locals := 89 }) (PcM vC G st [.ref (G.2.2.1 8 0), .int (iI a0)]) (QiM vC G Q) (XM vC G X) 1 6 G.2.2.2.1 := by
  refine vx_ofW (cc := cX8_writtenByte) (maxL := 2) (ret := (some .int)) (by decide) rfl ?_
  intro p e s m args below meth c s₁ B hml hE hvv
  obtain ⟨rfl, hA, hI, hK, hX⟩ := hvv
  have hx := B.exec
  have hb := B.bytes
  have hr := B.returns
  have hts := atoms_spec (ws := wsX8_writtenByte) B.pre
  have hown : s.vm.findClass RX8 = some m.cls := findClass_of_methodNamed B.named
  have hlocks := B.notSynchronized
  have hS : va_S G.2.2.2.1 s.heap s.heap [] := va_S.rf
  have in8 : ∀ w ∈ wsX80, w ∈ wsX8_writtenByte := by decide +kernel
  have lk_72 := hts (.fieldLink RX8 72 "BeamLines" "written" "[C") (by decide +kernel)
  have lk_76 := hts (.fieldLink RX8 76 "BeamLines" "writtenLength" "I") (by decide +kernel)
  have hl := lv_entry ([.ref (G.2.2.1 8 0), .int (iI a0)]) (n := 2) (Nat.le_of_ble_eq_true rfl)
  rw [lg_entry_eq]
  generalize (lg_sl ([.ref (G.2.2.1 8 0), .int (iI a0)]) ++ List.replicate (2 - (lg_sl ([.ref (G.2.2.1 8 0), .int (iI a0)])).length) Slot.unset).toArray = ls at hl ⊢
  have hl : lv_has ls 2 [(0, .ref (G.2.2.1 8 0)), (1, .int (iI a0))] := hl
  have J18 : ∀ (st : St) (H : Heap) (locs : List Loc) (ls : Array Slot), Iv vC G st H → va_S G.2.2.2.1 s.heap H locs → lv_has ls 2 [] → f8_writtenByte_j18 Q X st → W p l e (headSpec wsX8_writtenByte ({ frames := 6, cells := 1, slots := 6, locals := 89 })).room s m ([.ref (G.2.2.1 8 0), .int (iI a0)] : List Value).toArray below meth c H locs 0 0 (vx_MQ below (QiM vC G Q) (XM vC G X) ([.ref (G.2.2.1 8 0), .int (iI a0)] : List Value).toArray s 1 6 G.2.2.2.1) (F0 m 18 ls []) := by
    intro st H locs ls hI hS hl h
    unfold f8_writtenByte_j18 at h
    exact r_throw hx hb hfl hts hown (cls := "java/lang/IndexOutOfBoundsException") (by decide) (by decide +kernel) (by decide +kernel) (by decide +kernel) (fun w h9 => by first | exact List.mem_cons_of_mem _ (List.mem_append_right _ h9) | exact List.mem_cons_of_mem _ (List.mem_append_left _ (List.mem_append_right _ h9)) | exact List.mem_cons_of_mem _ (List.mem_append_left _ (List.mem_append_left _ (List.mem_append_right _ h9)))) (by decide +kernel) (by decide +kernel) hX hS hl.1 hml dX8_writtenByte_18 dX8_writtenByte_21 dX8_writtenByte_22 dX8_writtenByte_25 hE ⟨Nat.le_of_ble_eq_true rfl, Nat.le_of_ble_eq_true rfl, Nat.le_of_ble_eq_true rfl, Nat.le_of_ble_eq_true rfl⟩ (Nat.le_of_ble_eq_true rfl) hlocks hK hI h (by decide) (by decide)
  unfold f8_writtenByte at h
  refine lv_iload_n hx hb dX8_writtenByte_0 rfl (lv_at hl 1 rfl) ?_
  obtain ⟨g1, h⟩ := h
  refine r_if_lt (tgt := 18) hx hb dX8_writtenByte_1 (by decide) g1 (fun c2 => ?_) (fun c2 => ?_)
  · replace h := h.1 c2
    exact J18 st  _ _ ls hI hS (lv_sub hl [] rfl) h
  · replace h := h.2 c2
    refine lv_iload_n hx hb dX8_writtenByte_4 rfl (lv_at hl 1 rfl) ?_
    refine lv_aload_n hx hb dX8_writtenByte_5 rfl (lv_at hl 0 rfl) ?_
    refine gg_8_13 hx hb hts in8 hown hK hI hv_this lk_76 dX8_writtenByte_6 ?_
    obtain ⟨g3, h⟩ := h
    obtain ⟨g4, h⟩ := h
    refine r_icmp_ge (tgt := 18) hx hb dX8_writtenByte_9 (by decide) g3 g4 (fun c5 => ?_) (fun c5 => ?_)
    · replace h := h.1 c5
      exact J18 st  _ _ ls hI hS (lv_sub hl [] rfl) h
    · replace h := h.2 c5
      refine lv_iload_n hx hb dX8_writtenByte_12 rfl (lv_at hl 1 rfl) ?_
      refine r_bipush (n := 31) hx hb dX8_writtenByte_13 rfl ?_
      obtain ⟨g6, h⟩ := h
      refine r_icmp_lt (tgt := 26) hx hb dX8_writtenByte_15 (by decide) g6 (inI_mk rfl) (fun c7 => ?_) (fun c7 => ?_)
      · replace h := h.1 c7
        refine lv_aload_n hx hb dX8_writtenByte_26 rfl (lv_at hl 0 rfl) ?_
        refine gg_8_12 hx hb hts in8 hown hK hI hv_this lk_72 dX8_writtenByte_27 ?_
        refine lv_iload_n hx hb dX8_writtenByte_30 rfl (lv_at hl 1 rfl) ?_
        obtain ⟨g8, g9, h⟩ := h
        refine r_cald hx hb hK hI (K := 28) (vrC_8_12 hv_this) rfl (lts_mk rfl) dX8_writtenByte_31 g8 g9 ?_
        refine W.widen (k := 1) (n := 6) (by decide) (by decide) ?_
        exact vx_ret (r_iret hx hb hr hlocks hK hI hS (Qp := Q) h dX8_writtenByte_32)
      · replace h := h.2 c7
        exact J18 st  _ _ ls hI hS (lv_sub hl [] rfl) h
theorem hd9_thrown : yX9_thrown.cls = RX9 ∧ yX9_thrown.cls ≠ "java/lang/invoke/MethodHandle" ∧ yX9_thrown.cls ≠ "java/lang/invoke/VarHandle" ∧ (parseMethodDescriptor yX9_thrown.desc).map (fun d => d.parameters.length) = some 0 := by decide +kernel
set_option maxHeartbeats 4000000 in
set_option maxRecDepth 100000 in
theorem m9_thrown (l : Launch) (G : WG)   (hv_this : vM 9 0) (Q : Int → St → Prop) (st : St)  (h : f9_thrown Q st) : Met l yX9_thrown wsX9_thrown ({ frames := 0, cells := 0, slots := 0, locals := 0 }) (PcM vM G st [.ref (G.2.2.1 9 0)]) (QiM vM G Q) 0 0 G.2.2.2.1 := by
  refine Met.ofW (cc := cX9_thrown) (maxL := 1) (ret := (some .int)) (by decide) rfl ?_
  intro p e s m args below meth c s₁ B hml hvv
  obtain ⟨rfl, hA, hI, hK, hX⟩ := hvv
  have hx := B.exec
  have hb := B.bytes
  have hr := B.returns
  have hts := atoms_spec (ws := wsX9_thrown) B.pre
  have hown : s.vm.findClass RX9 = some m.cls := findClass_of_methodNamed B.named
  have hlocks := B.notSynchronized
  have hS : va_S G.2.2.2.1 s.heap s.heap [] := va_S.rf
  have in9 : ∀ w ∈ wsX90, w ∈ wsX9_thrown := by decide +kernel
  have lk_46 := hts (.fieldLink RX9 46 "BeamLinesModel" "thrown" "I") (by decide +kernel)
  have hl := lv_entry ([.ref (G.2.2.1 9 0)]) (n := 1) (Nat.le_of_ble_eq_true rfl)
  rw [lg_entry_eq]
  generalize (lg_sl ([.ref (G.2.2.1 9 0)]) ++ List.replicate (1 - (lg_sl ([.ref (G.2.2.1 9 0)])).length) Slot.unset).toArray = ls at hl ⊢
  have hl : lv_has ls 1 [(0, .ref (G.2.2.1 9 0))] := hl
  unfold f9_thrown at h
  refine lv_aload_n hx hb dX9_thrown_0 rfl (lv_at hl 0 rfl) ?_
  refine gg_9_6 hx hb hts in9 hown hK hI hv_this lk_46 dX9_thrown_1 ?_
  exact r_iret hx hb hr hlocks hK hI hS (Qp := Q) h dX9_thrown_4
theorem hd9_isIn : yX9_isIn.cls ≠ "java/lang/invoke/MethodHandle" ∧ yX9_isIn.cls ≠ "java/lang/invoke/VarHandle" ∧ (parseMethodDescriptor yX9_isIn.desc).map (fun d => d.parameters.length) = some 3 := by decide +kernel
set_option maxHeartbeats 4000000 in
set_option maxRecDepth 100000 in
theorem m9_isIn (l : Launch) (G : WG)    (Q : Int → St → Prop) (st : St) (a0 : Int) (a1 : Int) (a2 : Int) (h : f9_isIn Q st a0 a1 a2) : Met l yX9_isIn wsX9_isIn ({ frames := 0, cells := 0, slots := 0, locals := 0 }) (PcM vM G st [.int (iI a0), .int (iI a1), .int (iI a2)]) (QiM vM G Q) 0 0 G.2.2.2.1 := by
  refine Met.ofW (cc := cX9_isIn) (maxL := 3) (ret := (some .boolean)) (by decide) rfl ?_
  intro p e s m args below meth c s₁ B hml hvv
  obtain ⟨rfl, hA, hI, hK, hX⟩ := hvv
  have hx := B.exec
  have hb := B.bytes
  have hr := B.returns
  have hts := atoms_spec (ws := wsX9_isIn) B.pre
  have hown : s.vm.findClass RX9 = some m.cls := findClass_of_methodNamed B.named
  have hlocks := B.notSynchronized
  have hS : va_S G.2.2.2.1 s.heap s.heap [] := va_S.rf
  have hl := lv_entry ([.int (iI a0), .int (iI a1), .int (iI a2)]) (n := 3) (Nat.le_of_ble_eq_true rfl)
  rw [lg_entry_eq]
  generalize (lg_sl ([.int (iI a0), .int (iI a1), .int (iI a2)]) ++ List.replicate (3 - (lg_sl ([.int (iI a0), .int (iI a1), .int (iI a2)])).length) Slot.unset).toArray = ls at hl ⊢
  have hl : lv_has ls 3 [(0, .int (iI a0)), (1, .int (iI a1)), (2, .int (iI a2))] := hl
  unfold f9_isIn at h
  refine lv_iload_n hx hb dX9_isIn_0 rfl (lv_at hl 0 rfl) ?_
  refine lv_iload_n hx hb dX9_isIn_1 rfl (lv_at hl 1 rfl) ?_
  obtain ⟨g1, h⟩ := h
  obtain ⟨g2, h⟩ := h
  refine r_icmp_lt (tgt := 14) hx hb dX9_isIn_2 (by decide) g1 g2 (fun c3 => ?_) (fun c3 => ?_)
  · replace h := h.1 c3
    refine r_iconst (n := 0) hx hb dX9_isIn_14 ?_
    exact r_zret hx hb hr hlocks hK hI hS (Qp := Q) (by decide) h dX9_isIn_15
  · replace h := h.2 c3
    refine lv_iload_n hx hb dX9_isIn_5 rfl (lv_at hl 0 rfl) ?_
    refine lv_iload_n hx hb dX9_isIn_6 rfl (lv_at hl 2 rfl) ?_
    obtain ⟨g4, h⟩ := h
    obtain ⟨g5, h⟩ := h
    refine r_icmp_gt (tgt := 14) hx hb dX9_isIn_7 (by decide) g4 g5 (fun c6 => ?_) (fun c6 => ?_)
    · replace h := h.1 c6
      refine r_iconst (n := 0) hx hb dX9_isIn_14 ?_
      exact r_zret hx hb hr hlocks hK hI hS (Qp := Q) (by decide) h dX9_isIn_15
    · replace h := h.2 c6
      refine r_iconst (n := 1) hx hb dX9_isIn_10 ?_
      refine lv_goto (tgt := 15) hx hb dX9_isIn_11 (by decide) ?_
      exact r_zret hx hb hr hlocks hK hI hS (Qp := Q) (by decide) h dX9_isIn_15
theorem hd9_copies : yX9_copies.cls ≠ "java/lang/invoke/MethodHandle" ∧ yX9_copies.cls ≠ "java/lang/invoke/VarHandle" ∧ (parseMethodDescriptor yX9_copies.desc).map (fun d => d.parameters.length) = some 4 := by decide +kernel
set_option maxHeartbeats 4000000 in
set_option maxRecDepth 100000 in
theorem m9_copies (l : Launch) (G : WG)  (a0 : Int) (a2 : Int) (hv_a0 : vM 30 a0) (hv_a2 : vM 30 a2) (Q : St → Prop) (st : St) (a1 : Int) (a3 : Int) (h : f9_copies a0 a2 Q st a1 a3) : Met l yX9_copies wsX9_copies ({ frames := 0, cells := 0, slots := 0, locals := 0 }) (PcM vM G st [.ref (G.2.2.1 30 a0), .int (iI a1), .ref (G.2.2.1 30 a2), .int (iI a3)]) (QvM vM G Q) 0 0 G.2.2.2.1 := by
  refine Met.ofW (cc := cX9_copies) (maxL := 5) (ret := none) (by decide) rfl ?_
  intro p e s m args below meth c s₁ B hml hvv
  obtain ⟨rfl, hA, hI, hK, hX⟩ := hvv
  have hx := B.exec
  have hb := B.bytes
  have hr := B.returns
  have hts := atoms_spec (ws := wsX9_copies) B.pre
  have hown : s.vm.findClass RX9 = some m.cls := findClass_of_methodNamed B.named
  have hlocks := B.notSynchronized
  have hS : va_S G.2.2.2.1 s.heap s.heap [] := va_S.rf
  have hl := lv_entry ([.ref (G.2.2.1 30 a0), .int (iI a1), .ref (G.2.2.1 30 a2), .int (iI a3)]) (n := 5) (Nat.le_of_ble_eq_true rfl)
  rw [lg_entry_eq]
  generalize (lg_sl ([.ref (G.2.2.1 30 a0), .int (iI a1), .ref (G.2.2.1 30 a2), .int (iI a3)]) ++ List.replicate (5 - (lg_sl ([.ref (G.2.2.1 30 a0), .int (iI a1), .ref (G.2.2.1 30 a2), .int (iI a3)])).length) Slot.unset).toArray = ls at hl ⊢
  have hl : lv_has ls 5 [(0, .ref (G.2.2.1 30 a0)), (1, .int (iI a1)), (2, .ref (G.2.2.1 30 a2)), (3, .int (iI a3))] := hl
  have L3 : ∀ (n3 : Nat), ∀ (st : St) (v4x3 : Int) (H : Heap) (locs : List Loc) (ls : Array Slot), Iv vM G st H → va_S G.2.2.2.1 s.heap H locs → lv_has ls 5 [(0, .ref (G.2.2.1 30 a0)), (1, .int (iI a1)), (2, .ref (G.2.2.1 30 a2)), (3, .int (iI a3)), (4, .int (iI v4x3))] → f9_copies_l3 a0 a2 Q a1 a3 n3 st v4x3 → W p l e (headSpec wsX9_copies ({ frames := 0, cells := 0, slots := 0, locals := 0 })).room s m ([.ref (G.2.2.1 30 a0), .int (iI a1), .ref (G.2.2.1 30 a2), .int (iI a3)] : List Value).toArray below meth c H locs 0 0 (MQ below (QvM vM G Q) ([.ref (G.2.2.1 30 a0), .int (iI a1), .ref (G.2.2.1 30 a2), .int (iI a3)] : List Value).toArray s 0 0 G.2.2.2.1) (F0 m 3 ls []) := by
    intro n3
    induction n3 with
    | zero =>
      intro st v4x3 H locs ls hI hS hl h
      exact h.elim
    | succ n3 ih3 =>
      intro st v4x3 H locs ls hI hS hl h
      unfold f9_copies_l3 at h
      refine lv_iload hx hb dX9_copies_3 (lv_at hl 4 rfl) ?_
      refine r_bipush (n := 47) hx hb dX9_copies_5 rfl ?_
      obtain ⟨g1, h⟩ := h
      refine r_icmp_ge (tgt := 28) hx hb dX9_copies_7 (by decide) g1 (inI_mk rfl) (fun c2 => ?_) (fun c2 => ?_)
      · replace h := h.1 c2
        exact r_vret hx hb hr hlocks hK hI hS (Qp := Q) h dX9_copies_28
      · replace h := h.2 c2
        refine lv_aload_n hx hb dX9_copies_10 rfl (lv_at hl 0 rfl) ?_
        refine lv_iload_n hx hb dX9_copies_11 rfl (lv_at hl 1 rfl) ?_
        refine lv_iload hx hb dX9_copies_12 (lv_at hl 4 rfl) ?_
        refine r_iadd hx hb dX9_copies_14 ?_
        refine lv_aload_n hx hb dX9_copies_15 rfl (lv_at hl 2 rfl) ?_
        refine lv_iload_n hx hb dX9_copies_16 rfl (lv_at hl 3 rfl) ?_
        refine lv_iload hx hb dX9_copies_17 (lv_at hl 4 rfl) ?_
        refine r_iadd hx hb dX9_copies_19 ?_
        obtain ⟨g3, g4, h⟩ := h
        refine r_iald hx hb hK hI (K := 30) hv_a2 rfl (mlen_le _) dX9_copies_20 g3 g4 ?_
        obtain ⟨g5, g6, h⟩ := h
        refine r_iast hx hb hK hI hS (K := 30) hv_a0 (fun _ => rfl) (mlen_le _) dX9_copies_21 g5 g6 (fun st7 hst7 H locs hI hS => ?_)
        replace h := h st7 hst7
        obtain ⟨x8, hx8⟩ : ∃ z : Int, z = v4x3 + 1 := ⟨_, rfl⟩
        replace h := h x8 hx8
        refine lv_iinc (v := iI x8) (lv' := [(4, .int (iI x8)), (0, .ref (G.2.2.1 30 a0)), (1, .int (iI a1)), (2, .ref (G.2.2.1 30 a2)), (3, .int (iI a3))]) hx hb dX9_copies_22 hl (k := 4) rfl (by rw [hx8]; exact iI_add _ _) (by decide) rfl (fun ls hl => ?_)
        refine lv_goto (tgt := 3) hx hb dX9_copies_25 (by decide) ?_
        exact ih3 st7 x8 _ _ ls hI hS (lv_sub hl [1, 2, 3, 4, 0] rfl) h
  unfold f9_copies at h
  refine r_iconst (n := 0) hx hb dX9_copies_0 ?_
  refine lv_istore (lv' := [(4, .int (iI 0)), (0, .ref (G.2.2.1 30 a0)), (1, .int (iI a1)), (2, .ref (G.2.2.1 30 a2)), (3, .int (iI a3))]) hx hb dX9_copies_1 hl (by decide) rfl (fun ls hl => ?_)
  obtain ⟨kk, h⟩ := h
  exact L3 kk st 0 _ _ ls hI hS (lv_sub hl [1, 2, 3, 4, 0] rfl) h
theorem hd9_keeps : yX9_keeps.cls = RX9 ∧ yX9_keeps.cls ≠ "java/lang/invoke/MethodHandle" ∧ yX9_keeps.cls ≠ "java/lang/invoke/VarHandle" ∧ (parseMethodDescriptor yX9_keeps.desc).map (fun d => d.parameters.length) = some 1 := by decide +kernel
set_option maxHeartbeats 4000000 in
set_option maxRecDepth 100000 in
theorem m9_keeps (l : Launch) (G : WG)  (a0 : Int) (hv_this : vM 9 0) (hv_a0 : vM 30 a0) (Q : St → Prop) (st : St)  (h : f9_keeps a0 Q st) : Met l yX9_keeps wsX9_keeps ({ frames := 1, cells := 0, slots := 0, locals := 24 }) (PcM vM G st [.ref (G.2.2.1 9 0), .ref (G.2.2.1 30 a0)]) (QvM vM G Q) 0 0 G.2.2.2.1 := by
  refine Met.ofW (cc := cX9_keeps) (maxL := 3) (ret := none) (by decide) rfl ?_
  intro p e s m args below meth c s₁ B hml hvv
  obtain ⟨rfl, hA, hI, hK, hX⟩ := hvv
  have hx := B.exec
  have hb := B.bytes
  have hr := B.returns
  have hts := atoms_spec (ws := wsX9_keeps) B.pre
  have hown : s.vm.findClass RX9 = some m.cls := findClass_of_methodNamed B.named
  have hlocks := B.notSynchronized
  have hS : va_S G.2.2.2.1 s.heap s.heap [] := va_S.rf
  have in9 : ∀ w ∈ wsX90, w ∈ wsX9_keeps := by decide +kernel
  have lk_16 := hts (.fieldLink RX9 16 "BeamLinesModel" "kept" "[I") (by decide +kernel)
  have lk_49 := hts (.fieldLink RX9 49 "BeamLinesModel" "keptMany" "I") (by decide +kernel)
  have hl := lv_entry ([.ref (G.2.2.1 9 0), .ref (G.2.2.1 30 a0)]) (n := 3) (Nat.le_of_ble_eq_true rfl)
  rw [lg_entry_eq]
  generalize (lg_sl ([.ref (G.2.2.1 9 0), .ref (G.2.2.1 30 a0)]) ++ List.replicate (3 - (lg_sl ([.ref (G.2.2.1 9 0), .ref (G.2.2.1 30 a0)])).length) Slot.unset).toArray = ls at hl ⊢
  have hl : lv_has ls 3 [(0, .ref (G.2.2.1 9 0)), (1, .ref (G.2.2.1 30 a0))] := hl
  have J49 : ∀ (st : St) (H : Heap) (locs : List Loc) (ls : Array Slot), Iv vM G st H → va_S G.2.2.2.1 s.heap H locs → lv_has ls 3 [(0, .ref (G.2.2.1 9 0)), (1, .ref (G.2.2.1 30 a0))] → f9_keeps_j49 a0 Q st → W p l e (headSpec wsX9_keeps ({ frames := 1, cells := 0, slots := 0, locals := 24 })).room s m ([.ref (G.2.2.1 9 0), .ref (G.2.2.1 30 a0)] : List Value).toArray below meth c H locs 0 0 (MQ below (QvM vM G Q) ([.ref (G.2.2.1 9 0), .ref (G.2.2.1 30 a0)] : List Value).toArray s 0 0 G.2.2.2.1) (F0 m 49 ls []) := by
    intro st H locs ls hI hS hl h
    unfold f9_keeps_j49 at h
    refine lv_aload_n hx hb dX9_keeps_49 rfl (lv_at hl 0 rfl) ?_
    refine gg_9_2 hx hb hts in9 hown hK hI hv_this lk_16 dX9_keeps_50 ?_
    refine r_bipush (n := 47) hx hb dX9_keeps_53 rfl ?_
    refine lv_aload_n hx hb dX9_keeps_55 rfl (lv_at hl 0 rfl) ?_
    refine gg_9_5 hx hb hts in9 hown hK hI hv_this lk_49 dX9_keeps_56 ?_
    refine r_imul hx hb dX9_keeps_59 ?_
    refine lv_aload_n hx hb dX9_keeps_60 rfl (lv_at hl 1 rfl) ?_
    refine r_iconst (n := 0) hx hb dX9_keeps_61 ?_
    refine r_callv (va_runS (As := [.ref (G.2.2.1 30 2), .int (iI (47 * (st 9 5 0 0))), .ref (G.2.2.1 30 a0), .int (iI 0)]) (rest := []) ⟨hx, hb, hml, hown, hts⟩ (m9_copies l G 2 a0 (vrM_9_2 hv_this) hv_a0 _ st (47 * (st 9 5 0 0)) 0 h) (va_cwS 4 hts gX9_keeps_X9_copies rfl rfl rfl hd9_copies ⟨Nat.le_of_ble_eq_true rfl, Nat.le_of_ble_eq_true rfl⟩) (pre_S hK hX hI hA hS [.ref (G.2.2.1 30 2), .int (iI (47 * (st 9 5 0 0))), .ref (G.2.2.1 30 a0), .int (iI 0)]) rfl rfl hl.1 rfl (lv_room (Nat.le_of_ble_eq_true rfl)) dX9_keeps_62 ⟨Nat.le_of_ble_eq_true rfl, Nat.le_of_ble_eq_true rfl⟩) hS (fun st4 h H locs hI hS => ?_)
    refine lv_aload_n hx hb dX9_keeps_65 rfl (lv_at hl 0 rfl) ?_
    refine lv_dup hx hb dX9_keeps_66 rfl ?_
    refine gg_9_5 hx hb hts in9 hown hK hI hv_this lk_49 dX9_keeps_67 ?_
    refine r_iconst (n := 1) hx hb dX9_keeps_70 ?_
    refine r_iadd hx hb dX9_keeps_71 ?_
    refine pp_9_5 hx hb hts in9 hown hK hI hS hv_this lk_49 dX9_keeps_72 (fun st5 hst5 H locs hI hS => ?_)
    replace h := h st5 hst5
    exact r_vret hx hb hr hlocks hK hI hS (Qp := Q) h dX9_keeps_75
  have L11 : ∀ (n11 : Nat), ∀ (st : St) (v2x11 : Int) (H : Heap) (locs : List Loc) (ls : Array Slot), Iv vM G st H → va_S G.2.2.2.1 s.heap H locs → lv_has ls 3 [(0, .ref (G.2.2.1 9 0)), (1, .ref (G.2.2.1 30 a0)), (2, .int (iI v2x11))] → f9_keeps_l11 a0 Q n11 st v2x11 → W p l e (headSpec wsX9_keeps ({ frames := 1, cells := 0, slots := 0, locals := 24 })).room s m ([.ref (G.2.2.1 9 0), .ref (G.2.2.1 30 a0)] : List Value).toArray below meth c H locs 0 0 (MQ below (QvM vM G Q) ([.ref (G.2.2.1 9 0), .ref (G.2.2.1 30 a0)] : List Value).toArray s 0 0 G.2.2.2.1) (F0 m 11 ls []) := by
    intro n11
    induction n11 with
    | zero =>
      intro st v2x11 H locs ls hI hS hl h
      exact h.elim
    | succ n11 ih11 =>
      intro st v2x11 H locs ls hI hS hl h
      unfold f9_keeps_l11 at h
      refine lv_iload_n hx hb dX9_keeps_11 rfl (lv_at hl 2 rfl) ?_
      refine r_sipush (n := 329) hx hb dX9_keeps_12 rfl ?_
      obtain ⟨g6, h⟩ := h
      refine r_icmp_ge (tgt := 39) hx hb dX9_keeps_15 (by decide) g6 (inI_mk rfl) (fun c7 => ?_) (fun c7 => ?_)
      · replace h := h.1 c7
        refine lv_aload_n hx hb dX9_keeps_39 rfl (lv_at hl 0 rfl) ?_
        refine lv_dup hx hb dX9_keeps_40 rfl ?_
        refine gg_9_5 hx hb hts in9 hown hK hI hv_this lk_49 dX9_keeps_41 ?_
        refine r_iconst (n := 1) hx hb dX9_keeps_44 ?_
        refine r_isub hx hb dX9_keeps_45 ?_
        refine pp_9_5 hx hb hts in9 hown hK hI hS hv_this lk_49 dX9_keeps_46 (fun st8 hst8 H locs hI hS => ?_)
        replace h := h st8 hst8
        exact J49 st8  _ _ ls hI hS (lv_sub hl [0, 1] rfl) h
      · replace h := h.2 c7
        refine lv_aload_n hx hb dX9_keeps_18 rfl (lv_at hl 0 rfl) ?_
        refine gg_9_2 hx hb hts in9 hown hK hI hv_this lk_16 dX9_keeps_19 ?_
        refine lv_iload_n hx hb dX9_keeps_22 rfl (lv_at hl 2 rfl) ?_
        refine lv_aload_n hx hb dX9_keeps_23 rfl (lv_at hl 0 rfl) ?_
        refine gg_9_2 hx hb hts in9 hown hK hI hv_this lk_16 dX9_keeps_24 ?_
        refine lv_iload_n hx hb dX9_keeps_27 rfl (lv_at hl 2 rfl) ?_
        refine r_bipush (n := 47) hx hb dX9_keeps_28 rfl ?_
        refine r_iadd hx hb dX9_keeps_30 ?_
        obtain ⟨g9, g10, h⟩ := h
        refine r_iald hx hb hK hI (K := 30) (vrM_9_2 hv_this) rfl (mlen_le _) dX9_keeps_31 g9 g10 ?_
        obtain ⟨g11, g12, h⟩ := h
        refine r_iast hx hb hK hI hS (K := 30) (vrM_9_2 hv_this) (fun _ => rfl) (mlen_le _) dX9_keeps_32 g11 g12 (fun st13 hst13 H locs hI hS => ?_)
        replace h := h st13 hst13
        obtain ⟨x14, hx14⟩ : ∃ z : Int, z = v2x11 + 1 := ⟨_, rfl⟩
        replace h := h x14 hx14
        refine lv_iinc (v := iI x14) (lv' := [(2, .int (iI x14)), (0, .ref (G.2.2.1 9 0)), (1, .ref (G.2.2.1 30 a0))]) hx hb dX9_keeps_33 hl (k := 2) rfl (by rw [hx14]; exact iI_add _ _) (by decide) rfl (fun ls hl => ?_)
        refine lv_goto (tgt := 11) hx hb dX9_keeps_36 (by decide) ?_
        exact ih11 st13 x14 _ _ ls hI hS (lv_sub hl [1, 2, 0] rfl) h
  unfold f9_keeps at h
  refine lv_aload_n hx hb dX9_keeps_0 rfl (lv_at hl 0 rfl) ?_
  refine gg_9_5 hx hb hts in9 hown hK hI hv_this lk_49 dX9_keeps_1 ?_
  refine r_bipush (n := 8) hx hb dX9_keeps_4 rfl ?_
  obtain ⟨g1, h⟩ := h
  refine r_icmp_ne (tgt := 49) hx hb dX9_keeps_6 (by decide) g1 (inI_mk rfl) (fun c2 => ?_) (fun c2 => ?_)
  · replace h := h.2 c2
    exact J49 st  _ _ ls hI hS (lv_sub hl [0, 1] rfl) h
  · replace h := h.1 c2
    refine r_iconst (n := 0) hx hb dX9_keeps_9 ?_
    refine lv_istore_n (lv' := [(2, .int (iI 0)), (0, .ref (G.2.2.1 9 0)), (1, .ref (G.2.2.1 30 a0))]) hx hb dX9_keeps_10 rfl hl (by decide) rfl (fun ls hl => ?_)
    obtain ⟨kk, h⟩ := h
    exact L11 kk st 0 _ _ ls hI hS (lv_sub hl [1, 2, 0] rfl) h
theorem hd9_undo : yX9_undo.cls = RX9 ∧ yX9_undo.cls ≠ "java/lang/invoke/MethodHandle" ∧ yX9_undo.cls ≠ "java/lang/invoke/VarHandle" ∧ (parseMethodDescriptor yX9_undo.desc).map (fun d => d.parameters.length) = some 0 := by decide +kernel
set_option maxHeartbeats 4000000 in
set_option maxRecDepth 100000 in
theorem m9_undo (l : Launch) (G : WG)   (hv_this : vM 9 0) (Q : Int → St → Prop) (st : St)  (h : f9_undo Q st) : Met l yX9_undo wsX9_undo ({ frames := 1, cells := 0, slots := 0, locals := 24 }) (PcM vM G st [.ref (G.2.2.1 9 0)]) (QiM vM G Q) 0 0 G.2.2.2.1 := by
  refine Met.ofW (cc := cX9_undo) (maxL := 1) (ret := (some .int)) (by decide) rfl ?_
  intro p e s m args below meth c s₁ B hml hvv
  obtain ⟨rfl, hA, hI, hK, hX⟩ := hvv
  have hx := B.exec
  have hb := B.bytes
  have hr := B.returns
  have hts := atoms_spec (ws := wsX9_undo) B.pre
  have hown : s.vm.findClass RX9 = some m.cls := findClass_of_methodNamed B.named
  have hlocks := B.notSynchronized
  have hS : va_S G.2.2.2.1 s.heap s.heap [] := va_S.rf
  have in9 : ∀ w ∈ wsX90, w ∈ wsX9_undo := by decide +kernel
  have lk_7 := hts (.fieldLink RX9 7 "BeamLinesModel" "a" "[I") (by decide +kernel)
  have lk_16 := hts (.fieldLink RX9 16 "BeamLinesModel" "kept" "[I") (by decide +kernel)
  have lk_46 := hts (.fieldLink RX9 46 "BeamLinesModel" "thrown" "I") (by decide +kernel)
  have lk_49 := hts (.fieldLink RX9 49 "BeamLinesModel" "keptMany" "I") (by decide +kernel)
  have hl := lv_entry ([.ref (G.2.2.1 9 0)]) (n := 1) (Nat.le_of_ble_eq_true rfl)
  rw [lg_entry_eq]
  generalize (lg_sl ([.ref (G.2.2.1 9 0)]) ++ List.replicate (1 - (lg_sl ([.ref (G.2.2.1 9 0)])).length) Slot.unset).toArray = ls at hl ⊢
  have hl : lv_has ls 1 [(0, .ref (G.2.2.1 9 0))] := hl
  have J13 : ∀ (st : St) (s0x13 : Int) (H : Heap) (locs : List Loc) (ls : Array Slot), Iv vM G st H → va_S G.2.2.2.1 s.heap H locs → lv_has ls 1 [(0, .ref (G.2.2.1 9 0))] → f9_undo_j13 Q st s0x13 → W p l e (headSpec wsX9_undo ({ frames := 1, cells := 0, slots := 0, locals := 24 })).room s m ([.ref (G.2.2.1 9 0)] : List Value).toArray below meth c H locs 0 0 (MQ below (QiM vM G Q) ([.ref (G.2.2.1 9 0)] : List Value).toArray s 0 0 G.2.2.2.1) (F0 m 13 ls [.int (iI s0x13), .ref (G.2.2.1 9 0)]) := by
    intro st s0x13 H locs ls hI hS hl h
    unfold f9_undo_j13 at h
    refine pp_9_6 hx hb hts in9 hown hK hI hS hv_this lk_46 dX9_undo_13 (fun st3 hst3 H locs hI hS => ?_)
    replace h := h st3 hst3
    refine lv_aload_n hx hb dX9_undo_16 rfl (lv_at hl 0 rfl) ?_
    refine gg_9_6 hx hb hts in9 hown hK hI hv_this lk_46 dX9_undo_17 ?_
    obtain ⟨g4, h⟩ := h
    refine r_if_le (tgt := 25) hx hb dX9_undo_20 (by decide) g4 (fun c5 => ?_) (fun c5 => ?_)
    · replace h := h.1 c5
      refine lv_aload_n hx hb dX9_undo_25 rfl (lv_at hl 0 rfl) ?_
      refine lv_dup hx hb dX9_undo_26 rfl ?_
      refine gg_9_5 hx hb hts in9 hown hK hI hv_this lk_49 dX9_undo_27 ?_
      refine r_iconst (n := 1) hx hb dX9_undo_30 ?_
      refine r_isub hx hb dX9_undo_31 ?_
      refine pp_9_5 hx hb hts in9 hown hK hI hS hv_this lk_49 dX9_undo_32 (fun st6 hst6 H locs hI hS => ?_)
      replace h := h st6 hst6
      refine lv_aload_n hx hb dX9_undo_35 rfl (lv_at hl 0 rfl) ?_
      refine gg_9_0 hx hb hts in9 hown hK hI hv_this lk_7 dX9_undo_36 ?_
      refine r_iconst (n := 0) hx hb dX9_undo_39 ?_
      refine lv_aload_n hx hb dX9_undo_40 rfl (lv_at hl 0 rfl) ?_
      refine gg_9_2 hx hb hts in9 hown hK hI hv_this lk_16 dX9_undo_41 ?_
      refine r_bipush (n := 47) hx hb dX9_undo_44 rfl ?_
      refine lv_aload_n hx hb dX9_undo_46 rfl (lv_at hl 0 rfl) ?_
      refine gg_9_5 hx hb hts in9 hown hK hI hv_this lk_49 dX9_undo_47 ?_
      refine r_imul hx hb dX9_undo_50 ?_
      refine r_callv (va_runS (As := [.ref (G.2.2.1 30 0), .int (iI 0), .ref (G.2.2.1 30 2), .int (iI (47 * (st6 9 5 0 0)))]) (rest := []) ⟨hx, hb, hml, hown, hts⟩ (m9_copies l G 0 2 (vrM_9_0 hv_this) (vrM_9_2 hv_this) _ st6 0 (47 * (st6 9 5 0 0)) h) (va_cwS 4 hts gX9_undo_X9_copies rfl rfl rfl hd9_copies ⟨Nat.le_of_ble_eq_true rfl, Nat.le_of_ble_eq_true rfl⟩) (pre_S hK hX hI hA hS [.ref (G.2.2.1 30 0), .int (iI 0), .ref (G.2.2.1 30 2), .int (iI (47 * (st6 9 5 0 0)))]) rfl rfl hl.1 rfl (lv_room (Nat.le_of_ble_eq_true rfl)) dX9_undo_51 ⟨Nat.le_of_ble_eq_true rfl, Nat.le_of_ble_eq_true rfl⟩) hS (fun st8 h H locs hI hS => ?_)
      refine lv_aload_n hx hb dX9_undo_54 rfl (lv_at hl 0 rfl) ?_
      refine gg_9_5 hx hb hts in9 hown hK hI hv_this lk_49 dX9_undo_55 ?_
      exact r_iret hx hb hr hlocks hK hI hS (Qp := Q) h dX9_undo_58
    · replace h := h.2 c5
      refine r_iconst (n := 0) hx hb dX9_undo_23 ?_
      exact r_iret hx hb hr hlocks hK hI hS (Qp := Q) h dX9_undo_24
  unfold f9_undo at h
  refine lv_aload_n hx hb dX9_undo_0 rfl (lv_at hl 0 rfl) ?_
  refine lv_aload_n hx hb dX9_undo_1 rfl (lv_at hl 0 rfl) ?_
  refine gg_9_5 hx hb hts in9 hown hK hI hv_this lk_49 dX9_undo_2 ?_
  obtain ⟨g1, h⟩ := h
  refine r_if_ne (tgt := 12) hx hb dX9_undo_5 (by decide) g1 (fun c2 => ?_) (fun c2 => ?_)
  · replace h := h.2 c2
    refine r_iconst (n := 0) hx hb dX9_undo_12 ?_
    exact J13 st 0 _ _ ls hI hS (lv_sub hl [0] rfl) h
  · replace h := h.1 c2
    refine r_iconst (n := 1) hx hb dX9_undo_8 ?_
    refine lv_goto (tgt := 13) hx hb dX9_undo_9 (by decide) ?_
    exact J13 st 1 _ _ ls hI hS (lv_sub hl [0] rfl) h
theorem hd9_save : yX9_save.cls = RX9 ∧ yX9_save.cls ≠ "java/lang/invoke/MethodHandle" ∧ yX9_save.cls ≠ "java/lang/invoke/VarHandle" ∧ (parseMethodDescriptor yX9_save.desc).map (fun d => d.parameters.length) = some 1 := by decide +kernel
set_option maxHeartbeats 4000000 in
set_option maxRecDepth 100000 in
theorem m9_save (l : Launch) (G : WG)   (hv_this : vM 9 0) (Q : St → Prop) (st : St) (a0 : Int) (h : f9_save Q st a0) : Met l yX9_save wsX9_save ({ frames := 1, cells := 0, slots := 0, locals := 24 }) (PcM vM G st [.ref (G.2.2.1 9 0), .int (iI a0)]) (QvM vM G Q) 0 0 G.2.2.2.1 := by
  refine Met.ofW (cc := cX9_save) (maxL := 2) (ret := none) (by decide) rfl ?_
  intro p e s m args below meth c s₁ B hml hvv
  obtain ⟨rfl, hA, hI, hK, hX⟩ := hvv
  have hx := B.exec
  have hb := B.bytes
  have hr := B.returns
  have hts := atoms_spec (ws := wsX9_save) B.pre
  have hown : s.vm.findClass RX9 = some m.cls := findClass_of_methodNamed B.named
  have hlocks := B.notSynchronized
  have hS : va_S G.2.2.2.1 s.heap s.heap [] := va_S.rf
  have in9 : ∀ w ∈ wsX90, w ∈ wsX9_save := by decide +kernel
  have lk_7 := hts (.fieldLink RX9 7 "BeamLinesModel" "a" "[I") (by decide +kernel)
  have lk_19 := hts (.fieldLink RX9 19 "BeamLinesModel" "saved" "[I") (by decide +kernel)
  have lk_22 := hts (.fieldLink RX9 22 "BeamLinesModel" "isSaved" "[Z") (by decide +kernel)
  have lk_46 := hts (.fieldLink RX9 46 "BeamLinesModel" "thrown" "I") (by decide +kernel)
  have hl := lv_entry ([.ref (G.2.2.1 9 0), .int (iI a0)]) (n := 2) (Nat.le_of_ble_eq_true rfl)
  rw [lg_entry_eq]
  generalize (lg_sl ([.ref (G.2.2.1 9 0), .int (iI a0)]) ++ List.replicate (2 - (lg_sl ([.ref (G.2.2.1 9 0), .int (iI a0)])).length) Slot.unset).toArray = ls at hl ⊢
  have hl : lv_has ls 2 [(0, .ref (G.2.2.1 9 0)), (1, .int (iI a0))] := hl
  have J15 : ∀ (st : St) (s0x15 : Int) (H : Heap) (locs : List Loc) (ls : Array Slot), Iv vM G st H → va_S G.2.2.2.1 s.heap H locs → lv_has ls 2 [(0, .ref (G.2.2.1 9 0)), (1, .int (iI a0))] → f9_save_j15 Q a0 st s0x15 → W p l e (headSpec wsX9_save ({ frames := 1, cells := 0, slots := 0, locals := 24 })).room s m ([.ref (G.2.2.1 9 0), .int (iI a0)] : List Value).toArray below meth c H locs 0 0 (MQ below (QvM vM G Q) ([.ref (G.2.2.1 9 0), .int (iI a0)] : List Value).toArray s 0 0 G.2.2.2.1) (F0 m 15 ls [.int (iI s0x15), .ref (G.2.2.1 9 0)]) := by
    intro st s0x15 H locs ls hI hS hl h
    unfold f9_save_j15 at h
    refine pp_9_6 hx hb hts in9 hown hK hI hS hv_this lk_46 dX9_save_15 (fun st5 hst5 H locs hI hS => ?_)
    replace h := h st5 hst5
    refine lv_aload_n hx hb dX9_save_18 rfl (lv_at hl 0 rfl) ?_
    refine gg_9_6 hx hb hts in9 hown hK hI hv_this lk_46 dX9_save_19 ?_
    obtain ⟨g6, h⟩ := h
    refine r_if_le (tgt := 26) hx hb dX9_save_22 (by decide) g6 (fun c7 => ?_) (fun c7 => ?_)
    · replace h := h.1 c7
      refine lv_aload_n hx hb dX9_save_26 rfl (lv_at hl 0 rfl) ?_
      refine gg_9_3 hx hb hts in9 hown hK hI hv_this lk_19 dX9_save_27 ?_
      refine r_bipush (n := 47) hx hb dX9_save_30 rfl ?_
      refine lv_iload_n hx hb dX9_save_32 rfl (lv_at hl 1 rfl) ?_
      refine r_imul hx hb dX9_save_33 ?_
      refine lv_aload_n hx hb dX9_save_34 rfl (lv_at hl 0 rfl) ?_
      refine gg_9_0 hx hb hts in9 hown hK hI hv_this lk_7 dX9_save_35 ?_
      refine r_iconst (n := 0) hx hb dX9_save_38 ?_
      refine r_callv (va_runS (As := [.ref (G.2.2.1 30 3), .int (iI (47 * a0)), .ref (G.2.2.1 30 0), .int (iI 0)]) (rest := []) ⟨hx, hb, hml, hown, hts⟩ (m9_copies l G 3 0 (vrM_9_3 hv_this) (vrM_9_0 hv_this) _ st5 (47 * a0) 0 h) (va_cwS 4 hts gX9_save_X9_copies rfl rfl rfl hd9_copies ⟨Nat.le_of_ble_eq_true rfl, Nat.le_of_ble_eq_true rfl⟩) (pre_S hK hX hI hA hS [.ref (G.2.2.1 30 3), .int (iI (47 * a0)), .ref (G.2.2.1 30 0), .int (iI 0)]) rfl rfl hl.1 rfl (lv_room (Nat.le_of_ble_eq_true rfl)) dX9_save_39 ⟨Nat.le_of_ble_eq_true rfl, Nat.le_of_ble_eq_true rfl⟩) hS (fun st9 h H locs hI hS => ?_)
      refine lv_aload_n hx hb dX9_save_42 rfl (lv_at hl 0 rfl) ?_
      refine gg_9_4 hx hb hts in9 hown hK hI hv_this lk_22 dX9_save_43 ?_
      refine lv_iload_n hx hb dX9_save_46 rfl (lv_at hl 1 rfl) ?_
      refine r_iconst (n := 1) hx hb dX9_save_47 ?_
      obtain ⟨g10, g11, h⟩ := h
      refine r_zast hx hb hK hI hS (K := 34) (vrM_9_4 hv_this) (fun _ => rfl) (lts_mk rfl) dX9_save_48 g10 g11 (by decide) (fun st12 hst12 H locs hI hS => ?_)
      replace h := h st12 hst12
      exact r_vret hx hb hr hlocks hK hI hS (Qp := Q) h dX9_save_49
    · replace h := h.2 c7
      exact r_vret hx hb hr hlocks hK hI hS (Qp := Q) h dX9_save_25
  unfold f9_save at h
  refine lv_aload_n hx hb dX9_save_0 rfl (lv_at hl 0 rfl) ?_
  refine lv_iload_n hx hb dX9_save_1 rfl (lv_at hl 1 rfl) ?_
  refine r_iconst (n := 0) hx hb dX9_save_2 ?_
  refine r_iconst (n := 1) hx hb dX9_save_3 ?_
  refine r_calli (va_runS (As := [.int (iI a0), .int (iI 0), .int (iI 1)]) (rest := [.ref (G.2.2.1 9 0)]) ⟨hx, hb, hml, hown, hts⟩ (m9_isIn l G _ st a0 0 1 h) (va_cwS 3 hts gX9_save_X9_isIn rfl rfl rfl hd9_isIn ⟨Nat.le_of_ble_eq_true rfl, Nat.le_of_ble_eq_true rfl⟩) (pre_S hK hX hI hA hS [.int (iI a0), .int (iI 0), .int (iI 1)]) rfl rfl hl.1 rfl (lv_room (Nat.le_of_ble_eq_true rfl)) dX9_save_4 ⟨Nat.le_of_ble_eq_true rfl, Nat.le_of_ble_eq_true rfl⟩) hS (fun z1 st2 h H locs hI hS => ?_)
  obtain ⟨g3, h⟩ := h
  refine r_if_eq (tgt := 14) hx hb dX9_save_7 (by decide) g3 (fun c4 => ?_) (fun c4 => ?_)
  · replace h := h.1 c4
    refine r_iconst (n := 1) hx hb dX9_save_14 ?_
    exact J15 st2 1 _ _ ls hI hS (lv_sub hl [0, 1] rfl) h
  · replace h := h.2 c4
    refine r_iconst (n := 0) hx hb dX9_save_10 ?_
    refine lv_goto (tgt := 15) hx hb dX9_save_11 (by decide) ?_
    exact J15 st2 0 _ _ ls hI hS (lv_sub hl [0, 1] rfl) h
theorem hd9_restore : yX9_restore.cls = RX9 ∧ yX9_restore.cls ≠ "java/lang/invoke/MethodHandle" ∧ yX9_restore.cls ≠ "java/lang/invoke/VarHandle" ∧ (parseMethodDescriptor yX9_restore.desc).map (fun d => d.parameters.length) = some 1 := by decide +kernel
set_option maxHeartbeats 4000000 in
set_option maxRecDepth 100000 in
theorem m9_restore (l : Launch) (G : WG)   (hv_this : vM 9 0) (Q : Int → St → Prop) (st : St) (a0 : Int) (h : f9_restore Q st a0) : Met l yX9_restore wsX9_restore ({ frames := 2, cells := 0, slots := 0, locals := 46 }) (PcM vM G st [.ref (G.2.2.1 9 0), .int (iI a0)]) (QiM vM G Q) 0 0 G.2.2.2.1 := by
  refine Met.ofW (cc := cX9_restore) (maxL := 2) (ret := (some .int)) (by decide) rfl ?_
  intro p e s m args below meth c s₁ B hml hvv
  obtain ⟨rfl, hA, hI, hK, hX⟩ := hvv
  have hx := B.exec
  have hb := B.bytes
  have hr := B.returns
  have hts := atoms_spec (ws := wsX9_restore) B.pre
  have hown : s.vm.findClass RX9 = some m.cls := findClass_of_methodNamed B.named
  have hlocks := B.notSynchronized
  have hS : va_S G.2.2.2.1 s.heap s.heap [] := va_S.rf
  have in9 : ∀ w ∈ wsX90, w ∈ wsX9_restore := by decide +kernel
  have lk_7 := hts (.fieldLink RX9 7 "BeamLinesModel" "a" "[I") (by decide +kernel)
  have lk_19 := hts (.fieldLink RX9 19 "BeamLinesModel" "saved" "[I") (by decide +kernel)
  have lk_22 := hts (.fieldLink RX9 22 "BeamLinesModel" "isSaved" "[Z") (by decide +kernel)
  have lk_46 := hts (.fieldLink RX9 46 "BeamLinesModel" "thrown" "I") (by decide +kernel)
  have hl := lv_entry ([.ref (G.2.2.1 9 0), .int (iI a0)]) (n := 2) (Nat.le_of_ble_eq_true rfl)
  rw [lg_entry_eq]
  generalize (lg_sl ([.ref (G.2.2.1 9 0), .int (iI a0)]) ++ List.replicate (2 - (lg_sl ([.ref (G.2.2.1 9 0), .int (iI a0)])).length) Slot.unset).toArray = ls at hl ⊢
  have hl : lv_has ls 2 [(0, .ref (G.2.2.1 9 0)), (1, .int (iI a0))] := hl
  have J28 : ∀ (st : St) (s0x28 : Int) (H : Heap) (locs : List Loc) (ls : Array Slot), Iv vM G st H → va_S G.2.2.2.1 s.heap H locs → lv_has ls 2 [(0, .ref (G.2.2.1 9 0)), (1, .int (iI a0))] → f9_restore_j28 Q a0 st s0x28 → W p l e (headSpec wsX9_restore ({ frames := 2, cells := 0, slots := 0, locals := 46 })).room s m ([.ref (G.2.2.1 9 0), .int (iI a0)] : List Value).toArray below meth c H locs 0 0 (MQ below (QiM vM G Q) ([.ref (G.2.2.1 9 0), .int (iI a0)] : List Value).toArray s 0 0 G.2.2.2.1) (F0 m 28 ls [.int (iI s0x28), .ref (G.2.2.1 9 0)]) := by
    intro st s0x28 H locs ls hI hS hl h
    unfold f9_restore_j28 at h
    refine pp_9_6 hx hb hts in9 hown hK hI hS hv_this lk_46 dX9_restore_28 (fun st9 hst9 H locs hI hS => ?_)
    replace h := h st9 hst9
    refine lv_aload_n hx hb dX9_restore_31 rfl (lv_at hl 0 rfl) ?_
    refine gg_9_6 hx hb hts in9 hown hK hI hv_this lk_46 dX9_restore_32 ?_
    obtain ⟨g10, h⟩ := h
    refine r_if_le (tgt := 40) hx hb dX9_restore_35 (by decide) g10 (fun c11 => ?_) (fun c11 => ?_)
    · replace h := h.1 c11
      refine lv_aload_n hx hb dX9_restore_40 rfl (lv_at hl 0 rfl) ?_
      refine lv_aload_n hx hb dX9_restore_41 rfl (lv_at hl 0 rfl) ?_
      refine gg_9_0 hx hb hts in9 hown hK hI hv_this lk_7 dX9_restore_42 ?_
      refine r_callv (va_runV (As := [.ref (G.2.2.1 30 0)]) (rest := []) ⟨hx, hb, hml, hown, hts⟩ (m9_keeps l G 0 hv_this (vrM_9_0 hv_this) _ st9 h) (cwV 1 hts gX9_restore_X9_keeps rfl rfl rfl hd9_keeps ⟨Nat.le_of_ble_eq_true rfl, Nat.le_of_ble_eq_true rfl⟩) (pre_V hK hX hI hA hS hv_this rfl rfl [.ref (G.2.2.1 30 0)]) rfl rfl hl.1 rfl (lv_room (Nat.le_of_ble_eq_true rfl)) dX9_restore_45 ⟨Nat.le_of_ble_eq_true rfl, Nat.le_of_ble_eq_true rfl⟩) hS (fun st13 h H locs hI hS => ?_)
      refine lv_aload_n hx hb dX9_restore_48 rfl (lv_at hl 0 rfl) ?_
      refine gg_9_0 hx hb hts in9 hown hK hI hv_this lk_7 dX9_restore_49 ?_
      refine r_iconst (n := 0) hx hb dX9_restore_52 ?_
      refine lv_aload_n hx hb dX9_restore_53 rfl (lv_at hl 0 rfl) ?_
      refine gg_9_3 hx hb hts in9 hown hK hI hv_this lk_19 dX9_restore_54 ?_
      refine r_bipush (n := 47) hx hb dX9_restore_57 rfl ?_
      refine lv_iload_n hx hb dX9_restore_59 rfl (lv_at hl 1 rfl) ?_
      refine r_imul hx hb dX9_restore_60 ?_
      refine r_callv (va_runS (As := [.ref (G.2.2.1 30 0), .int (iI 0), .ref (G.2.2.1 30 3), .int (iI (47 * a0))]) (rest := []) ⟨hx, hb, hml, hown, hts⟩ (m9_copies l G 0 3 (vrM_9_0 hv_this) (vrM_9_3 hv_this) _ st13 0 (47 * a0) h) (va_cwS 4 hts gX9_restore_X9_copies rfl rfl rfl hd9_copies ⟨Nat.le_of_ble_eq_true rfl, Nat.le_of_ble_eq_true rfl⟩) (pre_S hK hX hI hA hS [.ref (G.2.2.1 30 0), .int (iI 0), .ref (G.2.2.1 30 3), .int (iI (47 * a0))]) rfl rfl hl.1 rfl (lv_room (Nat.le_of_ble_eq_true rfl)) dX9_restore_61 ⟨Nat.le_of_ble_eq_true rfl, Nat.le_of_ble_eq_true rfl⟩) hS (fun st15 h H locs hI hS => ?_)
      refine lv_aload_n hx hb dX9_restore_64 rfl (lv_at hl 0 rfl) ?_
      refine gg_9_0 hx hb hts in9 hown hK hI hv_this lk_7 dX9_restore_65 ?_
      refine r_iconst (n := 2) hx hb dX9_restore_68 ?_
      refine r_iald hx hb hK hI (K := 30) (vrM_9_0 hv_this) rfl (mlen_le _) dX9_restore_69 (by decide) (by decide) ?_
      exact r_iret hx hb hr hlocks hK hI hS (Qp := Q) h dX9_restore_70
    · replace h := h.2 c11
      refine r_iconst (n := 0) hx hb dX9_restore_38 ?_
      exact r_iret hx hb hr hlocks hK hI hS (Qp := Q) h dX9_restore_39
  unfold f9_restore at h
  refine lv_aload_n hx hb dX9_restore_0 rfl (lv_at hl 0 rfl) ?_
  refine lv_iload_n hx hb dX9_restore_1 rfl (lv_at hl 1 rfl) ?_
  refine r_iconst (n := 0) hx hb dX9_restore_2 ?_
  refine r_iconst (n := 1) hx hb dX9_restore_3 ?_
  refine r_calli (va_runS (As := [.int (iI a0), .int (iI 0), .int (iI 1)]) (rest := [.ref (G.2.2.1 9 0)]) ⟨hx, hb, hml, hown, hts⟩ (m9_isIn l G _ st a0 0 1 h) (va_cwS 3 hts gX9_restore_X9_isIn rfl rfl rfl hd9_isIn ⟨Nat.le_of_ble_eq_true rfl, Nat.le_of_ble_eq_true rfl⟩) (pre_S hK hX hI hA hS [.int (iI a0), .int (iI 0), .int (iI 1)]) rfl rfl hl.1 rfl (lv_room (Nat.le_of_ble_eq_true rfl)) dX9_restore_4 ⟨Nat.le_of_ble_eq_true rfl, Nat.le_of_ble_eq_true rfl⟩) hS (fun z1 st2 h H locs hI hS => ?_)
  obtain ⟨g3, h⟩ := h
  refine r_if_ne (tgt := 14) hx hb dX9_restore_7 (by decide) g3 (fun c4 => ?_) (fun c4 => ?_)
  · replace h := h.2 c4
    refine lv_aload_n hx hb dX9_restore_14 rfl (lv_at hl 0 rfl) ?_
    refine gg_9_4 hx hb hts in9 hown hK hI hv_this lk_22 dX9_restore_15 ?_
    refine lv_iload_n hx hb dX9_restore_18 rfl (lv_at hl 1 rfl) ?_
    obtain ⟨g5, g6, h⟩ := h
    refine r_zald hx hb hK hI (K := 34) (vrM_9_4 hv_this) rfl (lts_mk rfl) dX9_restore_19 g5 g6 ?_
    obtain ⟨g7, h⟩ := h
    refine r_if_eq (tgt := 27) hx hb dX9_restore_20 (by decide) g7 (fun c8 => ?_) (fun c8 => ?_)
    · replace h := h.1 c8
      refine r_iconst (n := 2) hx hb dX9_restore_27 ?_
      exact J28 st2 2 _ _ ls hI hS (lv_sub hl [0, 1] rfl) h
    · replace h := h.2 c8
      refine r_iconst (n := 0) hx hb dX9_restore_23 ?_
      refine lv_goto (tgt := 28) hx hb dX9_restore_24 (by decide) ?_
      exact J28 st2 0 _ _ ls hI hS (lv_sub hl [0, 1] rfl) h
  · replace h := h.1 c4
    refine r_iconst (n := 1) hx hb dX9_restore_10 ?_
    refine lv_goto (tgt := 28) hx hb dX9_restore_11 (by decide) ?_
    exact J28 st2 1 _ _ ls hI hS (lv_sub hl [0, 1] rfl) h
theorem hd9_byteOf : yX9_byteOf.cls ≠ "java/lang/invoke/MethodHandle" ∧ yX9_byteOf.cls ≠ "java/lang/invoke/VarHandle" ∧ (parseMethodDescriptor yX9_byteOf.desc).map (fun d => d.parameters.length) = some 6 := by decide +kernel
set_option maxHeartbeats 4000000 in
set_option maxRecDepth 100000 in
theorem m9_byteOf (l : Launch) (G : WG)    (Q : Int → St → Prop) (st : St) (a0 : Int) (a1 : Int) (a2 : Int) (a3 : Int) (a4 : Int) (a5 : Int) (h : f9_byteOf Q st a0 a1 a2 a3 a4 a5) : Met l yX9_byteOf wsX9_byteOf ({ frames := 0, cells := 0, slots := 0, locals := 0 }) (PcM vM G st [.int (iI a0), .int (iI a1), .int (iI a2), .int (iI a3), .int (iI a4), .int (iI a5)]) (QiM vM G Q) 0 0 G.2.2.2.1 := by
  refine Met.ofW (cc := cX9_byteOf) (maxL := 7) (ret := (some .int)) (by decide) rfl ?_
  intro p e s m args below meth c s₁ B hml hvv
  obtain ⟨rfl, hA, hI, hK, hX⟩ := hvv
  have hx := B.exec
  have hb := B.bytes
  have hr := B.returns
  have hts := atoms_spec (ws := wsX9_byteOf) B.pre
  have hown : s.vm.findClass RX9 = some m.cls := findClass_of_methodNamed B.named
  have hlocks := B.notSynchronized
  have hS : va_S G.2.2.2.1 s.heap s.heap [] := va_S.rf
  have hl := lv_entry ([.int (iI a0), .int (iI a1), .int (iI a2), .int (iI a3), .int (iI a4), .int (iI a5)]) (n := 7) (Nat.le_of_ble_eq_true rfl)
  rw [lg_entry_eq]
  generalize (lg_sl ([.int (iI a0), .int (iI a1), .int (iI a2), .int (iI a3), .int (iI a4), .int (iI a5)]) ++ List.replicate (7 - (lg_sl ([.int (iI a0), .int (iI a1), .int (iI a2), .int (iI a3), .int (iI a4), .int (iI a5)])).length) Slot.unset).toArray = ls at hl ⊢
  have hl : lv_has ls 7 [(0, .int (iI a0)), (1, .int (iI a1)), (2, .int (iI a2)), (3, .int (iI a3)), (4, .int (iI a4)), (5, .int (iI a5))] := hl
  have J42 : ∀ (st : St) (s0x42 : Int) (H : Heap) (locs : List Loc) (ls : Array Slot), Iv vM G st H → va_S G.2.2.2.1 s.heap H locs → lv_has ls 7 [(0, .int (iI a0))] → f9_byteOf_j42 Q a0 st s0x42 → W p l e (headSpec wsX9_byteOf ({ frames := 0, cells := 0, slots := 0, locals := 0 })).room s m ([.int (iI a0), .int (iI a1), .int (iI a2), .int (iI a3), .int (iI a4), .int (iI a5)] : List Value).toArray below meth c H locs 0 0 (MQ below (QiM vM G Q) ([.int (iI a0), .int (iI a1), .int (iI a2), .int (iI a3), .int (iI a4), .int (iI a5)] : List Value).toArray s 0 0 G.2.2.2.1) (F0 m 42 ls [.int (iI s0x42)]) := by
    intro st s0x42 H locs ls hI hS hl h
    unfold f9_byteOf_j42 at h
    refine lv_istore (lv' := [(6, .int (iI s0x42)), (0, .int (iI a0))]) hx hb dX9_byteOf_42 hl (by decide) rfl (fun ls hl => ?_)
    refine lv_iload hx hb dX9_byteOf_44 (lv_at hl 0 rfl) ?_
    refine r_bipush (n := 24) hx hb dX9_byteOf_46 rfl ?_
    refine r_bipush (n := 8) hx hb dX9_byteOf_48 rfl ?_
    refine lv_iload_n hx hb dX9_byteOf_50 rfl (lv_at hl 1 rfl) ?_
    refine r_iconst (n := 4) hx hb dX9_byteOf_51 ?_
    obtain ⟨g9, h⟩ := h
    refine r_irem hx hb dX9_byteOf_52 g9 (inI_mk rfl) (by decide) ?_
    refine r_imul hx hb dX9_byteOf_53 ?_
    refine r_isub hx hb dX9_byteOf_54 ?_
    refine r_ishr hx hb dX9_byteOf_55 ?_
    refine r_sipush (n := 255) hx hb dX9_byteOf_56 rfl ?_
    refine r_iand hx hb dX9_byteOf_59 ?_
    exact r_iret hx hb hr hlocks hK hI hS (Qp := Q) h dX9_byteOf_60
  unfold f9_byteOf at h
  refine lv_iload_n hx hb dX9_byteOf_0 rfl (lv_at hl 0 rfl) ?_
  refine r_iconst (n := 4) hx hb dX9_byteOf_1 ?_
  obtain ⟨g1, h⟩ := h
  refine r_icmp_ge (tgt := 9) hx hb dX9_byteOf_2 (by decide) g1 (inI_mk rfl) (fun c2 => ?_) (fun c2 => ?_)
  · replace h := h.1 c2
    refine lv_iload_n hx hb dX9_byteOf_9 rfl (lv_at hl 0 rfl) ?_
    refine r_bipush (n := 8) hx hb dX9_byteOf_10 rfl ?_
    obtain ⟨g3, h⟩ := h
    refine r_icmp_ge (tgt := 19) hx hb dX9_byteOf_12 (by decide) g3 (inI_mk rfl) (fun c4 => ?_) (fun c4 => ?_)
    · replace h := h.1 c4
      refine lv_iload_n hx hb dX9_byteOf_19 rfl (lv_at hl 0 rfl) ?_
      refine r_bipush (n := 12) hx hb dX9_byteOf_20 rfl ?_
      obtain ⟨g5, h⟩ := h
      refine r_icmp_ge (tgt := 29) hx hb dX9_byteOf_22 (by decide) g5 (inI_mk rfl) (fun c6 => ?_) (fun c6 => ?_)
      · replace h := h.1 c6
        refine lv_iload_n hx hb dX9_byteOf_29 rfl (lv_at hl 0 rfl) ?_
        refine r_bipush (n := 16) hx hb dX9_byteOf_30 rfl ?_
        obtain ⟨g7, h⟩ := h
        refine r_icmp_ge (tgt := 40) hx hb dX9_byteOf_32 (by decide) g7 (inI_mk rfl) (fun c8 => ?_) (fun c8 => ?_)
        · replace h := h.1 c8
          refine lv_iload hx hb dX9_byteOf_40 (lv_at hl 5 rfl) ?_
          exact J42 st a5 _ _ ls hI hS (lv_sub hl [0] rfl) h
        · replace h := h.2 c8
          refine lv_iload hx hb dX9_byteOf_35 (lv_at hl 4 rfl) ?_
          refine lv_goto (tgt := 42) hx hb dX9_byteOf_37 (by decide) ?_
          exact J42 st a4 _ _ ls hI hS (lv_sub hl [0] rfl) h
      · replace h := h.2 c6
        refine lv_iload_n hx hb dX9_byteOf_25 rfl (lv_at hl 3 rfl) ?_
        refine lv_goto (tgt := 42) hx hb dX9_byteOf_26 (by decide) ?_
        exact J42 st a3 _ _ ls hI hS (lv_sub hl [0] rfl) h
    · replace h := h.2 c4
      refine lv_iload_n hx hb dX9_byteOf_15 rfl (lv_at hl 2 rfl) ?_
      refine lv_goto (tgt := 42) hx hb dX9_byteOf_16 (by decide) ?_
      exact J42 st a2 _ _ ls hI hS (lv_sub hl [0] rfl) h
  · replace h := h.2 c2
    refine lv_iload_n hx hb dX9_byteOf_5 rfl (lv_at hl 1 rfl) ?_
    refine lv_goto (tgt := 42) hx hb dX9_byteOf_6 (by decide) ?_
    exact J42 st a1 _ _ ls hI hS (lv_sub hl [0] rfl) h
theorem hd9_append : yX9_append.cls = RX9 ∧ yX9_append.cls ≠ "java/lang/invoke/MethodHandle" ∧ yX9_append.cls ≠ "java/lang/invoke/VarHandle" ∧ (parseMethodDescriptor yX9_append.desc).map (fun d => d.parameters.length) = some 5 := by decide +kernel
set_option maxHeartbeats 4000000 in
set_option maxRecDepth 100000 in
theorem m9_append (l : Launch) (G : WG)   (hv_this : vM 9 0) (Q : Int → St → Prop) (st : St) (a0 : Int) (a1 : Int) (a2 : Int) (a3 : Int) (a4 : Int) (h : f9_append Q st a0 a1 a2 a3 a4) : Met l yX9_append wsX9_append ({ frames := 1, cells := 0, slots := 0, locals := 26 }) (PcM vM G st [.ref (G.2.2.1 9 0), .int (iI a0), .int (iI a1), .int (iI a2), .int (iI a3), .int (iI a4)]) (QiM vM G Q) 0 0 G.2.2.2.1 := by
  refine Met.ofW (cc := cX9_append) (maxL := 9) (ret := (some .int)) (by decide) rfl ?_
  intro p e s m args below meth c s₁ B hml hvv
  obtain ⟨rfl, hA, hI, hK, hX⟩ := hvv
  have hx := B.exec
  have hb := B.bytes
  have hr := B.returns
  have hts := atoms_spec (ws := wsX9_append) B.pre
  have hown : s.vm.findClass RX9 = some m.cls := findClass_of_methodNamed B.named
  have hlocks := B.notSynchronized
  have hS : va_S G.2.2.2.1 s.heap s.heap [] := va_S.rf
  have in9 : ∀ w ∈ wsX90, w ∈ wsX9_append := by decide +kernel
  have lk_26 := hts (.fieldLink RX9 26 "BeamLinesModel" "buffer" "[I") (by decide +kernel)
  have lk_46 := hts (.fieldLink RX9 46 "BeamLinesModel" "thrown" "I") (by decide +kernel)
  have lk_68 := hts (.fieldLink RX9 68 "BeamLinesModel" "buffered" "I") (by decide +kernel)
  have hl := lv_entry ([.ref (G.2.2.1 9 0), .int (iI a0), .int (iI a1), .int (iI a2), .int (iI a3), .int (iI a4)]) (n := 9) (Nat.le_of_ble_eq_true rfl)
  rw [lg_entry_eq]
  generalize (lg_sl ([.ref (G.2.2.1 9 0), .int (iI a0), .int (iI a1), .int (iI a2), .int (iI a3), .int (iI a4)]) ++ List.replicate (9 - (lg_sl ([.ref (G.2.2.1 9 0), .int (iI a0), .int (iI a1), .int (iI a2), .int (iI a3), .int (iI a4)])).length) Slot.unset).toArray = ls at hl ⊢
  have hl : lv_has ls 9 [(0, .ref (G.2.2.1 9 0)), (1, .int (iI a0)), (2, .int (iI a1)), (3, .int (iI a2)), (4, .int (iI a3)), (5, .int (iI a4))] := hl
  have L78 : ∀ (n78 : Nat), ∀ (st : St) (v7x78 : Int) (H : Heap) (locs : List Loc) (ls : Array Slot), Iv vM G st H → va_S G.2.2.2.1 s.heap H locs → lv_has ls 9 [(0, .ref (G.2.2.1 9 0)), (1, .int (iI a0)), (2, .int (iI a1)), (3, .int (iI a2)), (4, .int (iI a3)), (5, .int (iI a4)), (7, .int (iI v7x78))] → f9_append_l78 Q a0 a1 a2 a3 a4 n78 st v7x78 → W p l e (headSpec wsX9_append ({ frames := 1, cells := 0, slots := 0, locals := 26 })).room s m ([.ref (G.2.2.1 9 0), .int (iI a0), .int (iI a1), .int (iI a2), .int (iI a3), .int (iI a4)] : List Value).toArray below meth c H locs 0 0 (MQ below (QiM vM G Q) ([.ref (G.2.2.1 9 0), .int (iI a0), .int (iI a1), .int (iI a2), .int (iI a3), .int (iI a4)] : List Value).toArray s 0 0 G.2.2.2.1) (F0 m 78 ls []) := by
    intro n78
    induction n78 with
    | zero =>
      intro st v7x78 H locs ls hI hS hl h
      exact h.elim
    | succ n78 ih78 =>
      have J128 : ∀ (st : St) (v7x128 : Int) (H : Heap) (locs : List Loc) (ls : Array Slot), Iv vM G st H → va_S G.2.2.2.1 s.heap H locs → lv_has ls 9 [(0, .ref (G.2.2.1 9 0)), (1, .int (iI a0)), (2, .int (iI a1)), (3, .int (iI a2)), (4, .int (iI a3)), (5, .int (iI a4)), (7, .int (iI v7x128))] → f9_append_j128 (fun st v7x78 => f9_append_l78 Q a0 a1 a2 a3 a4 n78 st v7x78) Q a0 a1 a2 a3 a4 st v7x128 → W p l e (headSpec wsX9_append ({ frames := 1, cells := 0, slots := 0, locals := 26 })).room s m ([.ref (G.2.2.1 9 0), .int (iI a0), .int (iI a1), .int (iI a2), .int (iI a3), .int (iI a4)] : List Value).toArray below meth c H locs 0 0 (MQ below (QiM vM G Q) ([.ref (G.2.2.1 9 0), .int (iI a0), .int (iI a1), .int (iI a2), .int (iI a3), .int (iI a4)] : List Value).toArray s 0 0 G.2.2.2.1) (F0 m 128 ls []) := by
        intro st v7x128 H locs ls hI hS hl h
        unfold f9_append_j128 at h
        obtain ⟨x24, hx24⟩ : ∃ z : Int, z = v7x128 + 1 := ⟨_, rfl⟩
        replace h := h x24 hx24
        refine lv_iinc (v := iI x24) (lv' := [(7, .int (iI x24)), (0, .ref (G.2.2.1 9 0)), (1, .int (iI a0)), (2, .int (iI a1)), (3, .int (iI a2)), (4, .int (iI a3)), (5, .int (iI a4))]) hx hb dX9_append_128 hl (k := 6) rfl (by rw [hx24]; exact iI_add _ _) (by decide) rfl (fun ls hl => ?_)
        refine lv_goto (tgt := 78) hx hb dX9_append_131 (by decide) ?_
        exact ih78 st x24 _ _ ls hI hS (lv_sub hl [1, 2, 3, 4, 5, 6, 0] rfl) h
      intro st v7x78 H locs ls hI hS hl h
      unfold f9_append_l78 at h
      refine lv_iload hx hb dX9_append_78 (lv_at hl 6 rfl) ?_
      refine r_bipush (n := 20) hx hb dX9_append_80 rfl ?_
      obtain ⟨g14, h⟩ := h
      refine r_icmp_ge (tgt := 134) hx hb dX9_append_82 (by decide) g14 (inI_mk rfl) (fun c15 => ?_) (fun c15 => ?_)
      · replace h := h.1 c15
        refine lv_aload_n hx hb dX9_append_134 rfl (lv_at hl 0 rfl) ?_
        refine gg_9_8 hx hb hts in9 hown hK hI hv_this lk_68 dX9_append_135 ?_
        exact r_iret hx hb hr hlocks hK hI hS (Qp := Q) h dX9_append_138
      · replace h := h.2 c15
        refine lv_iload hx hb dX9_append_85 (lv_at hl 6 rfl) ?_
        refine lv_iload_n hx hb dX9_append_87 rfl (lv_at hl 1 rfl) ?_
        refine lv_iload_n hx hb dX9_append_88 rfl (lv_at hl 2 rfl) ?_
        refine lv_iload_n hx hb dX9_append_89 rfl (lv_at hl 3 rfl) ?_
        refine lv_iload hx hb dX9_append_90 (lv_at hl 4 rfl) ?_
        refine lv_iload hx hb dX9_append_92 (lv_at hl 5 rfl) ?_
        refine r_calli (va_runS (As := [.int (iI v7x78), .int (iI a0), .int (iI a1), .int (iI a2), .int (iI a3), .int (iI a4)]) (rest := []) ⟨hx, hb, hml, hown, hts⟩ (m9_byteOf l G _ st v7x78 a0 a1 a2 a3 a4 h) (va_cwS 6 hts gX9_append_X9_byteOf rfl rfl rfl hd9_byteOf ⟨Nat.le_of_ble_eq_true rfl, Nat.le_of_ble_eq_true rfl⟩) (pre_S hK hX hI hA hS [.int (iI v7x78), .int (iI a0), .int (iI a1), .int (iI a2), .int (iI a3), .int (iI a4)]) rfl rfl hl.1 rfl (lv_room (Nat.le_of_ble_eq_true rfl)) dX9_append_94 ⟨Nat.le_of_ble_eq_true rfl, Nat.le_of_ble_eq_true rfl⟩) hS (fun z16 st17 h H locs hI hS => ?_)
        refine lv_istore (lv' := [(8, .int (iI z16)), (0, .ref (G.2.2.1 9 0)), (1, .int (iI a0)), (2, .int (iI a1)), (3, .int (iI a2)), (4, .int (iI a3)), (5, .int (iI a4)), (7, .int (iI v7x78))]) hx hb dX9_append_97 hl (by decide) rfl (fun ls hl => ?_)
        refine lv_iload hx hb dX9_append_99 (lv_at hl 0 rfl) ?_
        obtain ⟨g18, h⟩ := h
        refine r_if_ne (tgt := 107) hx hb dX9_append_101 (by decide) g18 (fun c19 => ?_) (fun c19 => ?_)
        · replace h := h.2 c19
          refine lv_aload_n hx hb dX9_append_107 rfl (lv_at hl 1 rfl) ?_
          refine gg_9_7 hx hb hts in9 hown hK hI hv_this lk_26 dX9_append_108 ?_
          refine lv_aload_n hx hb dX9_append_111 rfl (lv_at hl 1 rfl) ?_
          refine gg_9_8 hx hb hts in9 hown hK hI hv_this lk_68 dX9_append_112 ?_
          refine lv_iload hx hb dX9_append_115 (lv_at hl 0 rfl) ?_
          obtain ⟨g20, g21, h⟩ := h
          refine r_iast hx hb hK hI hS (K := 30) (vrM_9_7 hv_this) (fun _ => rfl) (mlen_le _) dX9_append_117 g20 g21 (fun st22 hst22 H locs hI hS => ?_)
          replace h := h st22 hst22
          refine lv_aload_n hx hb dX9_append_118 rfl (lv_at hl 1 rfl) ?_
          refine lv_dup hx hb dX9_append_119 rfl ?_
          refine gg_9_8 hx hb hts in9 hown hK hI hv_this lk_68 dX9_append_120 ?_
          refine r_iconst (n := 1) hx hb dX9_append_123 ?_
          refine r_iadd hx hb dX9_append_124 ?_
          refine pp_9_8 hx hb hts in9 hown hK hI hS hv_this lk_68 dX9_append_125 (fun st23 hst23 H locs hI hS => ?_)
          replace h := h st23 hst23
          exact J128 st23 v7x78 _ _ ls hI hS (lv_sub hl [1, 2, 3, 4, 5, 6, 7] rfl) h
        · replace h := h.1 c19
          refine lv_goto (tgt := 128) hx hb dX9_append_104 (by decide) ?_
          exact J128 st17 v7x78 _ _ ls hI hS (lv_sub hl [1, 2, 3, 4, 5, 6, 7] rfl) h
  have J63 : ∀ (st : St) (s0x63 : Int) (H : Heap) (locs : List Loc) (ls : Array Slot), Iv vM G st H → va_S G.2.2.2.1 s.heap H locs → lv_has ls 9 [(0, .ref (G.2.2.1 9 0)), (1, .int (iI a0)), (2, .int (iI a1)), (3, .int (iI a2)), (4, .int (iI a3)), (5, .int (iI a4))] → f9_append_j63 Q a0 a1 a2 a3 a4 st s0x63 → W p l e (headSpec wsX9_append ({ frames := 1, cells := 0, slots := 0, locals := 26 })).room s m ([.ref (G.2.2.1 9 0), .int (iI a0), .int (iI a1), .int (iI a2), .int (iI a3), .int (iI a4)] : List Value).toArray below meth c H locs 0 0 (MQ below (QiM vM G Q) ([.ref (G.2.2.1 9 0), .int (iI a0), .int (iI a1), .int (iI a2), .int (iI a3), .int (iI a4)] : List Value).toArray s 0 0 G.2.2.2.1) (F0 m 63 ls [.int (iI s0x63), .ref (G.2.2.1 9 0)]) := by
    intro st s0x63 H locs ls hI hS hl h
    unfold f9_append_j63 at h
    refine pp_9_6 hx hb hts in9 hown hK hI hS hv_this lk_46 dX9_append_63 (fun st11 hst11 H locs hI hS => ?_)
    replace h := h st11 hst11
    refine lv_aload_n hx hb dX9_append_66 rfl (lv_at hl 0 rfl) ?_
    refine gg_9_6 hx hb hts in9 hown hK hI hv_this lk_46 dX9_append_67 ?_
    obtain ⟨g12, h⟩ := h
    refine r_if_le (tgt := 75) hx hb dX9_append_70 (by decide) g12 (fun c13 => ?_) (fun c13 => ?_)
    · replace h := h.1 c13
      refine r_iconst (n := 0) hx hb dX9_append_75 ?_
      refine lv_istore (lv' := [(7, .int (iI 0)), (0, .ref (G.2.2.1 9 0)), (1, .int (iI a0)), (2, .int (iI a1)), (3, .int (iI a2)), (4, .int (iI a3)), (5, .int (iI a4))]) hx hb dX9_append_76 hl (by decide) rfl (fun ls hl => ?_)
      obtain ⟨kk, h⟩ := h
      exact L78 kk st11 0 _ _ ls hI hS (lv_sub hl [1, 2, 3, 4, 5, 6, 0] rfl) h
    · replace h := h.2 c13
      refine r_iconst (n := 0) hx hb dX9_append_73 ?_
      exact r_iret hx hb hr hlocks hK hI hS (Qp := Q) h dX9_append_74
  have L6 : ∀ (n6 : Nat), ∀ (st : St) (v6x6 : Int) (v7x6 : Int) (H : Heap) (locs : List Loc) (ls : Array Slot), Iv vM G st H → va_S G.2.2.2.1 s.heap H locs → lv_has ls 9 [(0, .ref (G.2.2.1 9 0)), (1, .int (iI a0)), (2, .int (iI a1)), (3, .int (iI a2)), (4, .int (iI a3)), (5, .int (iI a4)), (6, .int (iI v6x6)), (7, .int (iI v7x6))] → f9_append_l6 Q a0 a1 a2 a3 a4 n6 st v6x6 v7x6 → W p l e (headSpec wsX9_append ({ frames := 1, cells := 0, slots := 0, locals := 26 })).room s m ([.ref (G.2.2.1 9 0), .int (iI a0), .int (iI a1), .int (iI a2), .int (iI a3), .int (iI a4)] : List Value).toArray below meth c H locs 0 0 (MQ below (QiM vM G Q) ([.ref (G.2.2.1 9 0), .int (iI a0), .int (iI a1), .int (iI a2), .int (iI a3), .int (iI a4)] : List Value).toArray s 0 0 G.2.2.2.1) (F0 m 6 ls []) := by
    intro n6
    induction n6 with
    | zero =>
      intro st v6x6 v7x6 H locs ls hI hS hl h
      exact h.elim
    | succ n6 ih6 =>
      have J35 : ∀ (st : St) (v7x35 : Int) (s0x35 : Int) (s1x35 : Int) (H : Heap) (locs : List Loc) (ls : Array Slot), Iv vM G st H → va_S G.2.2.2.1 s.heap H locs → lv_has ls 9 [(0, .ref (G.2.2.1 9 0)), (1, .int (iI a0)), (2, .int (iI a1)), (3, .int (iI a2)), (4, .int (iI a3)), (5, .int (iI a4)), (7, .int (iI v7x35))] → f9_append_j35 (fun st v6x6 v7x6 => f9_append_l6 Q a0 a1 a2 a3 a4 n6 st v6x6 v7x6) Q a0 a1 a2 a3 a4 st v7x35 s0x35 s1x35 → W p l e (headSpec wsX9_append ({ frames := 1, cells := 0, slots := 0, locals := 26 })).room s m ([.ref (G.2.2.1 9 0), .int (iI a0), .int (iI a1), .int (iI a2), .int (iI a3), .int (iI a4)] : List Value).toArray below meth c H locs 0 0 (MQ below (QiM vM G Q) ([.ref (G.2.2.1 9 0), .int (iI a0), .int (iI a1), .int (iI a2), .int (iI a3), .int (iI a4)] : List Value).toArray s 0 0 G.2.2.2.1) (F0 m 35 ls [.int (iI s0x35), .int (iI s1x35)]) := by
        intro st v7x35 s0x35 s1x35 H locs ls hI hS hl h
        unfold f9_append_j35 at h
        refine r_iadd hx hb dX9_append_35 ?_
        refine r_topi (fun x9 hx9 => ?_)
        replace h := h x9 hx9
        refine lv_istore (lv' := [(6, .int (iI x9)), (0, .ref (G.2.2.1 9 0)), (1, .int (iI a0)), (2, .int (iI a1)), (3, .int (iI a2)), (4, .int (iI a3)), (5, .int (iI a4)), (7, .int (iI v7x35))]) hx hb dX9_append_36 hl (by decide) rfl (fun ls hl => ?_)
        obtain ⟨x10, hx10⟩ : ∃ z : Int, z = v7x35 + 1 := ⟨_, rfl⟩
        replace h := h x10 hx10
        refine lv_iinc (v := iI x10) (lv' := [(7, .int (iI x10)), (6, .int (iI x9)), (0, .ref (G.2.2.1 9 0)), (1, .int (iI a0)), (2, .int (iI a1)), (3, .int (iI a2)), (4, .int (iI a3)), (5, .int (iI a4))]) hx hb dX9_append_38 hl (k := 7) rfl (by rw [hx10]; exact iI_add _ _) (by decide) rfl (fun ls hl => ?_)
        refine lv_goto (tgt := 6) hx hb dX9_append_41 (by decide) ?_
        exact ih6 st x9 x10 _ _ ls hI hS (lv_sub hl [2, 3, 4, 5, 6, 7, 1, 0] rfl) h
      intro st v6x6 v7x6 H locs ls hI hS hl h
      unfold f9_append_l6 at h
      refine lv_iload hx hb dX9_append_6 (lv_at hl 7 rfl) ?_
      refine r_bipush (n := 20) hx hb dX9_append_8 rfl ?_
      obtain ⟨g1, h⟩ := h
      refine r_icmp_ge (tgt := 44) hx hb dX9_append_10 (by decide) g1 (inI_mk rfl) (fun c2 => ?_) (fun c2 => ?_)
      · replace h := h.1 c2
        refine lv_aload_n hx hb dX9_append_44 rfl (lv_at hl 0 rfl) ?_
        refine lv_aload_n hx hb dX9_append_45 rfl (lv_at hl 0 rfl) ?_
        refine gg_9_8 hx hb hts in9 hown hK hI hv_this lk_68 dX9_append_46 ?_
        refine lv_iload hx hb dX9_append_49 (lv_at hl 6 rfl) ?_
        refine r_iadd hx hb dX9_append_51 ?_
        refine r_sipush (n := 500) hx hb dX9_append_52 rfl ?_
        obtain ⟨g3, h⟩ := h
        refine r_icmp_le (tgt := 62) hx hb dX9_append_55 (by decide) g3 (inI_mk rfl) (fun c4 => ?_) (fun c4 => ?_)
        · replace h := h.1 c4
          refine r_iconst (n := 0) hx hb dX9_append_62 ?_
          exact J63 st 0 _ _ ls hI hS (lv_sub hl [0, 1, 2, 3, 4, 5] rfl) h
        · replace h := h.2 c4
          refine r_iconst (n := 1) hx hb dX9_append_58 ?_
          refine lv_goto (tgt := 63) hx hb dX9_append_59 (by decide) ?_
          exact J63 st 1 _ _ ls hI hS (lv_sub hl [0, 1, 2, 3, 4, 5] rfl) h
      · replace h := h.2 c2
        refine lv_iload hx hb dX9_append_13 (lv_at hl 6 rfl) ?_
        refine lv_iload hx hb dX9_append_15 (lv_at hl 7 rfl) ?_
        refine lv_iload_n hx hb dX9_append_17 rfl (lv_at hl 1 rfl) ?_
        refine lv_iload_n hx hb dX9_append_18 rfl (lv_at hl 2 rfl) ?_
        refine lv_iload_n hx hb dX9_append_19 rfl (lv_at hl 3 rfl) ?_
        refine lv_iload hx hb dX9_append_20 (lv_at hl 4 rfl) ?_
        refine lv_iload hx hb dX9_append_22 (lv_at hl 5 rfl) ?_
        refine r_calli (va_runS (As := [.int (iI v7x6), .int (iI a0), .int (iI a1), .int (iI a2), .int (iI a3), .int (iI a4)]) (rest := [.int (iI v6x6)]) ⟨hx, hb, hml, hown, hts⟩ (m9_byteOf l G _ st v7x6 a0 a1 a2 a3 a4 h) (va_cwS 6 hts gX9_append_X9_byteOf rfl rfl rfl hd9_byteOf ⟨Nat.le_of_ble_eq_true rfl, Nat.le_of_ble_eq_true rfl⟩) (pre_S hK hX hI hA hS [.int (iI v7x6), .int (iI a0), .int (iI a1), .int (iI a2), .int (iI a3), .int (iI a4)]) rfl rfl hl.1 rfl (lv_room (Nat.le_of_ble_eq_true rfl)) dX9_append_24 ⟨Nat.le_of_ble_eq_true rfl, Nat.le_of_ble_eq_true rfl⟩) hS (fun z5 st6 h H locs hI hS => ?_)
        obtain ⟨g7, h⟩ := h
        refine r_if_ne (tgt := 34) hx hb dX9_append_27 (by decide) g7 (fun c8 => ?_) (fun c8 => ?_)
        · replace h := h.2 c8
          refine r_iconst (n := 1) hx hb dX9_append_34 ?_
          exact J35 st6 v7x6 1 v6x6 _ _ ls hI hS (lv_sub hl [0, 1, 2, 3, 4, 5, 7] rfl) h
        · replace h := h.1 c8
          refine r_iconst (n := 0) hx hb dX9_append_30 ?_
          refine lv_goto (tgt := 35) hx hb dX9_append_31 (by decide) ?_
          exact J35 st6 v7x6 0 v6x6 _ _ ls hI hS (lv_sub hl [0, 1, 2, 3, 4, 5, 7] rfl) h
  unfold f9_append at h
  refine r_iconst (n := 0) hx hb dX9_append_0 ?_
  refine lv_istore (lv' := [(6, .int (iI 0)), (0, .ref (G.2.2.1 9 0)), (1, .int (iI a0)), (2, .int (iI a1)), (3, .int (iI a2)), (4, .int (iI a3)), (5, .int (iI a4))]) hx hb dX9_append_1 hl (by decide) rfl (fun ls hl => ?_)
  refine r_iconst (n := 0) hx hb dX9_append_3 ?_
  refine lv_istore (lv' := [(7, .int (iI 0)), (6, .int (iI 0)), (0, .ref (G.2.2.1 9 0)), (1, .int (iI a0)), (2, .int (iI a1)), (3, .int (iI a2)), (4, .int (iI a3)), (5, .int (iI a4))]) hx hb dX9_append_4 hl (by decide) rfl (fun ls hl => ?_)
  obtain ⟨kk, h⟩ := h
  exact L6 kk st 0 0 _ _ ls hI hS (lv_sub hl [2, 3, 4, 5, 6, 7, 1, 0] rfl) h
theorem hd9_see : yX9_see.cls = RX9 ∧ yX9_see.cls ≠ "java/lang/invoke/MethodHandle" ∧ yX9_see.cls ≠ "java/lang/invoke/VarHandle" ∧ (parseMethodDescriptor yX9_see.desc).map (fun d => d.parameters.length) = some 1 := by decide +kernel
set_option maxHeartbeats 4000000 in
set_option maxRecDepth 100000 in
theorem m9_see (l : Launch) (G : WG)   (hv_this : vM 9 0) (Q : Int → St → Prop) (st : St) (a0 : Int) (h : f9_see Q st a0) : Met l yX9_see wsX9_see ({ frames := 0, cells := 0, slots := 0, locals := 0 }) (PcM vM G st [.ref (G.2.2.1 9 0), .int (iI a0)]) (QiM vM G Q) 0 0 G.2.2.2.1 := by
  refine Met.ofW (cc := cX9_see) (maxL := 2) (ret := (some .int)) (by decide) rfl ?_
  intro p e s m args below meth c s₁ B hml hvv
  obtain ⟨rfl, hA, hI, hK, hX⟩ := hvv
  have hx := B.exec
  have hb := B.bytes
  have hr := B.returns
  have hts := atoms_spec (ws := wsX9_see) B.pre
  have hown : s.vm.findClass RX9 = some m.cls := findClass_of_methodNamed B.named
  have hlocks := B.notSynchronized
  have hS : va_S G.2.2.2.1 s.heap s.heap [] := va_S.rf
  have in9 : ∀ w ∈ wsX90, w ∈ wsX9_see := by decide +kernel
  have lk_26 := hts (.fieldLink RX9 26 "BeamLinesModel" "buffer" "[I") (by decide +kernel)
  have lk_68 := hts (.fieldLink RX9 68 "BeamLinesModel" "buffered" "I") (by decide +kernel)
  have hl := lv_entry ([.ref (G.2.2.1 9 0), .int (iI a0)]) (n := 2) (Nat.le_of_ble_eq_true rfl)
  rw [lg_entry_eq]
  generalize (lg_sl ([.ref (G.2.2.1 9 0), .int (iI a0)]) ++ List.replicate (2 - (lg_sl ([.ref (G.2.2.1 9 0), .int (iI a0)])).length) Slot.unset).toArray = ls at hl ⊢
  have hl : lv_has ls 2 [(0, .ref (G.2.2.1 9 0)), (1, .int (iI a0))] := hl
  unfold f9_see at h
  refine lv_iload_n hx hb dX9_see_0 rfl (lv_at hl 1 rfl) ?_
  refine lv_aload_n hx hb dX9_see_1 rfl (lv_at hl 0 rfl) ?_
  refine gg_9_8 hx hb hts in9 hown hK hI hv_this lk_68 dX9_see_2 ?_
  obtain ⟨g1, h⟩ := h
  obtain ⟨g2, h⟩ := h
  refine r_icmp_ge (tgt := 17) hx hb dX9_see_5 (by decide) g1 g2 (fun c3 => ?_) (fun c3 => ?_)
  · replace h := h.1 c3
    refine r_iconst (n := (-1)) hx hb dX9_see_17 ?_
    exact r_iret hx hb hr hlocks hK hI hS (Qp := Q) h dX9_see_18
  · replace h := h.2 c3
    refine lv_aload_n hx hb dX9_see_8 rfl (lv_at hl 0 rfl) ?_
    refine gg_9_7 hx hb hts in9 hown hK hI hv_this lk_26 dX9_see_9 ?_
    refine lv_iload_n hx hb dX9_see_12 rfl (lv_at hl 1 rfl) ?_
    obtain ⟨g4, g5, h⟩ := h
    refine r_iald hx hb hK hI (K := 30) (vrM_9_7 hv_this) rfl (mlen_le _) dX9_see_13 g4 g5 ?_
    refine lv_goto (tgt := 18) hx hb dX9_see_14 (by decide) ?_
    exact r_iret hx hb hr hlocks hK hI hS (Qp := Q) h dX9_see_18
theorem hd9_isLetter : yX9_isLetter.cls = RX9 ∧ yX9_isLetter.cls ≠ "java/lang/invoke/MethodHandle" ∧ yX9_isLetter.cls ≠ "java/lang/invoke/VarHandle" ∧ (parseMethodDescriptor yX9_isLetter.desc).map (fun d => d.parameters.length) = some 1 := by decide +kernel
set_option maxHeartbeats 4000000 in
set_option maxRecDepth 100000 in
theorem m9_isLetter (l : Launch) (G : WG)   (hv_this : vM 9 0) (Q : Int → St → Prop) (st : St) (a0 : Int) (h : f9_isLetter Q st a0) : Met l yX9_isLetter wsX9_isLetter ({ frames := 1, cells := 0, slots := 0, locals := 22 }) (PcM vM G st [.ref (G.2.2.1 9 0), .int (iI a0)]) (QiM vM G Q) 0 0 G.2.2.2.1 := by
  refine Met.ofW (cc := cX9_isLetter) (maxL := 2) (ret := (some .boolean)) (by decide) rfl ?_
  intro p e s m args below meth c s₁ B hml hvv
  obtain ⟨rfl, hA, hI, hK, hX⟩ := hvv
  have hx := B.exec
  have hb := B.bytes
  have hr := B.returns
  have hts := atoms_spec (ws := wsX9_isLetter) B.pre
  have hown : s.vm.findClass RX9 = some m.cls := findClass_of_methodNamed B.named
  have hlocks := B.notSynchronized
  have hS : va_S G.2.2.2.1 s.heap s.heap [] := va_S.rf
  have hl := lv_entry ([.ref (G.2.2.1 9 0), .int (iI a0)]) (n := 2) (Nat.le_of_ble_eq_true rfl)
  rw [lg_entry_eq]
  generalize (lg_sl ([.ref (G.2.2.1 9 0), .int (iI a0)]) ++ List.replicate (2 - (lg_sl ([.ref (G.2.2.1 9 0), .int (iI a0)])).length) Slot.unset).toArray = ls at hl ⊢
  have hl : lv_has ls 2 [(0, .ref (G.2.2.1 9 0)), (1, .int (iI a0))] := hl
  unfold f9_isLetter at h
  refine lv_aload_n hx hb dX9_isLetter_0 rfl (lv_at hl 0 rfl) ?_
  refine lv_iload_n hx hb dX9_isLetter_1 rfl (lv_at hl 1 rfl) ?_
  refine r_calli (va_runV (As := [.int (iI a0)]) (rest := []) ⟨hx, hb, hml, hown, hts⟩ (m9_see l G hv_this _ st a0 h) (cwV 1 hts gX9_isLetter_X9_see rfl rfl rfl hd9_see ⟨Nat.le_of_ble_eq_true rfl, Nat.le_of_ble_eq_true rfl⟩) (pre_V hK hX hI hA hS hv_this rfl rfl [.int (iI a0)]) rfl rfl hl.1 rfl (lv_room (Nat.le_of_ble_eq_true rfl)) dX9_isLetter_2 ⟨Nat.le_of_ble_eq_true rfl, Nat.le_of_ble_eq_true rfl⟩) hS (fun z1 st2 h H locs hI hS => ?_)
  refine r_bipush (n := 97) hx hb dX9_isLetter_5 rfl ?_
  refine r_bipush (n := 122) hx hb dX9_isLetter_7 rfl ?_
  refine r_calli (va_runS (As := [.int (iI z1), .int (iI 97), .int (iI 122)]) (rest := []) ⟨hx, hb, hml, hown, hts⟩ (m9_isIn l G _ st2 z1 97 122 h) (va_cwS 3 hts gX9_isLetter_X9_isIn rfl rfl rfl hd9_isIn ⟨Nat.le_of_ble_eq_true rfl, Nat.le_of_ble_eq_true rfl⟩) (pre_S hK hX hI hA hS [.int (iI z1), .int (iI 97), .int (iI 122)]) rfl rfl hl.1 rfl (lv_room (Nat.le_of_ble_eq_true rfl)) dX9_isLetter_9 ⟨Nat.le_of_ble_eq_true rfl, Nat.le_of_ble_eq_true rfl⟩) hS (fun z3 st4 h H locs hI hS => ?_)
  obtain ⟨g5, h⟩ := h
  exact r_zret hx hb hr hlocks hK hI hS (Qp := Q) g5 h dX9_isLetter_12
theorem hd9_isDigit : yX9_isDigit.cls = RX9 ∧ yX9_isDigit.cls ≠ "java/lang/invoke/MethodHandle" ∧ yX9_isDigit.cls ≠ "java/lang/invoke/VarHandle" ∧ (parseMethodDescriptor yX9_isDigit.desc).map (fun d => d.parameters.length) = some 1 := by decide +kernel
set_option maxHeartbeats 4000000 in
set_option maxRecDepth 100000 in
theorem m9_isDigit (l : Launch) (G : WG)   (hv_this : vM 9 0) (Q : Int → St → Prop) (st : St) (a0 : Int) (h : f9_isDigit Q st a0) : Met l yX9_isDigit wsX9_isDigit ({ frames := 1, cells := 0, slots := 0, locals := 22 }) (PcM vM G st [.ref (G.2.2.1 9 0), .int (iI a0)]) (QiM vM G Q) 0 0 G.2.2.2.1 := by
  refine Met.ofW (cc := cX9_isDigit) (maxL := 2) (ret := (some .boolean)) (by decide) rfl ?_
  intro p e s m args below meth c s₁ B hml hvv
  obtain ⟨rfl, hA, hI, hK, hX⟩ := hvv
  have hx := B.exec
  have hb := B.bytes
  have hr := B.returns
  have hts := atoms_spec (ws := wsX9_isDigit) B.pre
  have hown : s.vm.findClass RX9 = some m.cls := findClass_of_methodNamed B.named
  have hlocks := B.notSynchronized
  have hS : va_S G.2.2.2.1 s.heap s.heap [] := va_S.rf
  have hl := lv_entry ([.ref (G.2.2.1 9 0), .int (iI a0)]) (n := 2) (Nat.le_of_ble_eq_true rfl)
  rw [lg_entry_eq]
  generalize (lg_sl ([.ref (G.2.2.1 9 0), .int (iI a0)]) ++ List.replicate (2 - (lg_sl ([.ref (G.2.2.1 9 0), .int (iI a0)])).length) Slot.unset).toArray = ls at hl ⊢
  have hl : lv_has ls 2 [(0, .ref (G.2.2.1 9 0)), (1, .int (iI a0))] := hl
  unfold f9_isDigit at h
  refine lv_aload_n hx hb dX9_isDigit_0 rfl (lv_at hl 0 rfl) ?_
  refine lv_iload_n hx hb dX9_isDigit_1 rfl (lv_at hl 1 rfl) ?_
  refine r_calli (va_runV (As := [.int (iI a0)]) (rest := []) ⟨hx, hb, hml, hown, hts⟩ (m9_see l G hv_this _ st a0 h) (cwV 1 hts gX9_isDigit_X9_see rfl rfl rfl hd9_see ⟨Nat.le_of_ble_eq_true rfl, Nat.le_of_ble_eq_true rfl⟩) (pre_V hK hX hI hA hS hv_this rfl rfl [.int (iI a0)]) rfl rfl hl.1 rfl (lv_room (Nat.le_of_ble_eq_true rfl)) dX9_isDigit_2 ⟨Nat.le_of_ble_eq_true rfl, Nat.le_of_ble_eq_true rfl⟩) hS (fun z1 st2 h H locs hI hS => ?_)
  refine r_bipush (n := 48) hx hb dX9_isDigit_5 rfl ?_
  refine r_bipush (n := 57) hx hb dX9_isDigit_7 rfl ?_
  refine r_calli (va_runS (As := [.int (iI z1), .int (iI 48), .int (iI 57)]) (rest := []) ⟨hx, hb, hml, hown, hts⟩ (m9_isIn l G _ st2 z1 48 57 h) (va_cwS 3 hts gX9_isDigit_X9_isIn rfl rfl rfl hd9_isIn ⟨Nat.le_of_ble_eq_true rfl, Nat.le_of_ble_eq_true rfl⟩) (pre_S hK hX hI hA hS [.int (iI z1), .int (iI 48), .int (iI 57)]) rfl rfl hl.1 rfl (lv_room (Nat.le_of_ble_eq_true rfl)) dX9_isDigit_9 ⟨Nat.le_of_ble_eq_true rfl, Nat.le_of_ble_eq_true rfl⟩) hS (fun z3 st4 h H locs hI hS => ?_)
  obtain ⟨g5, h⟩ := h
  exact r_zret hx hb hr hlocks hK hI hS (Qp := Q) g5 h dX9_isDigit_12
theorem hd9_next : yX9_next.cls = RX9 ∧ yX9_next.cls ≠ "java/lang/invoke/MethodHandle" ∧ yX9_next.cls ≠ "java/lang/invoke/VarHandle" ∧ (parseMethodDescriptor yX9_next.desc).map (fun d => d.parameters.length) = some 0 := by decide +kernel
set_option maxHeartbeats 4000000 in
set_option maxRecDepth 100000 in
theorem m9_next (l : Launch) (G : WG)   (hv_this : vM 9 0) (Q : St → Prop) (st : St)  (h : f9_next Q st) : Met l yX9_next wsX9_next ({ frames := 2, cells := 0, slots := 0, locals := 43 }) (PcM vM G st [.ref (G.2.2.1 9 0)]) (QvM vM G Q) 0 0 G.2.2.2.1 := by
  refine Met.ofW (cc := cX9_next) (maxL := 1) (ret := none) (by decide) rfl ?_
  intro p e s m args below meth c s₁ B hml hvv
  obtain ⟨rfl, hA, hI, hK, hX⟩ := hvv
  have hx := B.exec
  have hb := B.bytes
  have hr := B.returns
  have hts := atoms_spec (ws := wsX9_next) B.pre
  have hown : s.vm.findClass RX9 = some m.cls := findClass_of_methodNamed B.named
  have hlocks := B.notSynchronized
  have hS : va_S G.2.2.2.1 s.heap s.heap [] := va_S.rf
  have in9 : ∀ w ∈ wsX90, w ∈ wsX9_next := by decide +kernel
  have lk_68 := hts (.fieldLink RX9 68 "BeamLinesModel" "buffered" "I") (by decide +kernel)
  have lk_75 := hts (.fieldLink RX9 75 "BeamLinesModel" "behind" "I") (by decide +kernel)
  have lk_78 := hts (.fieldLink RX9 78 "BeamLinesModel" "at" "I") (by decide +kernel)
  have lk_81 := hts (.fieldLink RX9 81 "BeamLinesModel" "number" "I") (by decide +kernel)
  have lk_84 := hts (.fieldLink RX9 84 "BeamLinesModel" "kind" "I") (by decide +kernel)
  have ml_95 : (Cond.methodLink RX9 95 Lib.Math.min.name).before _ s = true ∧ (Cond.static Lib.Math.min.name).before _ s = true ∧ (Cond.initialized "java/lang/Math").before _ s = true ∧ (Cond.code Lib.Math.min.name Lib.Math.min.code 2 (some .int)).before _ s = true := ⟨hts _ (by decide +kernel), hts _ (by decide +kernel), hts _ (by decide +kernel), hts _ (by decide +kernel)⟩
  have kc_94 : (Jvm.Cond.constant RX9 94 (iI 10000000)).before _ s = true := hts (.constant RX9 94 10000000) (by decide +kernel)
  have hl := lv_entry ([.ref (G.2.2.1 9 0)]) (n := 1) (Nat.le_of_ble_eq_true rfl)
  rw [lg_entry_eq]
  generalize (lg_sl ([.ref (G.2.2.1 9 0)]) ++ List.replicate (1 - (lg_sl ([.ref (G.2.2.1 9 0)])).length) Slot.unset).toArray = ls at hl ⊢
  have hl : lv_has ls 1 [(0, .ref (G.2.2.1 9 0))] := hl
  have L120 : ∀ (n120 : Nat), ∀ (st : St) (H : Heap) (locs : List Loc) (ls : Array Slot), Iv vM G st H → va_S G.2.2.2.1 s.heap H locs → lv_has ls 1 [(0, .ref (G.2.2.1 9 0))] → f9_next_l120 Q n120 st → W p l e (headSpec wsX9_next ({ frames := 2, cells := 0, slots := 0, locals := 43 })).room s m ([.ref (G.2.2.1 9 0)] : List Value).toArray below meth c H locs 0 0 (MQ below (QvM vM G Q) ([.ref (G.2.2.1 9 0)] : List Value).toArray s 0 0 G.2.2.2.1) (F0 m 120 ls []) := by
    intro n120
    induction n120 with
    | zero =>
      intro st H locs ls hI hS hl h
      exact h.elim
    | succ n120 ih120 =>
      intro st H locs ls hI hS hl h
      unfold f9_next_l120 at h
      refine lv_aload_n hx hb dX9_next_120 rfl (lv_at hl 0 rfl) ?_
      refine lv_aload_n hx hb dX9_next_121 rfl (lv_at hl 0 rfl) ?_
      refine gg_9_10 hx hb hts in9 hown hK hI hv_this lk_75 dX9_next_122 ?_
      refine r_calli (va_runV (As := [.int (iI (st 9 10 0 0))]) (rest := []) ⟨hx, hb, hml, hown, hts⟩ (m9_isDigit l G hv_this _ st (st 9 10 0 0) h) (cwV 1 hts gX9_next_X9_isDigit rfl rfl rfl hd9_isDigit ⟨Nat.le_of_ble_eq_true rfl, Nat.le_of_ble_eq_true rfl⟩) (pre_V hK hX hI hA hS hv_this rfl rfl [.int (iI (st 9 10 0 0))]) rfl rfl hl.1 rfl (lv_room (Nat.le_of_ble_eq_true rfl)) dX9_next_125 ⟨Nat.le_of_ble_eq_true rfl, Nat.le_of_ble_eq_true rfl⟩) hS (fun z23 st24 h H locs hI hS => ?_)
      obtain ⟨g25, h⟩ := h
      refine r_if_eq (tgt := 172) hx hb dX9_next_128 (by decide) g25 (fun c26 => ?_) (fun c26 => ?_)
      · replace h := h.1 c26
        refine lv_aload_n hx hb dX9_next_172 rfl (lv_at hl 0 rfl) ?_
        refine r_iconst (n := 1) hx hb dX9_next_173 ?_
        refine pp_9_11 hx hb hts in9 hown hK hI hS hv_this lk_84 dX9_next_174 (fun st27 hst27 H locs hI hS => ?_)
        replace h := h st27 hst27
        refine lv_goto (tgt := 195) hx hb dX9_next_177 (by decide) ?_
        exact r_vret hx hb hr hlocks hK hI hS (Qp := Q) h dX9_next_195
      · replace h := h.2 c26
        refine lv_aload_n hx hb dX9_next_131 rfl (lv_at hl 0 rfl) ?_
        refine lv_ldc (v := iI 10000000) hx hb hown kc_94 dX9_next_132 ?_
        refine r_bipush (n := 10) hx hb dX9_next_134 rfl ?_
        refine lv_aload_n hx hb dX9_next_136 rfl (lv_at hl 0 rfl) ?_
        refine gg_9_12 hx hb hts in9 hown hK hI hv_this lk_81 dX9_next_137 ?_
        refine r_imul hx hb dX9_next_140 ?_
        refine lv_aload_n hx hb dX9_next_141 rfl (lv_at hl 0 rfl) ?_
        refine lv_aload_n hx hb dX9_next_142 rfl (lv_at hl 0 rfl) ?_
        refine gg_9_10 hx hb hts in9 hown hK hI hv_this lk_75 dX9_next_143 ?_
        refine r_calli (va_runV (As := [.int (iI (st24 9 10 0 0))]) (rest := [.int (iI (10 * (st24 9 12 0 0))), .int (iI 10000000), .ref (G.2.2.1 9 0)]) ⟨hx, hb, hml, hown, hts⟩ (m9_see l G hv_this _ st24 (st24 9 10 0 0) h) (cwV 1 hts gX9_next_X9_see rfl rfl rfl hd9_see ⟨Nat.le_of_ble_eq_true rfl, Nat.le_of_ble_eq_true rfl⟩) (pre_V hK hX hI hA hS hv_this rfl rfl [.int (iI (st24 9 10 0 0))]) rfl rfl hl.1 rfl (lv_room (Nat.le_of_ble_eq_true rfl)) dX9_next_146 ⟨Nat.le_of_ble_eq_true rfl, Nat.le_of_ble_eq_true rfl⟩) hS (fun z28 st29 h H locs hI hS => ?_)
        refine r_iadd hx hb dX9_next_149 ?_
        refine r_bipush (n := 48) hx hb dX9_next_150 rfl ?_
        refine r_isub hx hb dX9_next_152 ?_
        obtain ⟨g30, h⟩ := h
        refine r_mmin hx hb (hml.trans hl.1.symm) hown ml_95 dX9_next_153 (inI_mk rfl) g30 ⟨Nat.le_of_ble_eq_true rfl, Nat.le_of_ble_eq_true rfl, Nat.zero_le _, Nat.zero_le _⟩ (Nat.le_of_ble_eq_true rfl) ?_
        refine pp_9_12 hx hb hts in9 hown hK hI hS hv_this lk_81 dX9_next_156 (fun st31 hst31 H locs hI hS => ?_)
        replace h := h st31 hst31
        refine lv_aload_n hx hb dX9_next_159 rfl (lv_at hl 0 rfl) ?_
        refine lv_dup hx hb dX9_next_160 rfl ?_
        refine gg_9_10 hx hb hts in9 hown hK hI hv_this lk_75 dX9_next_161 ?_
        refine r_iconst (n := 1) hx hb dX9_next_164 ?_
        refine r_iadd hx hb dX9_next_165 ?_
        refine pp_9_10 hx hb hts in9 hown hK hI hS hv_this lk_75 dX9_next_166 (fun st32 hst32 H locs hI hS => ?_)
        replace h := h st32 hst32
        refine lv_goto (tgt := 120) hx hb dX9_next_169 (by decide) ?_
        exact ih120 st32 _ _ ls hI hS (lv_sub hl [0] rfl) h
  have L77 : ∀ (n77 : Nat), ∀ (st : St) (H : Heap) (locs : List Loc) (ls : Array Slot), Iv vM G st H → va_S G.2.2.2.1 s.heap H locs → lv_has ls 1 [(0, .ref (G.2.2.1 9 0))] → f9_next_l77 Q n77 st → W p l e (headSpec wsX9_next ({ frames := 2, cells := 0, slots := 0, locals := 43 })).room s m ([.ref (G.2.2.1 9 0)] : List Value).toArray below meth c H locs 0 0 (MQ below (QvM vM G Q) ([.ref (G.2.2.1 9 0)] : List Value).toArray s 0 0 G.2.2.2.1) (F0 m 77 ls []) := by
    intro n77
    induction n77 with
    | zero =>
      intro st H locs ls hI hS hl h
      exact h.elim
    | succ n77 ih77 =>
      intro st H locs ls hI hS hl h
      unfold f9_next_l77 at h
      refine lv_aload_n hx hb dX9_next_77 rfl (lv_at hl 0 rfl) ?_
      refine lv_aload_n hx hb dX9_next_78 rfl (lv_at hl 0 rfl) ?_
      refine gg_9_10 hx hb hts in9 hown hK hI hv_this lk_75 dX9_next_79 ?_
      refine r_calli (va_runV (As := [.int (iI (st 9 10 0 0))]) (rest := []) ⟨hx, hb, hml, hown, hts⟩ (m9_isLetter l G hv_this _ st (st 9 10 0 0) h) (cwV 1 hts gX9_next_X9_isLetter rfl rfl rfl hd9_isLetter ⟨Nat.le_of_ble_eq_true rfl, Nat.le_of_ble_eq_true rfl⟩) (pre_V hK hX hI hA hS hv_this rfl rfl [.int (iI (st 9 10 0 0))]) rfl rfl hl.1 rfl (lv_room (Nat.le_of_ble_eq_true rfl)) dX9_next_82 ⟨Nat.le_of_ble_eq_true rfl, Nat.le_of_ble_eq_true rfl⟩) hS (fun z33 st34 h H locs hI hS => ?_)
      obtain ⟨g35, h⟩ := h
      refine r_if_eq (tgt := 101) hx hb dX9_next_85 (by decide) g35 (fun c36 => ?_) (fun c36 => ?_)
      · replace h := h.1 c36
        refine lv_aload_n hx hb dX9_next_101 rfl (lv_at hl 0 rfl) ?_
        refine r_iconst (n := 0) hx hb dX9_next_102 ?_
        refine pp_9_11 hx hb hts in9 hown hK hI hS hv_this lk_84 dX9_next_103 (fun st37 hst37 H locs hI hS => ?_)
        replace h := h st37 hst37
        refine lv_goto (tgt := 195) hx hb dX9_next_106 (by decide) ?_
        exact r_vret hx hb hr hlocks hK hI hS (Qp := Q) h dX9_next_195
      · replace h := h.2 c36
        refine lv_aload_n hx hb dX9_next_88 rfl (lv_at hl 0 rfl) ?_
        refine lv_dup hx hb dX9_next_89 rfl ?_
        refine gg_9_10 hx hb hts in9 hown hK hI hv_this lk_75 dX9_next_90 ?_
        refine r_iconst (n := 1) hx hb dX9_next_93 ?_
        refine r_iadd hx hb dX9_next_94 ?_
        refine pp_9_10 hx hb hts in9 hown hK hI hS hv_this lk_75 dX9_next_95 (fun st38 hst38 H locs hI hS => ?_)
        replace h := h st38 hst38
        refine lv_goto (tgt := 77) hx hb dX9_next_98 (by decide) ?_
        exact ih77 st38 _ _ ls hI hS (lv_sub hl [0] rfl) h
  have L8 : ∀ (n8 : Nat), ∀ (st : St) (H : Heap) (locs : List Loc) (ls : Array Slot), Iv vM G st H → va_S G.2.2.2.1 s.heap H locs → lv_has ls 1 [(0, .ref (G.2.2.1 9 0))] → f9_next_l8 Q n8 st → W p l e (headSpec wsX9_next ({ frames := 2, cells := 0, slots := 0, locals := 43 })).room s m ([.ref (G.2.2.1 9 0)] : List Value).toArray below meth c H locs 0 0 (MQ below (QvM vM G Q) ([.ref (G.2.2.1 9 0)] : List Value).toArray s 0 0 G.2.2.2.1) (F0 m 8 ls []) := by
    intro n8
    induction n8 with
    | zero =>
      intro st H locs ls hI hS hl h
      exact h.elim
    | succ n8 ih8 =>
      intro st H locs ls hI hS hl h
      unfold f9_next_l8 at h
      refine lv_aload_n hx hb dX9_next_8 rfl (lv_at hl 0 rfl) ?_
      refine lv_aload_n hx hb dX9_next_9 rfl (lv_at hl 0 rfl) ?_
      refine gg_9_9 hx hb hts in9 hown hK hI hv_this lk_78 dX9_next_10 ?_
      refine r_calli (va_runV (As := [.int (iI (st 9 9 0 0))]) (rest := []) ⟨hx, hb, hml, hown, hts⟩ (m9_see l G hv_this _ st (st 9 9 0 0) h) (cwV 1 hts gX9_next_X9_see rfl rfl rfl hd9_see ⟨Nat.le_of_ble_eq_true rfl, Nat.le_of_ble_eq_true rfl⟩) (pre_V hK hX hI hA hS hv_this rfl rfl [.int (iI (st 9 9 0 0))]) rfl rfl hl.1 rfl (lv_room (Nat.le_of_ble_eq_true rfl)) dX9_next_13 ⟨Nat.le_of_ble_eq_true rfl, Nat.le_of_ble_eq_true rfl⟩) hS (fun z2 st3 h H locs hI hS => ?_)
      refine r_bipush (n := 32) hx hb dX9_next_16 rfl ?_
      obtain ⟨g4, h⟩ := h
      refine r_icmp_ne (tgt := 34) hx hb dX9_next_18 (by decide) g4 (inI_mk rfl) (fun c5 => ?_) (fun c5 => ?_)
      · replace h := h.2 c5
        refine lv_aload_n hx hb dX9_next_34 rfl (lv_at hl 0 rfl) ?_
        refine lv_aload_n hx hb dX9_next_35 rfl (lv_at hl 0 rfl) ?_
        refine gg_9_9 hx hb hts in9 hown hK hI hv_this lk_78 dX9_next_36 ?_
        refine pp_9_10 hx hb hts in9 hown hK hI hS hv_this lk_75 dX9_next_39 (fun st6 hst6 H locs hI hS => ?_)
        replace h := h st6 hst6
        refine lv_aload_n hx hb dX9_next_42 rfl (lv_at hl 0 rfl) ?_
        refine r_iconst (n := 0) hx hb dX9_next_43 ?_
        refine pp_9_12 hx hb hts in9 hown hK hI hS hv_this lk_81 dX9_next_44 (fun st7 hst7 H locs hI hS => ?_)
        replace h := h st7 hst7
        refine lv_aload_n hx hb dX9_next_47 rfl (lv_at hl 0 rfl) ?_
        refine gg_9_9 hx hb hts in9 hown hK hI hv_this lk_78 dX9_next_48 ?_
        refine lv_aload_n hx hb dX9_next_51 rfl (lv_at hl 0 rfl) ?_
        refine gg_9_8 hx hb hts in9 hown hK hI hv_this lk_68 dX9_next_52 ?_
        obtain ⟨g8, h⟩ := h
        obtain ⟨g9, h⟩ := h
        refine r_icmp_lt (tgt := 66) hx hb dX9_next_55 (by decide) g8 g9 (fun c10 => ?_) (fun c10 => ?_)
        · replace h := h.1 c10
          refine lv_aload_n hx hb dX9_next_66 rfl (lv_at hl 0 rfl) ?_
          refine lv_aload_n hx hb dX9_next_67 rfl (lv_at hl 0 rfl) ?_
          refine gg_9_9 hx hb hts in9 hown hK hI hv_this lk_78 dX9_next_68 ?_
          refine r_calli (va_runV (As := [.int (iI (st7 9 9 0 0))]) (rest := []) ⟨hx, hb, hml, hown, hts⟩ (m9_isLetter l G hv_this _ st7 (st7 9 9 0 0) h) (cwV 1 hts gX9_next_X9_isLetter rfl rfl rfl hd9_isLetter ⟨Nat.le_of_ble_eq_true rfl, Nat.le_of_ble_eq_true rfl⟩) (pre_V hK hX hI hA hS hv_this rfl rfl [.int (iI (st7 9 9 0 0))]) rfl rfl hl.1 rfl (lv_room (Nat.le_of_ble_eq_true rfl)) dX9_next_71 ⟨Nat.le_of_ble_eq_true rfl, Nat.le_of_ble_eq_true rfl⟩) hS (fun z11 st12 h H locs hI hS => ?_)
          obtain ⟨g13, h⟩ := h
          refine r_if_eq (tgt := 109) hx hb dX9_next_74 (by decide) g13 (fun c14 => ?_) (fun c14 => ?_)
          · replace h := h.1 c14
            refine lv_aload_n hx hb dX9_next_109 rfl (lv_at hl 0 rfl) ?_
            refine lv_aload_n hx hb dX9_next_110 rfl (lv_at hl 0 rfl) ?_
            refine gg_9_9 hx hb hts in9 hown hK hI hv_this lk_78 dX9_next_111 ?_
            refine r_calli (va_runV (As := [.int (iI (st12 9 9 0 0))]) (rest := []) ⟨hx, hb, hml, hown, hts⟩ (m9_isDigit l G hv_this _ st12 (st12 9 9 0 0) h) (cwV 1 hts gX9_next_X9_isDigit rfl rfl rfl hd9_isDigit ⟨Nat.le_of_ble_eq_true rfl, Nat.le_of_ble_eq_true rfl⟩) (pre_V hK hX hI hA hS hv_this rfl rfl [.int (iI (st12 9 9 0 0))]) rfl rfl hl.1 rfl (lv_room (Nat.le_of_ble_eq_true rfl)) dX9_next_114 ⟨Nat.le_of_ble_eq_true rfl, Nat.le_of_ble_eq_true rfl⟩) hS (fun z15 st16 h H locs hI hS => ?_)
            obtain ⟨g17, h⟩ := h
            refine r_if_eq (tgt := 180) hx hb dX9_next_117 (by decide) g17 (fun c18 => ?_) (fun c18 => ?_)
            · replace h := h.1 c18
              refine lv_aload_n hx hb dX9_next_180 rfl (lv_at hl 0 rfl) ?_
              refine lv_dup hx hb dX9_next_181 rfl ?_
              refine gg_9_10 hx hb hts in9 hown hK hI hv_this lk_75 dX9_next_182 ?_
              refine r_iconst (n := 1) hx hb dX9_next_185 ?_
              refine r_iadd hx hb dX9_next_186 ?_
              refine pp_9_10 hx hb hts in9 hown hK hI hS hv_this lk_75 dX9_next_187 (fun st19 hst19 H locs hI hS => ?_)
              replace h := h st19 hst19
              refine lv_aload_n hx hb dX9_next_190 rfl (lv_at hl 0 rfl) ?_
              refine r_iconst (n := 2) hx hb dX9_next_191 ?_
              refine pp_9_11 hx hb hts in9 hown hK hI hS hv_this lk_84 dX9_next_192 (fun st20 hst20 H locs hI hS => ?_)
              replace h := h st20 hst20
              exact r_vret hx hb hr hlocks hK hI hS (Qp := Q) h dX9_next_195
            · replace h := h.2 c18
              obtain ⟨kk, h⟩ := h
              exact L120 kk st16 _ _ ls hI hS (lv_sub hl [0] rfl) h
          · replace h := h.2 c14
            obtain ⟨kk, h⟩ := h
            exact L77 kk st12 _ _ ls hI hS (lv_sub hl [0] rfl) h
        · replace h := h.2 c10
          refine lv_aload_n hx hb dX9_next_58 rfl (lv_at hl 0 rfl) ?_
          refine r_iconst (n := 3) hx hb dX9_next_59 ?_
          refine pp_9_11 hx hb hts in9 hown hK hI hS hv_this lk_84 dX9_next_60 (fun st21 hst21 H locs hI hS => ?_)
          replace h := h st21 hst21
          refine lv_goto (tgt := 195) hx hb dX9_next_63 (by decide) ?_
          exact r_vret hx hb hr hlocks hK hI hS (Qp := Q) h dX9_next_195
      · replace h := h.1 c5
        refine lv_aload_n hx hb dX9_next_21 rfl (lv_at hl 0 rfl) ?_
        refine lv_dup hx hb dX9_next_22 rfl ?_
        refine gg_9_9 hx hb hts in9 hown hK hI hv_this lk_78 dX9_next_23 ?_
        refine r_iconst (n := 1) hx hb dX9_next_26 ?_
        refine r_iadd hx hb dX9_next_27 ?_
        refine pp_9_9 hx hb hts in9 hown hK hI hS hv_this lk_78 dX9_next_28 (fun st22 hst22 H locs hI hS => ?_)
        replace h := h st22 hst22
        refine lv_goto (tgt := 8) hx hb dX9_next_31 (by decide) ?_
        exact ih8 st22 _ _ ls hI hS (lv_sub hl [0] rfl) h
  unfold f9_next at h
  refine lv_aload_n hx hb dX9_next_0 rfl (lv_at hl 0 rfl) ?_
  refine lv_aload_n hx hb dX9_next_1 rfl (lv_at hl 0 rfl) ?_
  refine gg_9_10 hx hb hts in9 hown hK hI hv_this lk_75 dX9_next_2 ?_
  refine pp_9_9 hx hb hts in9 hown hK hI hS hv_this lk_78 dX9_next_5 (fun st1 hst1 H locs hI hS => ?_)
  replace h := h st1 hst1
  obtain ⟨kk, h⟩ := h
  exact L8 kk st1 _ _ ls hI hS (lv_sub hl [0] rfl) h
theorem hd9_isWord : yX9_isWord.cls = RX9 ∧ yX9_isWord.cls ≠ "java/lang/invoke/MethodHandle" ∧ yX9_isWord.cls ≠ "java/lang/invoke/VarHandle" ∧ (parseMethodDescriptor yX9_isWord.desc).map (fun d => d.parameters.length) = some 1 := by decide +kernel
set_option maxHeartbeats 4000000 in
set_option maxRecDepth 100000 in
theorem m9_isWord (l : Launch) (G : WG)  (a0 : Nat) (hv_this : vM 9 0) (hv_a0 : a0 < 9) (Q : Int → St → Prop) (st : St)  (h : f9_isWord a0 Q st) : Met l yX9_isWord wsX9_isWord ({ frames := 4, cells := 0, slots := 0, locals := 90 }) (PcM vM G st [.ref (G.2.2.1 9 0), .ref (G.2.2.2.2.1 a0)]) (QiM vM G Q) 0 0 G.2.2.2.1 := by
  refine Met.ofW (cc := cX9_isWord) (maxL := 3) (ret := (some .boolean)) (by decide) rfl ?_
  intro p e s m args below meth c s₁ B hml hvv
  obtain ⟨rfl, hA, hI, hK, hX⟩ := hvv
  have hx := B.exec
  have hb := B.bytes
  have hr := B.returns
  have hts := atoms_spec (ws := wsX9_isWord) B.pre
  have hown : s.vm.findClass RX9 = some m.cls := findClass_of_methodNamed B.named
  have hlocks := B.notSynchronized
  have hS : va_S G.2.2.2.1 s.heap s.heap [] := va_S.rf
  have in9 : ∀ w ∈ wsX90, w ∈ wsX9_isWord := by decide +kernel
  have lk_26 := hts (.fieldLink RX9 26 "BeamLinesModel" "buffer" "[I") (by decide +kernel)
  have lk_75 := hts (.fieldLink RX9 75 "BeamLinesModel" "behind" "I") (by decide +kernel)
  have lk_78 := hts (.fieldLink RX9 78 "BeamLinesModel" "at" "I") (by decide +kernel)
  have lk_84 := hts (.fieldLink RX9 84 "BeamLinesModel" "kind" "I") (by decide +kernel)
  have lk_101 := hts (.fieldLink RX9 101 "BeamLinesModel" "wrong" "I") (by decide +kernel)
  have hl := lv_entry ([.ref (G.2.2.1 9 0), .ref (G.2.2.2.2.1 a0)]) (n := 3) (Nat.le_of_ble_eq_true rfl)
  rw [lg_entry_eq]
  generalize (lg_sl ([.ref (G.2.2.1 9 0), .ref (G.2.2.2.2.1 a0)]) ++ List.replicate (3 - (lg_sl ([.ref (G.2.2.1 9 0), .ref (G.2.2.2.2.1 a0)])).length) Slot.unset).toArray = ls at hl ⊢
  have hl : lv_has ls 3 [(0, .ref (G.2.2.1 9 0)), (1, .ref (G.2.2.2.2.1 a0))] := hl
  have L34 : ∀ (n34 : Nat), ∀ (st : St) (v2x34 : Int) (H : Heap) (locs : List Loc) (ls : Array Slot), Iv vM G st H → va_S G.2.2.2.1 s.heap H locs → lv_has ls 3 [(0, .ref (G.2.2.1 9 0)), (1, .ref (G.2.2.2.2.1 a0)), (2, .int (iI v2x34))] → f9_isWord_l34 a0 Q n34 st v2x34 → W p l e (headSpec wsX9_isWord ({ frames := 4, cells := 0, slots := 0, locals := 90 })).room s m ([.ref (G.2.2.1 9 0), .ref (G.2.2.2.2.1 a0)] : List Value).toArray below meth c H locs 0 0 (MQ below (QiM vM G Q) ([.ref (G.2.2.1 9 0), .ref (G.2.2.2.2.1 a0)] : List Value).toArray s 0 0 G.2.2.2.1) (F0 m 34 ls []) := by
    intro n34
    induction n34 with
    | zero =>
      intro st v2x34 H locs ls hI hS hl h
      exact h.elim
    | succ n34 ih34 =>
      intro st v2x34 H locs ls hI hS hl h
      unfold f9_isWord_l34 at h
      refine lv_iload_n hx hb dX9_isWord_34 rfl (lv_at hl 2 rfl) ?_
      refine lv_aload_n hx hb dX9_isWord_35 rfl (lv_at hl 1 rfl) ?_
      refine r_callc (va_runV (As := []) (rest := [.int (iI v2x34)]) ⟨hx, hb, hml, hown, hts⟩ (mS_length (V := vM) l G st a0 hv_a0) (cwV 0 hts gX9_isWord_J0_length_8abf5 rfl rfl rfl hdS_length ⟨Nat.le_of_ble_eq_true rfl, Nat.le_of_ble_eq_true rfl⟩) (pre_Str hK hX hI hA hS hv_a0 []) rfl rfl hl.1 rfl (lv_room (Nat.le_of_ble_eq_true rfl)) dX9_isWord_36 ⟨Nat.le_of_ble_eq_true rfl, Nat.le_of_ble_eq_true rfl⟩) hS (fun H locs hI hS => ?_)
      obtain ⟨g8, h⟩ := h
      obtain ⟨g9, h⟩ := h
      refine r_icmp_ge (tgt := 69) hx hb dX9_isWord_39 (by decide) g8 g9 (fun c10 => ?_) (fun c10 => ?_)
      · replace h := h.1 c10
        refine r_iconst (n := 1) hx hb dX9_isWord_69 ?_
        exact r_zret hx hb hr hlocks hK hI hS (Qp := Q) (by decide) h dX9_isWord_70
      · replace h := h.2 c10
        refine lv_aload_n hx hb dX9_isWord_42 rfl (lv_at hl 0 rfl) ?_
        refine gg_9_7 hx hb hts in9 hown hK hI hv_this lk_26 dX9_isWord_43 ?_
        refine lv_aload_n hx hb dX9_isWord_46 rfl (lv_at hl 0 rfl) ?_
        refine gg_9_9 hx hb hts in9 hown hK hI hv_this lk_78 dX9_isWord_47 ?_
        refine lv_iload_n hx hb dX9_isWord_50 rfl (lv_at hl 2 rfl) ?_
        refine r_iadd hx hb dX9_isWord_51 ?_
        obtain ⟨g11, g12, h⟩ := h
        refine r_iald hx hb hK hI (K := 30) (vrM_9_7 hv_this) rfl (mlen_le _) dX9_isWord_52 g11 g12 ?_
        refine lv_aload_n hx hb dX9_isWord_53 rfl (lv_at hl 1 rfl) ?_
        refine lv_iload_n hx hb dX9_isWord_54 rfl (lv_at hl 2 rfl) ?_
        obtain ⟨g13, g14, h⟩ := h
        refine r_callc (va_runV (As := [.int (iI v2x34)]) (rest := [.int (iI (st 30 0 4 ((st 9 9 0 0) + v2x34)))]) ⟨hx, hb, hml, hown, hts⟩ (mS_charAt (V := vM) l G st a0 v2x34 hv_a0 g13 g14) (cwV 1 hts gX9_isWord_J0_charAt_5068e rfl rfl rfl hdS_charAt ⟨Nat.le_of_ble_eq_true rfl, Nat.le_of_ble_eq_true rfl⟩) (pre_Str hK hX hI hA hS hv_a0 [.int (iI v2x34)]) rfl rfl hl.1 rfl (lv_room (Nat.le_of_ble_eq_true rfl)) dX9_isWord_55 ⟨Nat.le_of_ble_eq_true rfl, Nat.le_of_ble_eq_true rfl⟩) hS (fun H locs hI hS => ?_)
        obtain ⟨g15, h⟩ := h
        obtain ⟨g16, h⟩ := h
        refine r_icmp_eq (tgt := 63) hx hb dX9_isWord_58 (by decide) g15 g16 (fun c17 => ?_) (fun c17 => ?_)
        · replace h := h.1 c17
          obtain ⟨x18, hx18⟩ : ∃ z : Int, z = v2x34 + 1 := ⟨_, rfl⟩
          replace h := h x18 hx18
          refine lv_iinc (v := iI x18) (lv' := [(2, .int (iI x18)), (0, .ref (G.2.2.1 9 0)), (1, .ref (G.2.2.2.2.1 a0))]) hx hb dX9_isWord_63 hl (k := 2) rfl (by rw [hx18]; exact iI_add _ _) (by decide) rfl (fun ls hl => ?_)
          refine lv_goto (tgt := 34) hx hb dX9_isWord_66 (by decide) ?_
          exact ih34 st x18 _ _ ls hI hS (lv_sub hl [1, 2, 0] rfl) h
        · replace h := h.2 c17
          refine r_iconst (n := 0) hx hb dX9_isWord_61 ?_
          exact r_zret hx hb hr hlocks hK hI hS (Qp := Q) (by decide) h dX9_isWord_62
  unfold f9_isWord at h
  refine lv_aload_n hx hb dX9_isWord_0 rfl (lv_at hl 0 rfl) ?_
  refine gg_9_13 hx hb hts in9 hown hK hI hv_this lk_101 dX9_isWord_1 ?_
  obtain ⟨g1, h⟩ := h
  refine r_if_ne (tgt := 30) hx hb dX9_isWord_4 (by decide) g1 (fun c2 => ?_) (fun c2 => ?_)
  · replace h := h.2 c2
    refine r_iconst (n := 0) hx hb dX9_isWord_30 ?_
    exact r_zret hx hb hr hlocks hK hI hS (Qp := Q) (by decide) h dX9_isWord_31
  · replace h := h.1 c2
    refine lv_aload_n hx hb dX9_isWord_7 rfl (lv_at hl 0 rfl) ?_
    refine gg_9_11 hx hb hts in9 hown hK hI hv_this lk_84 dX9_isWord_8 ?_
    obtain ⟨g3, h⟩ := h
    refine r_if_ne (tgt := 30) hx hb dX9_isWord_11 (by decide) g3 (fun c4 => ?_) (fun c4 => ?_)
    · replace h := h.2 c4
      refine r_iconst (n := 0) hx hb dX9_isWord_30 ?_
      exact r_zret hx hb hr hlocks hK hI hS (Qp := Q) (by decide) h dX9_isWord_31
    · replace h := h.1 c4
      refine lv_aload_n hx hb dX9_isWord_14 rfl (lv_at hl 0 rfl) ?_
      refine gg_9_10 hx hb hts in9 hown hK hI hv_this lk_75 dX9_isWord_15 ?_
      refine lv_aload_n hx hb dX9_isWord_18 rfl (lv_at hl 0 rfl) ?_
      refine gg_9_9 hx hb hts in9 hown hK hI hv_this lk_78 dX9_isWord_19 ?_
      refine r_isub hx hb dX9_isWord_22 ?_
      refine lv_aload_n hx hb dX9_isWord_23 rfl (lv_at hl 1 rfl) ?_
      refine r_callc (va_runV (As := []) (rest := [.int (iI ((st 9 10 0 0) - (st 9 9 0 0)))]) ⟨hx, hb, hml, hown, hts⟩ (mS_length (V := vM) l G st a0 hv_a0) (cwV 0 hts gX9_isWord_J0_length_8abf5 rfl rfl rfl hdS_length ⟨Nat.le_of_ble_eq_true rfl, Nat.le_of_ble_eq_true rfl⟩) (pre_Str hK hX hI hA hS hv_a0 []) rfl rfl hl.1 rfl (lv_room (Nat.le_of_ble_eq_true rfl)) dX9_isWord_24 ⟨Nat.le_of_ble_eq_true rfl, Nat.le_of_ble_eq_true rfl⟩) hS (fun H locs hI hS => ?_)
      obtain ⟨g5, h⟩ := h
      obtain ⟨g6, h⟩ := h
      refine r_icmp_eq (tgt := 32) hx hb dX9_isWord_27 (by decide) g5 g6 (fun c7 => ?_) (fun c7 => ?_)
      · replace h := h.1 c7
        refine r_iconst (n := 0) hx hb dX9_isWord_32 ?_
        refine lv_istore_n (lv' := [(2, .int (iI 0)), (0, .ref (G.2.2.1 9 0)), (1, .ref (G.2.2.2.2.1 a0))]) hx hb dX9_isWord_33 rfl hl (by decide) rfl (fun ls hl => ?_)
        obtain ⟨kk, h⟩ := h
        exact L34 kk st 0 _ _ ls hI hS (lv_sub hl [1, 2, 0] rfl) h
      · replace h := h.2 c7
        refine r_iconst (n := 0) hx hb dX9_isWord_30 ?_
        exact r_zret hx hb hr hlocks hK hI hS (Qp := Q) (by decide) h dX9_isWord_31
theorem hd9_fails : yX9_fails.cls = RX9 ∧ yX9_fails.cls ≠ "java/lang/invoke/MethodHandle" ∧ yX9_fails.cls ≠ "java/lang/invoke/VarHandle" ∧ (parseMethodDescriptor yX9_fails.desc).map (fun d => d.parameters.length) = some 1 := by decide +kernel
set_option maxHeartbeats 4000000 in
set_option maxRecDepth 100000 in
theorem m9_fails (l : Launch) (G : WG)   (hv_this : vM 9 0) (Q : St → Prop) (st : St) (a0 : Int) (h : f9_fails Q st a0) : Met l yX9_fails wsX9_fails ({ frames := 0, cells := 0, slots := 0, locals := 0 }) (PcM vM G st [.ref (G.2.2.1 9 0), .int (iI a0)]) (QvM vM G Q) 0 0 G.2.2.2.1 := by
  refine Met.ofW (cc := cX9_fails) (maxL := 2) (ret := none) (by decide) rfl ?_
  intro p e s m args below meth c s₁ B hml hvv
  obtain ⟨rfl, hA, hI, hK, hX⟩ := hvv
  have hx := B.exec
  have hb := B.bytes
  have hr := B.returns
  have hts := atoms_spec (ws := wsX9_fails) B.pre
  have hown : s.vm.findClass RX9 = some m.cls := findClass_of_methodNamed B.named
  have hlocks := B.notSynchronized
  have hS : va_S G.2.2.2.1 s.heap s.heap [] := va_S.rf
  have in9 : ∀ w ∈ wsX90, w ∈ wsX9_fails := by decide +kernel
  have lk_78 := hts (.fieldLink RX9 78 "BeamLinesModel" "at" "I") (by decide +kernel)
  have lk_101 := hts (.fieldLink RX9 101 "BeamLinesModel" "wrong" "I") (by decide +kernel)
  have lk_114 := hts (.fieldLink RX9 114 "BeamLinesModel" "wrongAt" "I") (by decide +kernel)
  have hl := lv_entry ([.ref (G.2.2.1 9 0), .int (iI a0)]) (n := 2) (Nat.le_of_ble_eq_true rfl)
  rw [lg_entry_eq]
  generalize (lg_sl ([.ref (G.2.2.1 9 0), .int (iI a0)]) ++ List.replicate (2 - (lg_sl ([.ref (G.2.2.1 9 0), .int (iI a0)])).length) Slot.unset).toArray = ls at hl ⊢
  have hl : lv_has ls 2 [(0, .ref (G.2.2.1 9 0)), (1, .int (iI a0))] := hl
  unfold f9_fails at h
  refine lv_aload_n hx hb dX9_fails_0 rfl (lv_at hl 0 rfl) ?_
  refine gg_9_13 hx hb hts in9 hown hK hI hv_this lk_101 dX9_fails_1 ?_
  obtain ⟨g1, h⟩ := h
  refine r_if_eq (tgt := 8) hx hb dX9_fails_4 (by decide) g1 (fun c2 => ?_) (fun c2 => ?_)
  · replace h := h.1 c2
    refine lv_aload_n hx hb dX9_fails_8 rfl (lv_at hl 0 rfl) ?_
    refine lv_iload_n hx hb dX9_fails_9 rfl (lv_at hl 1 rfl) ?_
    refine pp_9_13 hx hb hts in9 hown hK hI hS hv_this lk_101 dX9_fails_10 (fun st3 hst3 H locs hI hS => ?_)
    replace h := h st3 hst3
    refine lv_aload_n hx hb dX9_fails_13 rfl (lv_at hl 0 rfl) ?_
    refine lv_aload_n hx hb dX9_fails_14 rfl (lv_at hl 0 rfl) ?_
    refine gg_9_9 hx hb hts in9 hown hK hI hv_this lk_78 dX9_fails_15 ?_
    refine pp_9_14 hx hb hts in9 hown hK hI hS hv_this lk_114 dX9_fails_18 (fun st4 hst4 H locs hI hS => ?_)
    replace h := h st4 hst4
    exact r_vret hx hb hr hlocks hK hI hS (Qp := Q) h dX9_fails_21
  · replace h := h.2 c2
    exact r_vret hx hb hr hlocks hK hI hS (Qp := Q) h dX9_fails_7
theorem hd9_must : yX9_must.cls = RX9 ∧ yX9_must.cls ≠ "java/lang/invoke/MethodHandle" ∧ yX9_must.cls ≠ "java/lang/invoke/VarHandle" ∧ (parseMethodDescriptor yX9_must.desc).map (fun d => d.parameters.length) = some 1 := by decide +kernel
set_option maxHeartbeats 4000000 in
set_option maxRecDepth 100000 in
theorem m9_must (l : Launch) (G : WG)   (hv_this : vM 9 0) (Q : St → Prop) (st : St) (a0 : Int) (h : f9_must Q st a0) : Met l yX9_must wsX9_must ({ frames := 3, cells := 0, slots := 0, locals := 63 }) (PcM vM G st [.ref (G.2.2.1 9 0), .int (iI a0)]) (QvM vM G Q) 0 0 G.2.2.2.1 := by
  refine Met.ofW (cc := cX9_must) (maxL := 2) (ret := none) (by decide) rfl ?_
  intro p e s m args below meth c s₁ B hml hvv
  obtain ⟨rfl, hA, hI, hK, hX⟩ := hvv
  have hx := B.exec
  have hb := B.bytes
  have hr := B.returns
  have hts := atoms_spec (ws := wsX9_must) B.pre
  have hown : s.vm.findClass RX9 = some m.cls := findClass_of_methodNamed B.named
  have hlocks := B.notSynchronized
  have hS : va_S G.2.2.2.1 s.heap s.heap [] := va_S.rf
  have in9 : ∀ w ∈ wsX90, w ∈ wsX9_must := by decide +kernel
  have lk_101 := hts (.fieldLink RX9 101 "BeamLinesModel" "wrong" "I") (by decide +kernel)
  have hl := lv_entry ([.ref (G.2.2.1 9 0), .int (iI a0)]) (n := 2) (Nat.le_of_ble_eq_true rfl)
  rw [lg_entry_eq]
  generalize (lg_sl ([.ref (G.2.2.1 9 0), .int (iI a0)]) ++ List.replicate (2 - (lg_sl ([.ref (G.2.2.1 9 0), .int (iI a0)])).length) Slot.unset).toArray = ls at hl ⊢
  have hl : lv_has ls 2 [(0, .ref (G.2.2.1 9 0)), (1, .int (iI a0))] := hl
  have J10 : ∀ (st : St) (H : Heap) (locs : List Loc) (ls : Array Slot), Iv vM G st H → va_S G.2.2.2.1 s.heap H locs → lv_has ls 2 [(0, .ref (G.2.2.1 9 0))] → f9_must_j10 Q st → W p l e (headSpec wsX9_must ({ frames := 3, cells := 0, slots := 0, locals := 63 })).room s m ([.ref (G.2.2.1 9 0), .int (iI a0)] : List Value).toArray below meth c H locs 0 0 (MQ below (QvM vM G Q) ([.ref (G.2.2.1 9 0), .int (iI a0)] : List Value).toArray s 0 0 G.2.2.2.1) (F0 m 10 ls []) := by
    intro st H locs ls hI hS hl h
    unfold f9_must_j10 at h
    refine lv_aload_n hx hb dX9_must_10 rfl (lv_at hl 0 rfl) ?_
    refine gg_9_13 hx hb hts in9 hown hK hI hv_this lk_101 dX9_must_11 ?_
    obtain ⟨g5, h⟩ := h
    refine r_if_ne (tgt := 21) hx hb dX9_must_14 (by decide) g5 (fun c6 => ?_) (fun c6 => ?_)
    · replace h := h.2 c6
      exact r_vret hx hb hr hlocks hK hI hS (Qp := Q) h dX9_must_21
    · replace h := h.1 c6
      refine lv_aload_n hx hb dX9_must_17 rfl (lv_at hl 0 rfl) ?_
      refine r_callv (va_runV (As := []) (rest := []) ⟨hx, hb, hml, hown, hts⟩ (m9_next l G hv_this _ st h) (cwV 0 hts gX9_must_X9_next rfl rfl rfl hd9_next ⟨Nat.le_of_ble_eq_true rfl, Nat.le_of_ble_eq_true rfl⟩) (pre_V hK hX hI hA hS hv_this rfl rfl []) rfl rfl hl.1 rfl (lv_room (Nat.le_of_ble_eq_true rfl)) dX9_must_18 ⟨Nat.le_of_ble_eq_true rfl, Nat.le_of_ble_eq_true rfl⟩) hS (fun st8 h H locs hI hS => ?_)
      exact r_vret hx hb hr hlocks hK hI hS (Qp := Q) h dX9_must_21
  unfold f9_must at h
  refine lv_iload_n hx hb dX9_must_0 rfl (lv_at hl 1 rfl) ?_
  obtain ⟨g1, h⟩ := h
  refine r_if_ne (tgt := 10) hx hb dX9_must_1 (by decide) g1 (fun c2 => ?_) (fun c2 => ?_)
  · replace h := h.2 c2
    exact J10 st  _ _ ls hI hS (lv_sub hl [0] rfl) h
  · replace h := h.1 c2
    refine lv_aload_n hx hb dX9_must_4 rfl (lv_at hl 0 rfl) ?_
    refine r_bipush (n := (-2)) hx hb dX9_must_5 rfl ?_
    refine r_callv (va_runV (As := [.int (iI (-2))]) (rest := []) ⟨hx, hb, hml, hown, hts⟩ (m9_fails l G hv_this _ st (-2) h) (cwV 1 hts gX9_must_X9_fails rfl rfl rfl hd9_fails ⟨Nat.le_of_ble_eq_true rfl, Nat.le_of_ble_eq_true rfl⟩) (pre_V hK hX hI hA hS hv_this rfl rfl [.int (iI (-2))]) rfl rfl hl.1 rfl (lv_room (Nat.le_of_ble_eq_true rfl)) dX9_must_7 ⟨Nat.le_of_ble_eq_true rfl, Nat.le_of_ble_eq_true rfl⟩) hS (fun st4 h H locs hI hS => ?_)
    exact J10 st4  _ _ ls hI hS (lv_sub hl [0] rfl) h
theorem hd9_mustEnd : yX9_mustEnd.cls = RX9 ∧ yX9_mustEnd.cls ≠ "java/lang/invoke/MethodHandle" ∧ yX9_mustEnd.cls ≠ "java/lang/invoke/VarHandle" ∧ (parseMethodDescriptor yX9_mustEnd.desc).map (fun d => d.parameters.length) = some 0 := by decide +kernel
set_option maxHeartbeats 4000000 in
set_option maxRecDepth 100000 in
theorem m9_mustEnd (l : Launch) (G : WG)   (hv_this : vM 9 0) (Q : St → Prop) (st : St)  (h : f9_mustEnd Q st) : Met l yX9_mustEnd wsX9_mustEnd ({ frames := 4, cells := 0, slots := 0, locals := 84 }) (PcM vM G st [.ref (G.2.2.1 9 0)]) (QvM vM G Q) 0 0 G.2.2.2.1 := by
  refine Met.ofW (cc := cX9_mustEnd) (maxL := 1) (ret := none) (by decide) rfl ?_
  intro p e s m args below meth c s₁ B hml hvv
  obtain ⟨rfl, hA, hI, hK, hX⟩ := hvv
  have hx := B.exec
  have hb := B.bytes
  have hr := B.returns
  have hts := atoms_spec (ws := wsX9_mustEnd) B.pre
  have hown : s.vm.findClass RX9 = some m.cls := findClass_of_methodNamed B.named
  have hlocks := B.notSynchronized
  have hS : va_S G.2.2.2.1 s.heap s.heap [] := va_S.rf
  have in9 : ∀ w ∈ wsX90, w ∈ wsX9_mustEnd := by decide +kernel
  have lk_78 := hts (.fieldLink RX9 78 "BeamLinesModel" "at" "I") (by decide +kernel)
  have lk_84 := hts (.fieldLink RX9 84 "BeamLinesModel" "kind" "I") (by decide +kernel)
  have hl := lv_entry ([.ref (G.2.2.1 9 0)]) (n := 1) (Nat.le_of_ble_eq_true rfl)
  rw [lg_entry_eq]
  generalize (lg_sl ([.ref (G.2.2.1 9 0)]) ++ List.replicate (1 - (lg_sl ([.ref (G.2.2.1 9 0)])).length) Slot.unset).toArray = ls at hl ⊢
  have hl : lv_has ls 1 [(0, .ref (G.2.2.1 9 0))] := hl
  have J27 : ∀ (st : St) (s0x27 : Int) (H : Heap) (locs : List Loc) (ls : Array Slot), Iv vM G st H → va_S G.2.2.2.1 s.heap H locs → lv_has ls 1 [] → f9_mustEnd_j27 Q st s0x27 → W p l e (headSpec wsX9_mustEnd ({ frames := 4, cells := 0, slots := 0, locals := 84 })).room s m ([.ref (G.2.2.1 9 0)] : List Value).toArray below meth c H locs 0 0 (MQ below (QvM vM G Q) ([.ref (G.2.2.1 9 0)] : List Value).toArray s 0 0 G.2.2.2.1) (F0 m 27 ls [.int (iI s0x27), .ref (G.2.2.1 9 0)]) := by
    intro st s0x27 H locs ls hI hS hl h
    unfold f9_mustEnd_j27 at h
    refine r_callv (va_runV (As := [.int (iI s0x27)]) (rest := []) ⟨hx, hb, hml, hown, hts⟩ (m9_must l G hv_this _ st s0x27 h) (cwV 1 hts gX9_mustEnd_X9_must rfl rfl rfl hd9_must ⟨Nat.le_of_ble_eq_true rfl, Nat.le_of_ble_eq_true rfl⟩) (pre_V hK hX hI hA hS hv_this rfl rfl [.int (iI s0x27)]) rfl rfl hl.1 rfl (lv_room (Nat.le_of_ble_eq_true rfl)) dX9_mustEnd_27 ⟨Nat.le_of_ble_eq_true rfl, Nat.le_of_ble_eq_true rfl⟩) hS (fun st8 h H locs hI hS => ?_)
    exact r_vret hx hb hr hlocks hK hI hS (Qp := Q) h dX9_mustEnd_30
  have J26 : ∀ (st : St) (H : Heap) (locs : List Loc) (ls : Array Slot), Iv vM G st H → va_S G.2.2.2.1 s.heap H locs → lv_has ls 1 [] → f9_mustEnd_j26 Q st → W p l e (headSpec wsX9_mustEnd ({ frames := 4, cells := 0, slots := 0, locals := 84 })).room s m ([.ref (G.2.2.1 9 0)] : List Value).toArray below meth c H locs 0 0 (MQ below (QvM vM G Q) ([.ref (G.2.2.1 9 0)] : List Value).toArray s 0 0 G.2.2.2.1) (F0 m 26 ls [.ref (G.2.2.1 9 0)]) := by
    intro st H locs ls hI hS hl h
    unfold f9_mustEnd_j26 at h
    refine r_iconst (n := 0) hx hb dX9_mustEnd_26 ?_
    exact J27 st 0 _ _ ls hI hS (lv_sub hl [] rfl) h
  unfold f9_mustEnd at h
  refine lv_aload_n hx hb dX9_mustEnd_0 rfl (lv_at hl 0 rfl) ?_
  refine lv_aload_n hx hb dX9_mustEnd_1 rfl (lv_at hl 0 rfl) ?_
  refine gg_9_11 hx hb hts in9 hown hK hI hv_this lk_84 dX9_mustEnd_2 ?_
  refine r_iconst (n := 2) hx hb dX9_mustEnd_5 ?_
  obtain ⟨g1, h⟩ := h
  refine r_icmp_ne (tgt := 26) hx hb dX9_mustEnd_6 (by decide) g1 (inI_mk rfl) (fun c2 => ?_) (fun c2 => ?_)
  · replace h := h.2 c2
    exact J26 st  _ _ ls hI hS (lv_sub hl [] rfl) h
  · replace h := h.1 c2
    refine lv_aload_n hx hb dX9_mustEnd_9 rfl (lv_at hl 0 rfl) ?_
    refine lv_aload_n hx hb dX9_mustEnd_10 rfl (lv_at hl 0 rfl) ?_
    refine gg_9_9 hx hb hts in9 hown hK hI hv_this lk_78 dX9_mustEnd_11 ?_
    refine r_calli (va_runV (As := [.int (iI (st 9 9 0 0))]) (rest := [.ref (G.2.2.1 9 0)]) ⟨hx, hb, hml, hown, hts⟩ (m9_see l G hv_this _ st (st 9 9 0 0) h) (cwV 1 hts gX9_mustEnd_X9_see rfl rfl rfl hd9_see ⟨Nat.le_of_ble_eq_true rfl, Nat.le_of_ble_eq_true rfl⟩) (pre_V hK hX hI hA hS hv_this rfl rfl [.int (iI (st 9 9 0 0))]) rfl rfl hl.1 rfl (lv_room (Nat.le_of_ble_eq_true rfl)) dX9_mustEnd_14 ⟨Nat.le_of_ble_eq_true rfl, Nat.le_of_ble_eq_true rfl⟩) hS (fun z3 st4 h H locs hI hS => ?_)
    refine r_bipush (n := 59) hx hb dX9_mustEnd_17 rfl ?_
    obtain ⟨g5, h⟩ := h
    refine r_icmp_ne (tgt := 26) hx hb dX9_mustEnd_19 (by decide) g5 (inI_mk rfl) (fun c6 => ?_) (fun c6 => ?_)
    · replace h := h.2 c6
      exact J26 st4  _ _ ls hI hS (lv_sub hl [] rfl) h
    · replace h := h.1 c6
      refine r_iconst (n := 1) hx hb dX9_mustEnd_22 ?_
      refine lv_goto (tgt := 27) hx hb dX9_mustEnd_23 (by decide) ?_
      exact J27 st4 1 _ _ ls hI hS (lv_sub hl [] rfl) h
theorem hd9_stands : yX9_stands.cls = RX9 ∧ yX9_stands.cls ≠ "java/lang/invoke/MethodHandle" ∧ yX9_stands.cls ≠ "java/lang/invoke/VarHandle" ∧ (parseMethodDescriptor yX9_stands.desc).map (fun d => d.parameters.length) = some 2 := by decide +kernel
set_option maxHeartbeats 4000000 in
set_option maxRecDepth 100000 in
theorem m9_stands (l : Launch) (G : WG)   (hv_this : vM 9 0) (Q : Int → St → Prop) (st : St) (a0 : Int) (a1 : Int) (h : f9_stands Q st a0 a1) : Met l yX9_stands wsX9_stands ({ frames := 1, cells := 0, slots := 0, locals := 22 }) (PcM vM G st [.ref (G.2.2.1 9 0), .int (iI a0), .int (iI a1)]) (QiM vM G Q) 0 0 G.2.2.2.1 := by
  refine Met.ofW (cc := cX9_stands) (maxL := 3) (ret := (some .int)) (by decide) rfl ?_
  intro p e s m args below meth c s₁ B hml hvv
  obtain ⟨rfl, hA, hI, hK, hX⟩ := hvv
  have hx := B.exec
  have hb := B.bytes
  have hr := B.returns
  have hts := atoms_spec (ws := wsX9_stands) B.pre
  have hown : s.vm.findClass RX9 = some m.cls := findClass_of_methodNamed B.named
  have hlocks := B.notSynchronized
  have hS : va_S G.2.2.2.1 s.heap s.heap [] := va_S.rf
  have in9 : ∀ w ∈ wsX90, w ∈ wsX9_stands := by decide +kernel
  have lk_81 := hts (.fieldLink RX9 81 "BeamLinesModel" "number" "I") (by decide +kernel)
  have lk_84 := hts (.fieldLink RX9 84 "BeamLinesModel" "kind" "I") (by decide +kernel)
  have lk_101 := hts (.fieldLink RX9 101 "BeamLinesModel" "wrong" "I") (by decide +kernel)
  have hl := lv_entry ([.ref (G.2.2.1 9 0), .int (iI a0), .int (iI a1)]) (n := 3) (Nat.le_of_ble_eq_true rfl)
  rw [lg_entry_eq]
  generalize (lg_sl ([.ref (G.2.2.1 9 0), .int (iI a0), .int (iI a1)]) ++ List.replicate (3 - (lg_sl ([.ref (G.2.2.1 9 0), .int (iI a0), .int (iI a1)])).length) Slot.unset).toArray = ls at hl ⊢
  have hl : lv_has ls 3 [(0, .ref (G.2.2.1 9 0)), (1, .int (iI a0)), (2, .int (iI a1))] := hl
  have J46 : ∀ (st : St) (H : Heap) (locs : List Loc) (ls : Array Slot), Iv vM G st H → va_S G.2.2.2.1 s.heap H locs → lv_has ls 3 [(0, .ref (G.2.2.1 9 0))] → f9_stands_j46 Q st → W p l e (headSpec wsX9_stands ({ frames := 1, cells := 0, slots := 0, locals := 22 })).room s m ([.ref (G.2.2.1 9 0), .int (iI a0), .int (iI a1)] : List Value).toArray below meth c H locs 0 0 (MQ below (QiM vM G Q) ([.ref (G.2.2.1 9 0), .int (iI a0), .int (iI a1)] : List Value).toArray s 0 0 G.2.2.2.1) (F0 m 46 ls []) := by
    intro st H locs ls hI hS hl h
    unfold f9_stands_j46 at h
    refine lv_aload_n hx hb dX9_stands_46 rfl (lv_at hl 0 rfl) ?_
    refine gg_9_13 hx hb hts in9 hown hK hI hv_this lk_101 dX9_stands_47 ?_
    obtain ⟨g15, h⟩ := h
    refine r_if_ne (tgt := 60) hx hb dX9_stands_50 (by decide) g15 (fun c16 => ?_) (fun c16 => ?_)
    · replace h := h.2 c16
      refine r_iconst (n := 0) hx hb dX9_stands_60 ?_
      exact r_iret hx hb hr hlocks hK hI hS (Qp := Q) h dX9_stands_61
    · replace h := h.1 c16
      refine lv_aload_n hx hb dX9_stands_53 rfl (lv_at hl 0 rfl) ?_
      refine gg_9_12 hx hb hts in9 hown hK hI hv_this lk_81 dX9_stands_54 ?_
      refine lv_goto (tgt := 61) hx hb dX9_stands_57 (by decide) ?_
      exact r_iret hx hb hr hlocks hK hI hS (Qp := Q) h dX9_stands_61
  have J21 : ∀ (st : St) (H : Heap) (locs : List Loc) (ls : Array Slot), Iv vM G st H → va_S G.2.2.2.1 s.heap H locs → lv_has ls 3 [(0, .ref (G.2.2.1 9 0)), (1, .int (iI a0)), (2, .int (iI a1))] → f9_stands_j21 Q a0 a1 st → W p l e (headSpec wsX9_stands ({ frames := 1, cells := 0, slots := 0, locals := 22 })).room s m ([.ref (G.2.2.1 9 0), .int (iI a0), .int (iI a1)] : List Value).toArray below meth c H locs 0 0 (MQ below (QiM vM G Q) ([.ref (G.2.2.1 9 0), .int (iI a0), .int (iI a1)] : List Value).toArray s 0 0 G.2.2.2.1) (F0 m 21 ls []) := by
    intro st H locs ls hI hS hl h
    unfold f9_stands_j21 at h
    refine lv_aload_n hx hb dX9_stands_21 rfl (lv_at hl 0 rfl) ?_
    refine gg_9_13 hx hb hts in9 hown hK hI hv_this lk_101 dX9_stands_22 ?_
    obtain ⟨g7, h⟩ := h
    refine r_if_ne (tgt := 46) hx hb dX9_stands_25 (by decide) g7 (fun c8 => ?_) (fun c8 => ?_)
    · replace h := h.2 c8
      exact J46 st  _ _ ls hI hS (lv_sub hl [0] rfl) h
    · replace h := h.1 c8
      refine lv_aload_n hx hb dX9_stands_28 rfl (lv_at hl 0 rfl) ?_
      refine gg_9_12 hx hb hts in9 hown hK hI hv_this lk_81 dX9_stands_29 ?_
      refine lv_iload_n hx hb dX9_stands_32 rfl (lv_at hl 1 rfl) ?_
      refine lv_iload_n hx hb dX9_stands_33 rfl (lv_at hl 2 rfl) ?_
      refine r_calli (va_runS (As := [.int (iI (st 9 12 0 0)), .int (iI a0), .int (iI a1)]) (rest := []) ⟨hx, hb, hml, hown, hts⟩ (m9_isIn l G _ st (st 9 12 0 0) a0 a1 h) (va_cwS 3 hts gX9_stands_X9_isIn rfl rfl rfl hd9_isIn ⟨Nat.le_of_ble_eq_true rfl, Nat.le_of_ble_eq_true rfl⟩) (pre_S hK hX hI hA hS [.int (iI (st 9 12 0 0)), .int (iI a0), .int (iI a1)]) rfl rfl hl.1 rfl (lv_room (Nat.le_of_ble_eq_true rfl)) dX9_stands_34 ⟨Nat.le_of_ble_eq_true rfl, Nat.le_of_ble_eq_true rfl⟩) hS (fun z9 st10 h H locs hI hS => ?_)
      obtain ⟨g11, h⟩ := h
      refine r_if_ne (tgt := 46) hx hb dX9_stands_37 (by decide) g11 (fun c12 => ?_) (fun c12 => ?_)
      · replace h := h.2 c12
        exact J46 st10  _ _ ls hI hS (lv_sub hl [0] rfl) h
      · replace h := h.1 c12
        refine lv_aload_n hx hb dX9_stands_40 rfl (lv_at hl 0 rfl) ?_
        refine r_bipush (n := (-3)) hx hb dX9_stands_41 rfl ?_
        refine r_callv (va_runV (As := [.int (iI (-3))]) (rest := []) ⟨hx, hb, hml, hown, hts⟩ (m9_fails l G hv_this _ st10 (-3) h) (cwV 1 hts gX9_stands_X9_fails rfl rfl rfl hd9_fails ⟨Nat.le_of_ble_eq_true rfl, Nat.le_of_ble_eq_true rfl⟩) (pre_V hK hX hI hA hS hv_this rfl rfl [.int (iI (-3))]) rfl rfl hl.1 rfl (lv_room (Nat.le_of_ble_eq_true rfl)) dX9_stands_43 ⟨Nat.le_of_ble_eq_true rfl, Nat.le_of_ble_eq_true rfl⟩) hS (fun st14 h H locs hI hS => ?_)
        exact J46 st14  _ _ ls hI hS (lv_sub hl [0] rfl) h
  unfold f9_stands at h
  refine lv_aload_n hx hb dX9_stands_0 rfl (lv_at hl 0 rfl) ?_
  refine gg_9_13 hx hb hts in9 hown hK hI hv_this lk_101 dX9_stands_1 ?_
  obtain ⟨g1, h⟩ := h
  refine r_if_ne (tgt := 21) hx hb dX9_stands_4 (by decide) g1 (fun c2 => ?_) (fun c2 => ?_)
  · replace h := h.2 c2
    exact J21 st  _ _ ls hI hS (lv_sub hl [0, 1, 2] rfl) h
  · replace h := h.1 c2
    refine lv_aload_n hx hb dX9_stands_7 rfl (lv_at hl 0 rfl) ?_
    refine gg_9_11 hx hb hts in9 hown hK hI hv_this lk_84 dX9_stands_8 ?_
    refine r_iconst (n := 1) hx hb dX9_stands_11 ?_
    obtain ⟨g3, h⟩ := h
    refine r_icmp_eq (tgt := 21) hx hb dX9_stands_12 (by decide) g3 (inI_mk rfl) (fun c4 => ?_) (fun c4 => ?_)
    · replace h := h.1 c4
      exact J21 st  _ _ ls hI hS (lv_sub hl [0, 1, 2] rfl) h
    · replace h := h.2 c4
      refine lv_aload_n hx hb dX9_stands_15 rfl (lv_at hl 0 rfl) ?_
      refine r_bipush (n := (-2)) hx hb dX9_stands_16 rfl ?_
      refine r_callv (va_runV (As := [.int (iI (-2))]) (rest := []) ⟨hx, hb, hml, hown, hts⟩ (m9_fails l G hv_this _ st (-2) h) (cwV 1 hts gX9_stands_X9_fails rfl rfl rfl hd9_fails ⟨Nat.le_of_ble_eq_true rfl, Nat.le_of_ble_eq_true rfl⟩) (pre_V hK hX hI hA hS hv_this rfl rfl [.int (iI (-2))]) rfl rfl hl.1 rfl (lv_room (Nat.le_of_ble_eq_true rfl)) dX9_stands_18 ⟨Nat.le_of_ble_eq_true rfl, Nat.le_of_ble_eq_true rfl⟩) hS (fun st6 h H locs hI hS => ?_)
      exact J21 st6  _ _ ls hI hS (lv_sub hl [0, 1, 2] rfl) h
theorem hd9_takes : yX9_takes.cls = RX9 ∧ yX9_takes.cls ≠ "java/lang/invoke/MethodHandle" ∧ yX9_takes.cls ≠ "java/lang/invoke/VarHandle" ∧ (parseMethodDescriptor yX9_takes.desc).map (fun d => d.parameters.length) = some 2 := by decide +kernel
set_option maxHeartbeats 4000000 in
set_option maxRecDepth 100000 in
theorem m9_takes (l : Launch) (G : WG)   (hv_this : vM 9 0) (Q : Int → St → Prop) (st : St) (a0 : Int) (a1 : Int) (h : f9_takes Q st a0 a1) : Met l yX9_takes wsX9_takes ({ frames := 3, cells := 0, slots := 0, locals := 63 }) (PcM vM G st [.ref (G.2.2.1 9 0), .int (iI a0), .int (iI a1)]) (QiM vM G Q) 0 0 G.2.2.2.1 := by
  refine Met.ofW (cc := cX9_takes) (maxL := 4) (ret := (some .int)) (by decide) rfl ?_
  intro p e s m args below meth c s₁ B hml hvv
  obtain ⟨rfl, hA, hI, hK, hX⟩ := hvv
  have hx := B.exec
  have hb := B.bytes
  have hr := B.returns
  have hts := atoms_spec (ws := wsX9_takes) B.pre
  have hown : s.vm.findClass RX9 = some m.cls := findClass_of_methodNamed B.named
  have hlocks := B.notSynchronized
  have hS : va_S G.2.2.2.1 s.heap s.heap [] := va_S.rf
  have in9 : ∀ w ∈ wsX90, w ∈ wsX9_takes := by decide +kernel
  have lk_101 := hts (.fieldLink RX9 101 "BeamLinesModel" "wrong" "I") (by decide +kernel)
  have hl := lv_entry ([.ref (G.2.2.1 9 0), .int (iI a0), .int (iI a1)]) (n := 4) (Nat.le_of_ble_eq_true rfl)
  rw [lg_entry_eq]
  generalize (lg_sl ([.ref (G.2.2.1 9 0), .int (iI a0), .int (iI a1)]) ++ List.replicate (4 - (lg_sl ([.ref (G.2.2.1 9 0), .int (iI a0), .int (iI a1)])).length) Slot.unset).toArray = ls at hl ⊢
  have hl : lv_has ls 4 [(0, .ref (G.2.2.1 9 0)), (1, .int (iI a0)), (2, .int (iI a1))] := hl
  unfold f9_takes at h
  refine lv_aload_n hx hb dX9_takes_0 rfl (lv_at hl 0 rfl) ?_
  refine lv_iload_n hx hb dX9_takes_1 rfl (lv_at hl 1 rfl) ?_
  refine lv_iload_n hx hb dX9_takes_2 rfl (lv_at hl 2 rfl) ?_
  refine r_calli (va_runV (As := [.int (iI a0), .int (iI a1)]) (rest := []) ⟨hx, hb, hml, hown, hts⟩ (m9_stands l G hv_this _ st a0 a1 h) (cwV 2 hts gX9_takes_X9_stands rfl rfl rfl hd9_stands ⟨Nat.le_of_ble_eq_true rfl, Nat.le_of_ble_eq_true rfl⟩) (pre_V hK hX hI hA hS hv_this rfl rfl [.int (iI a0), .int (iI a1)]) rfl rfl hl.1 rfl (lv_room (Nat.le_of_ble_eq_true rfl)) dX9_takes_3 ⟨Nat.le_of_ble_eq_true rfl, Nat.le_of_ble_eq_true rfl⟩) hS (fun z1 st2 h H locs hI hS => ?_)
  refine lv_istore_n (lv' := [(3, .int (iI z1)), (0, .ref (G.2.2.1 9 0)), (1, .int (iI a0)), (2, .int (iI a1))]) hx hb dX9_takes_6 rfl hl (by decide) rfl (fun ls hl => ?_)
  refine lv_aload_n hx hb dX9_takes_7 rfl (lv_at hl 1 rfl) ?_
  refine gg_9_13 hx hb hts in9 hown hK hI hv_this lk_101 dX9_takes_8 ?_
  obtain ⟨g3, h⟩ := h
  refine r_if_ne (tgt := 18) hx hb dX9_takes_11 (by decide) g3 (fun c4 => ?_) (fun c4 => ?_)
  · replace h := h.2 c4
    refine lv_iload_n hx hb dX9_takes_18 rfl (lv_at hl 0 rfl) ?_
    exact r_iret hx hb hr hlocks hK hI hS (Qp := Q) h dX9_takes_19
  · replace h := h.1 c4
    refine lv_aload_n hx hb dX9_takes_14 rfl (lv_at hl 1 rfl) ?_
    refine r_callv (va_runV (As := []) (rest := []) ⟨hx, hb, hml, hown, hts⟩ (m9_next l G hv_this _ st2 h) (cwV 0 hts gX9_takes_X9_next rfl rfl rfl hd9_next ⟨Nat.le_of_ble_eq_true rfl, Nat.le_of_ble_eq_true rfl⟩) (pre_V hK hX hI hA hS hv_this rfl rfl []) rfl rfl hl.1 rfl (lv_room (Nat.le_of_ble_eq_true rfl)) dX9_takes_15 ⟨Nat.le_of_ble_eq_true rfl, Nat.le_of_ble_eq_true rfl⟩) hS (fun st6 h H locs hI hS => ?_)
    refine lv_iload_n hx hb dX9_takes_18 rfl (lv_at hl 0 rfl) ?_
    exact r_iret hx hb hr hlocks hK hI hS (Qp := Q) h dX9_takes_19
theorem hd9_placeOf : yX9_placeOf.cls = RX9 ∧ yX9_placeOf.cls ≠ "java/lang/invoke/MethodHandle" ∧ yX9_placeOf.cls ≠ "java/lang/invoke/VarHandle" ∧ (parseMethodDescriptor yX9_placeOf.desc).map (fun d => d.parameters.length) = some 1 := by decide +kernel
set_option maxHeartbeats 4000000 in
set_option maxRecDepth 100000 in
theorem m9_placeOf (l : Launch) (G : WG)   (hv_this : vM 9 0) (Q : Int → St → Prop) (st : St) (a0 : Int) (h : f9_placeOf Q st a0) : Met l yX9_placeOf wsX9_placeOf ({ frames := 0, cells := 0, slots := 0, locals := 0 }) (PcM vM G st [.ref (G.2.2.1 9 0), .int (iI a0)]) (QiM vM G Q) 0 0 G.2.2.2.1 := by
  refine Met.ofW (cc := cX9_placeOf) (maxL := 2) (ret := (some .int)) (by decide) rfl ?_
  intro p e s m args below meth c s₁ B hml hvv
  obtain ⟨rfl, hA, hI, hK, hX⟩ := hvv
  have hx := B.exec
  have hb := B.bytes
  have hr := B.returns
  have hts := atoms_spec (ws := wsX9_placeOf) B.pre
  have hown : s.vm.findClass RX9 = some m.cls := findClass_of_methodNamed B.named
  have hlocks := B.notSynchronized
  have hS : va_S G.2.2.2.1 s.heap s.heap [] := va_S.rf
  have in9 : ∀ w ∈ wsX90, w ∈ wsX9_placeOf := by decide +kernel
  have lk_7 := hts (.fieldLink RX9 7 "BeamLinesModel" "a" "[I") (by decide +kernel)
  have hl := lv_entry ([.ref (G.2.2.1 9 0), .int (iI a0)]) (n := 2) (Nat.le_of_ble_eq_true rfl)
  rw [lg_entry_eq]
  generalize (lg_sl ([.ref (G.2.2.1 9 0), .int (iI a0)]) ++ List.replicate (2 - (lg_sl ([.ref (G.2.2.1 9 0), .int (iI a0)])).length) Slot.unset).toArray = ls at hl ⊢
  have hl : lv_has ls 2 [(0, .ref (G.2.2.1 9 0)), (1, .int (iI a0))] := hl
  unfold f9_placeOf at h
  refine lv_aload_n hx hb dX9_placeOf_0 rfl (lv_at hl 0 rfl) ?_
  refine gg_9_0 hx hb hts in9 hown hK hI hv_this lk_7 dX9_placeOf_1 ?_
  refine r_bipush (n := 6) hx hb dX9_placeOf_4 rfl ?_
  refine r_iconst (n := 2) hx hb dX9_placeOf_6 ?_
  refine lv_iload_n hx hb dX9_placeOf_7 rfl (lv_at hl 1 rfl) ?_
  refine r_imul hx hb dX9_placeOf_8 ?_
  refine r_iadd hx hb dX9_placeOf_9 ?_
  obtain ⟨g1, g2, h⟩ := h
  refine r_iald hx hb hK hI (K := 30) (vrM_9_0 hv_this) rfl (mlen_le _) dX9_placeOf_10 g1 g2 ?_
  exact r_iret hx hb hr hlocks hK hI hS (Qp := Q) h dX9_placeOf_11
theorem hd9_supportAt : yX9_supportAt.cls = RX9 ∧ yX9_supportAt.cls ≠ "java/lang/invoke/MethodHandle" ∧ yX9_supportAt.cls ≠ "java/lang/invoke/VarHandle" ∧ (parseMethodDescriptor yX9_supportAt.desc).map (fun d => d.parameters.length) = some 1 := by decide +kernel
set_option maxHeartbeats 4000000 in
set_option maxRecDepth 100000 in
theorem m9_supportAt (l : Launch) (G : WG)   (hv_this : vM 9 0) (Q : Int → St → Prop) (st : St) (a0 : Int) (h : f9_supportAt Q st a0) : Met l yX9_supportAt wsX9_supportAt ({ frames := 1, cells := 0, slots := 0, locals := 21 }) (PcM vM G st [.ref (G.2.2.1 9 0), .int (iI a0)]) (QiM vM G Q) 0 0 G.2.2.2.1 := by
  refine Met.ofW (cc := cX9_supportAt) (maxL := 3) (ret := (some .int)) (by decide) rfl ?_
  intro p e s m args below meth c s₁ B hml hvv
  obtain ⟨rfl, hA, hI, hK, hX⟩ := hvv
  have hx := B.exec
  have hb := B.bytes
  have hr := B.returns
  have hts := atoms_spec (ws := wsX9_supportAt) B.pre
  have hown : s.vm.findClass RX9 = some m.cls := findClass_of_methodNamed B.named
  have hlocks := B.notSynchronized
  have hS : va_S G.2.2.2.1 s.heap s.heap [] := va_S.rf
  have in9 : ∀ w ∈ wsX90, w ∈ wsX9_supportAt := by decide +kernel
  have lk_7 := hts (.fieldLink RX9 7 "BeamLinesModel" "a" "[I") (by decide +kernel)
  have hl := lv_entry ([.ref (G.2.2.1 9 0), .int (iI a0)]) (n := 3) (Nat.le_of_ble_eq_true rfl)
  rw [lg_entry_eq]
  generalize (lg_sl ([.ref (G.2.2.1 9 0), .int (iI a0)]) ++ List.replicate (3 - (lg_sl ([.ref (G.2.2.1 9 0), .int (iI a0)])).length) Slot.unset).toArray = ls at hl ⊢
  have hl : lv_has ls 3 [(0, .ref (G.2.2.1 9 0)), (1, .int (iI a0))] := hl
  have L2 : ∀ (n2 : Nat), ∀ (st : St) (v2x2 : Int) (H : Heap) (locs : List Loc) (ls : Array Slot), Iv vM G st H → va_S G.2.2.2.1 s.heap H locs → lv_has ls 3 [(0, .ref (G.2.2.1 9 0)), (1, .int (iI a0)), (2, .int (iI v2x2))] → f9_supportAt_l2 Q a0 n2 st v2x2 → W p l e (headSpec wsX9_supportAt ({ frames := 1, cells := 0, slots := 0, locals := 21 })).room s m ([.ref (G.2.2.1 9 0), .int (iI a0)] : List Value).toArray below meth c H locs 0 0 (MQ below (QiM vM G Q) ([.ref (G.2.2.1 9 0), .int (iI a0)] : List Value).toArray s 0 0 G.2.2.2.1) (F0 m 2 ls []) := by
    intro n2
    induction n2 with
    | zero =>
      intro st v2x2 H locs ls hI hS hl h
      exact h.elim
    | succ n2 ih2 =>
      intro st v2x2 H locs ls hI hS hl h
      unfold f9_supportAt_l2 at h
      refine lv_iload_n hx hb dX9_supportAt_2 rfl (lv_at hl 2 rfl) ?_
      refine lv_aload_n hx hb dX9_supportAt_3 rfl (lv_at hl 0 rfl) ?_
      refine gg_9_0 hx hb hts in9 hown hK hI hv_this lk_7 dX9_supportAt_4 ?_
      refine r_iconst (n := 2) hx hb dX9_supportAt_7 ?_
      refine r_iald hx hb hK hI (K := 30) (vrM_9_0 hv_this) rfl (mlen_le _) dX9_supportAt_8 (by decide) (by decide) ?_
      obtain ⟨g1, h⟩ := h
      obtain ⟨g2, h⟩ := h
      refine r_icmp_ge (tgt := 29) hx hb dX9_supportAt_9 (by decide) g1 g2 (fun c3 => ?_) (fun c3 => ?_)
      · replace h := h.1 c3
        refine r_iconst (n := (-1)) hx hb dX9_supportAt_29 ?_
        exact r_iret hx hb hr hlocks hK hI hS (Qp := Q) h dX9_supportAt_30
      · replace h := h.2 c3
        refine lv_aload_n hx hb dX9_supportAt_12 rfl (lv_at hl 0 rfl) ?_
        refine lv_iload_n hx hb dX9_supportAt_13 rfl (lv_at hl 2 rfl) ?_
        refine r_calli (va_runV (As := [.int (iI v2x2)]) (rest := []) ⟨hx, hb, hml, hown, hts⟩ (m9_placeOf l G hv_this _ st v2x2 h) (cwV 1 hts gX9_supportAt_X9_placeOf rfl rfl rfl hd9_placeOf ⟨Nat.le_of_ble_eq_true rfl, Nat.le_of_ble_eq_true rfl⟩) (pre_V hK hX hI hA hS hv_this rfl rfl [.int (iI v2x2)]) rfl rfl hl.1 rfl (lv_room (Nat.le_of_ble_eq_true rfl)) dX9_supportAt_14 ⟨Nat.le_of_ble_eq_true rfl, Nat.le_of_ble_eq_true rfl⟩) hS (fun z4 st5 h H locs hI hS => ?_)
        refine lv_iload_n hx hb dX9_supportAt_17 rfl (lv_at hl 1 rfl) ?_
        obtain ⟨g6, h⟩ := h
        obtain ⟨g7, h⟩ := h
        refine r_icmp_ne (tgt := 23) hx hb dX9_supportAt_18 (by decide) g6 g7 (fun c8 => ?_) (fun c8 => ?_)
        · replace h := h.2 c8
          obtain ⟨x9, hx9⟩ : ∃ z : Int, z = v2x2 + 1 := ⟨_, rfl⟩
          replace h := h x9 hx9
          refine lv_iinc (v := iI x9) (lv' := [(2, .int (iI x9)), (0, .ref (G.2.2.1 9 0)), (1, .int (iI a0))]) hx hb dX9_supportAt_23 hl (k := 2) rfl (by rw [hx9]; exact iI_add _ _) (by decide) rfl (fun ls hl => ?_)
          refine lv_goto (tgt := 2) hx hb dX9_supportAt_26 (by decide) ?_
          exact ih2 st5 x9 _ _ ls hI hS (lv_sub hl [1, 2, 0] rfl) h
        · replace h := h.1 c8
          refine lv_iload_n hx hb dX9_supportAt_21 rfl (lv_at hl 2 rfl) ?_
          exact r_iret hx hb hr hlocks hK hI hS (Qp := Q) h dX9_supportAt_22
  unfold f9_supportAt at h
  refine r_iconst (n := 0) hx hb dX9_supportAt_0 ?_
  refine lv_istore_n (lv' := [(2, .int (iI 0)), (0, .ref (G.2.2.1 9 0)), (1, .int (iI a0))]) hx hb dX9_supportAt_1 rfl hl (by decide) rfl (fun ls hl => ?_)
  obtain ⟨kk, h⟩ := h
  exact L2 kk st 0 _ _ ls hI hS (lv_sub hl [1, 2, 0] rfl) h
theorem hd9_hingeAt : yX9_hingeAt.cls = RX9 ∧ yX9_hingeAt.cls ≠ "java/lang/invoke/MethodHandle" ∧ yX9_hingeAt.cls ≠ "java/lang/invoke/VarHandle" ∧ (parseMethodDescriptor yX9_hingeAt.desc).map (fun d => d.parameters.length) = some 1 := by decide +kernel
set_option maxHeartbeats 4000000 in
set_option maxRecDepth 100000 in
theorem m9_hingeAt (l : Launch) (G : WG)   (hv_this : vM 9 0) (Q : Int → St → Prop) (st : St) (a0 : Int) (h : f9_hingeAt Q st a0) : Met l yX9_hingeAt wsX9_hingeAt ({ frames := 0, cells := 0, slots := 0, locals := 0 }) (PcM vM G st [.ref (G.2.2.1 9 0), .int (iI a0)]) (QiM vM G Q) 0 0 G.2.2.2.1 := by
  refine Met.ofW (cc := cX9_hingeAt) (maxL := 3) (ret := (some .int)) (by decide) rfl ?_
  intro p e s m args below meth c s₁ B hml hvv
  obtain ⟨rfl, hA, hI, hK, hX⟩ := hvv
  have hx := B.exec
  have hb := B.bytes
  have hr := B.returns
  have hts := atoms_spec (ws := wsX9_hingeAt) B.pre
  have hown : s.vm.findClass RX9 = some m.cls := findClass_of_methodNamed B.named
  have hlocks := B.notSynchronized
  have hS : va_S G.2.2.2.1 s.heap s.heap [] := va_S.rf
  have in9 : ∀ w ∈ wsX90, w ∈ wsX9_hingeAt := by decide +kernel
  have lk_7 := hts (.fieldLink RX9 7 "BeamLinesModel" "a" "[I") (by decide +kernel)
  have hl := lv_entry ([.ref (G.2.2.1 9 0), .int (iI a0)]) (n := 3) (Nat.le_of_ble_eq_true rfl)
  rw [lg_entry_eq]
  generalize (lg_sl ([.ref (G.2.2.1 9 0), .int (iI a0)]) ++ List.replicate (3 - (lg_sl ([.ref (G.2.2.1 9 0), .int (iI a0)])).length) Slot.unset).toArray = ls at hl ⊢
  have hl : lv_has ls 3 [(0, .ref (G.2.2.1 9 0)), (1, .int (iI a0))] := hl
  have L2 : ∀ (n2 : Nat), ∀ (st : St) (v2x2 : Int) (H : Heap) (locs : List Loc) (ls : Array Slot), Iv vM G st H → va_S G.2.2.2.1 s.heap H locs → lv_has ls 3 [(0, .ref (G.2.2.1 9 0)), (1, .int (iI a0)), (2, .int (iI v2x2))] → f9_hingeAt_l2 Q a0 n2 st v2x2 → W p l e (headSpec wsX9_hingeAt ({ frames := 0, cells := 0, slots := 0, locals := 0 })).room s m ([.ref (G.2.2.1 9 0), .int (iI a0)] : List Value).toArray below meth c H locs 0 0 (MQ below (QiM vM G Q) ([.ref (G.2.2.1 9 0), .int (iI a0)] : List Value).toArray s 0 0 G.2.2.2.1) (F0 m 2 ls []) := by
    intro n2
    induction n2 with
    | zero =>
      intro st v2x2 H locs ls hI hS hl h
      exact h.elim
    | succ n2 ih2 =>
      intro st v2x2 H locs ls hI hS hl h
      unfold f9_hingeAt_l2 at h
      refine lv_iload_n hx hb dX9_hingeAt_2 rfl (lv_at hl 2 rfl) ?_
      refine lv_aload_n hx hb dX9_hingeAt_3 rfl (lv_at hl 0 rfl) ?_
      refine gg_9_0 hx hb hts in9 hown hK hI hv_this lk_7 dX9_hingeAt_4 ?_
      refine r_iconst (n := 3) hx hb dX9_hingeAt_7 ?_
      refine r_iald hx hb hK hI (K := 30) (vrM_9_0 hv_this) rfl (mlen_le _) dX9_hingeAt_8 (by decide) (by decide) ?_
      obtain ⟨g1, h⟩ := h
      obtain ⟨g2, h⟩ := h
      refine r_icmp_ge (tgt := 33) hx hb dX9_hingeAt_9 (by decide) g1 g2 (fun c3 => ?_) (fun c3 => ?_)
      · replace h := h.1 c3
        refine r_iconst (n := (-1)) hx hb dX9_hingeAt_33 ?_
        exact r_iret hx hb hr hlocks hK hI hS (Qp := Q) h dX9_hingeAt_34
      · replace h := h.2 c3
        refine lv_aload_n hx hb dX9_hingeAt_12 rfl (lv_at hl 0 rfl) ?_
        refine gg_9_0 hx hb hts in9 hown hK hI hv_this lk_7 dX9_hingeAt_13 ?_
        refine r_bipush (n := 16) hx hb dX9_hingeAt_16 rfl ?_
        refine lv_iload_n hx hb dX9_hingeAt_18 rfl (lv_at hl 2 rfl) ?_
        refine r_iadd hx hb dX9_hingeAt_19 ?_
        obtain ⟨g4, g5, h⟩ := h
        refine r_iald hx hb hK hI (K := 30) (vrM_9_0 hv_this) rfl (mlen_le _) dX9_hingeAt_20 g4 g5 ?_
        refine lv_iload_n hx hb dX9_hingeAt_21 rfl (lv_at hl 1 rfl) ?_
        obtain ⟨g6, h⟩ := h
        obtain ⟨g7, h⟩ := h
        refine r_icmp_ne (tgt := 27) hx hb dX9_hingeAt_22 (by decide) g6 g7 (fun c8 => ?_) (fun c8 => ?_)
        · replace h := h.2 c8
          obtain ⟨x9, hx9⟩ : ∃ z : Int, z = v2x2 + 1 := ⟨_, rfl⟩
          replace h := h x9 hx9
          refine lv_iinc (v := iI x9) (lv' := [(2, .int (iI x9)), (0, .ref (G.2.2.1 9 0)), (1, .int (iI a0))]) hx hb dX9_hingeAt_27 hl (k := 2) rfl (by rw [hx9]; exact iI_add _ _) (by decide) rfl (fun ls hl => ?_)
          refine lv_goto (tgt := 2) hx hb dX9_hingeAt_30 (by decide) ?_
          exact ih2 st x9 _ _ ls hI hS (lv_sub hl [1, 2, 0] rfl) h
        · replace h := h.1 c8
          refine lv_iload_n hx hb dX9_hingeAt_25 rfl (lv_at hl 2 rfl) ?_
          exact r_iret hx hb hr hlocks hK hI hS (Qp := Q) h dX9_hingeAt_26
  unfold f9_hingeAt at h
  refine r_iconst (n := 0) hx hb dX9_hingeAt_0 ?_
  refine lv_istore_n (lv' := [(2, .int (iI 0)), (0, .ref (G.2.2.1 9 0)), (1, .int (iI a0))]) hx hb dX9_hingeAt_1 rfl hl (by decide) rfl (fun ls hl => ?_)
  obtain ⟨kk, h⟩ := h
  exact L2 kk st 0 _ _ ls hI hS (lv_sub hl [1, 2, 0] rfl) h
theorem hd9_takesPlace : yX9_takesPlace.cls = RX9 ∧ yX9_takesPlace.cls ≠ "java/lang/invoke/MethodHandle" ∧ yX9_takesPlace.cls ≠ "java/lang/invoke/VarHandle" ∧ (parseMethodDescriptor yX9_takesPlace.desc).map (fun d => d.parameters.length) = some 2 := by decide +kernel
set_option maxHeartbeats 4000000 in
set_option maxRecDepth 100000 in
theorem m9_takesPlace (l : Launch) (G : WG)   (hv_this : vM 9 0) (Q : Int → St → Prop) (st : St) (a0 : Int) (a1 : Int) (h : f9_takesPlace Q st a0 a1) : Met l yX9_takesPlace wsX9_takesPlace ({ frames := 3, cells := 0, slots := 0, locals := 63 }) (PcM vM G st [.ref (G.2.2.1 9 0), .int (iI a0), .int (iI a1)]) (QiM vM G Q) 0 0 G.2.2.2.1 := by
  refine Met.ofW (cc := cX9_takesPlace) (maxL := 4) (ret := (some .int)) (by decide) rfl ?_
  intro p e s m args below meth c s₁ B hml hvv
  obtain ⟨rfl, hA, hI, hK, hX⟩ := hvv
  have hx := B.exec
  have hb := B.bytes
  have hr := B.returns
  have hts := atoms_spec (ws := wsX9_takesPlace) B.pre
  have hown : s.vm.findClass RX9 = some m.cls := findClass_of_methodNamed B.named
  have hlocks := B.notSynchronized
  have hS : va_S G.2.2.2.1 s.heap s.heap [] := va_S.rf
  have in9 : ∀ w ∈ wsX90, w ∈ wsX9_takesPlace := by decide +kernel
  have lk_101 := hts (.fieldLink RX9 101 "BeamLinesModel" "wrong" "I") (by decide +kernel)
  have hl := lv_entry ([.ref (G.2.2.1 9 0), .int (iI a0), .int (iI a1)]) (n := 4) (Nat.le_of_ble_eq_true rfl)
  rw [lg_entry_eq]
  generalize (lg_sl ([.ref (G.2.2.1 9 0), .int (iI a0), .int (iI a1)]) ++ List.replicate (4 - (lg_sl ([.ref (G.2.2.1 9 0), .int (iI a0), .int (iI a1)])).length) Slot.unset).toArray = ls at hl ⊢
  have hl : lv_has ls 4 [(0, .ref (G.2.2.1 9 0)), (1, .int (iI a0)), (2, .int (iI a1))] := hl
  have J38 : ∀ (st : St) (v3x38 : Int) (H : Heap) (locs : List Loc) (ls : Array Slot), Iv vM G st H → va_S G.2.2.2.1 s.heap H locs → lv_has ls 4 [(0, .ref (G.2.2.1 9 0)), (3, .int (iI v3x38))] → f9_takesPlace_j38 Q st v3x38 → W p l e (headSpec wsX9_takesPlace ({ frames := 3, cells := 0, slots := 0, locals := 63 })).room s m ([.ref (G.2.2.1 9 0), .int (iI a0), .int (iI a1)] : List Value).toArray below meth c H locs 0 0 (MQ below (QiM vM G Q) ([.ref (G.2.2.1 9 0), .int (iI a0), .int (iI a1)] : List Value).toArray s 0 0 G.2.2.2.1) (F0 m 38 ls []) := by
    intro st v3x38 H locs ls hI hS hl h
    unfold f9_takesPlace_j38 at h
    refine lv_aload_n hx hb dX9_takesPlace_38 rfl (lv_at hl 0 rfl) ?_
    refine gg_9_13 hx hb hts in9 hown hK hI hv_this lk_101 dX9_takesPlace_39 ?_
    obtain ⟨g13, h⟩ := h
    refine r_if_ne (tgt := 49) hx hb dX9_takesPlace_42 (by decide) g13 (fun c14 => ?_) (fun c14 => ?_)
    · replace h := h.2 c14
      refine lv_iload_n hx hb dX9_takesPlace_49 rfl (lv_at hl 1 rfl) ?_
      exact r_iret hx hb hr hlocks hK hI hS (Qp := Q) h dX9_takesPlace_50
    · replace h := h.1 c14
      refine lv_aload_n hx hb dX9_takesPlace_45 rfl (lv_at hl 0 rfl) ?_
      refine r_callv (va_runV (As := []) (rest := []) ⟨hx, hb, hml, hown, hts⟩ (m9_next l G hv_this _ st h) (cwV 0 hts gX9_takesPlace_X9_next rfl rfl rfl hd9_next ⟨Nat.le_of_ble_eq_true rfl, Nat.le_of_ble_eq_true rfl⟩) (pre_V hK hX hI hA hS hv_this rfl rfl []) rfl rfl hl.1 rfl (lv_room (Nat.le_of_ble_eq_true rfl)) dX9_takesPlace_46 ⟨Nat.le_of_ble_eq_true rfl, Nat.le_of_ble_eq_true rfl⟩) hS (fun st16 h H locs hI hS => ?_)
      refine lv_iload_n hx hb dX9_takesPlace_49 rfl (lv_at hl 1 rfl) ?_
      exact r_iret hx hb hr hlocks hK hI hS (Qp := Q) h dX9_takesPlace_50
  have J32 : ∀ (st : St) (v3x32 : Int) (H : Heap) (locs : List Loc) (ls : Array Slot), Iv vM G st H → va_S G.2.2.2.1 s.heap H locs → lv_has ls 4 [(0, .ref (G.2.2.1 9 0)), (3, .int (iI v3x32))] → f9_takesPlace_j32 Q st v3x32 → W p l e (headSpec wsX9_takesPlace ({ frames := 3, cells := 0, slots := 0, locals := 63 })).room s m ([.ref (G.2.2.1 9 0), .int (iI a0), .int (iI a1)] : List Value).toArray below meth c H locs 0 0 (MQ below (QiM vM G Q) ([.ref (G.2.2.1 9 0), .int (iI a0), .int (iI a1)] : List Value).toArray s 0 0 G.2.2.2.1) (F0 m 32 ls []) := by
    intro st v3x32 H locs ls hI hS hl h
    unfold f9_takesPlace_j32 at h
    refine lv_aload_n hx hb dX9_takesPlace_32 rfl (lv_at hl 0 rfl) ?_
    refine r_bipush (n := (-4)) hx hb dX9_takesPlace_33 rfl ?_
    refine r_callv (va_runV (As := [.int (iI (-4))]) (rest := []) ⟨hx, hb, hml, hown, hts⟩ (m9_fails l G hv_this _ st (-4) h) (cwV 1 hts gX9_takesPlace_X9_fails rfl rfl rfl hd9_fails ⟨Nat.le_of_ble_eq_true rfl, Nat.le_of_ble_eq_true rfl⟩) (pre_V hK hX hI hA hS hv_this rfl rfl [.int (iI (-4))]) rfl rfl hl.1 rfl (lv_room (Nat.le_of_ble_eq_true rfl)) dX9_takesPlace_35 ⟨Nat.le_of_ble_eq_true rfl, Nat.le_of_ble_eq_true rfl⟩) hS (fun st18 h H locs hI hS => ?_)
    exact J38 st18 v3x32 _ _ ls hI hS (lv_sub hl [0, 1] rfl) h
  unfold f9_takesPlace at h
  refine lv_aload_n hx hb dX9_takesPlace_0 rfl (lv_at hl 0 rfl) ?_
  refine lv_iload_n hx hb dX9_takesPlace_1 rfl (lv_at hl 1 rfl) ?_
  refine lv_iload_n hx hb dX9_takesPlace_2 rfl (lv_at hl 2 rfl) ?_
  refine r_calli (va_runV (As := [.int (iI a0), .int (iI a1)]) (rest := []) ⟨hx, hb, hml, hown, hts⟩ (m9_stands l G hv_this _ st a0 a1 h) (cwV 2 hts gX9_takesPlace_X9_stands rfl rfl rfl hd9_stands ⟨Nat.le_of_ble_eq_true rfl, Nat.le_of_ble_eq_true rfl⟩) (pre_V hK hX hI hA hS hv_this rfl rfl [.int (iI a0), .int (iI a1)]) rfl rfl hl.1 rfl (lv_room (Nat.le_of_ble_eq_true rfl)) dX9_takesPlace_3 ⟨Nat.le_of_ble_eq_true rfl, Nat.le_of_ble_eq_true rfl⟩) hS (fun z1 st2 h H locs hI hS => ?_)
  refine lv_istore_n (lv' := [(3, .int (iI z1)), (0, .ref (G.2.2.1 9 0)), (1, .int (iI a0)), (2, .int (iI a1))]) hx hb dX9_takesPlace_6 rfl hl (by decide) rfl (fun ls hl => ?_)
  refine lv_aload_n hx hb dX9_takesPlace_7 rfl (lv_at hl 1 rfl) ?_
  refine gg_9_13 hx hb hts in9 hown hK hI hv_this lk_101 dX9_takesPlace_8 ?_
  obtain ⟨g3, h⟩ := h
  refine r_if_ne (tgt := 38) hx hb dX9_takesPlace_11 (by decide) g3 (fun c4 => ?_) (fun c4 => ?_)
  · replace h := h.2 c4
    exact J38 st2 z1 _ _ ls hI hS (lv_sub hl [1, 0] rfl) h
  · replace h := h.1 c4
    refine lv_aload_n hx hb dX9_takesPlace_14 rfl (lv_at hl 1 rfl) ?_
    refine lv_iload_n hx hb dX9_takesPlace_15 rfl (lv_at hl 0 rfl) ?_
    refine r_calli (va_runV (As := [.int (iI z1)]) (rest := []) ⟨hx, hb, hml, hown, hts⟩ (m9_supportAt l G hv_this _ st2 z1 h) (cwV 1 hts gX9_takesPlace_X9_supportAt rfl rfl rfl hd9_supportAt ⟨Nat.le_of_ble_eq_true rfl, Nat.le_of_ble_eq_true rfl⟩) (pre_V hK hX hI hA hS hv_this rfl rfl [.int (iI z1)]) rfl rfl hl.1 rfl (lv_room (Nat.le_of_ble_eq_true rfl)) dX9_takesPlace_16 ⟨Nat.le_of_ble_eq_true rfl, Nat.le_of_ble_eq_true rfl⟩) hS (fun z5 st6 h H locs hI hS => ?_)
    refine r_iconst (n := (-1)) hx hb dX9_takesPlace_19 ?_
    obtain ⟨g7, h⟩ := h
    refine r_icmp_ne (tgt := 32) hx hb dX9_takesPlace_20 (by decide) g7 (inI_mk rfl) (fun c8 => ?_) (fun c8 => ?_)
    · replace h := h.2 c8
      exact J32 st6 z1 _ _ ls hI hS (lv_sub hl [1, 0] rfl) h
    · replace h := h.1 c8
      refine lv_aload_n hx hb dX9_takesPlace_23 rfl (lv_at hl 1 rfl) ?_
      refine lv_iload_n hx hb dX9_takesPlace_24 rfl (lv_at hl 0 rfl) ?_
      refine r_calli (va_runV (As := [.int (iI z1)]) (rest := []) ⟨hx, hb, hml, hown, hts⟩ (m9_hingeAt l G hv_this _ st6 z1 h) (cwV 1 hts gX9_takesPlace_X9_hingeAt rfl rfl rfl hd9_hingeAt ⟨Nat.le_of_ble_eq_true rfl, Nat.le_of_ble_eq_true rfl⟩) (pre_V hK hX hI hA hS hv_this rfl rfl [.int (iI z1)]) rfl rfl hl.1 rfl (lv_room (Nat.le_of_ble_eq_true rfl)) dX9_takesPlace_25 ⟨Nat.le_of_ble_eq_true rfl, Nat.le_of_ble_eq_true rfl⟩) hS (fun z9 st10 h H locs hI hS => ?_)
      refine r_iconst (n := (-1)) hx hb dX9_takesPlace_28 ?_
      obtain ⟨g11, h⟩ := h
      refine r_icmp_eq (tgt := 38) hx hb dX9_takesPlace_29 (by decide) g11 (inI_mk rfl) (fun c12 => ?_) (fun c12 => ?_)
      · replace h := h.1 c12
        exact J38 st10 z1 _ _ ls hI hS (lv_sub hl [1, 0] rfl) h
      · replace h := h.2 c12
        exact J32 st10 z1 _ _ ls hI hS (lv_sub hl [1, 0] rfl) h
theorem hd9_begins : yX9_begins.cls = RX9 ∧ yX9_begins.cls ≠ "java/lang/invoke/MethodHandle" ∧ yX9_begins.cls ≠ "java/lang/invoke/VarHandle" ∧ (parseMethodDescriptor yX9_begins.desc).map (fun d => d.parameters.length) = some 2 := by decide +kernel
set_option maxHeartbeats 4000000 in
set_option maxRecDepth 100000 in
theorem m9_begins (l : Launch) (G : WG)   (hv_this : vM 9 0) (Q : St → Prop) (st : St) (a0 : Int) (a1 : Int) (h : f9_begins Q st a0 a1) : Met l yX9_begins wsX9_begins ({ frames := 4, cells := 0, slots := 0, locals := 84 }) (PcM vM G st [.ref (G.2.2.1 9 0), .int (iI a0), .int (iI a1)]) (QvM vM G Q) 0 0 G.2.2.2.1 := by
  refine Met.ofW (cc := cX9_begins) (maxL := 3) (ret := none) (by decide) rfl ?_
  intro p e s m args below meth c s₁ B hml hvv
  obtain ⟨rfl, hA, hI, hK, hX⟩ := hvv
  have hx := B.exec
  have hb := B.bytes
  have hr := B.returns
  have hts := atoms_spec (ws := wsX9_begins) B.pre
  have hown : s.vm.findClass RX9 = some m.cls := findClass_of_methodNamed B.named
  have hlocks := B.notSynchronized
  have hS : va_S G.2.2.2.1 s.heap s.heap [] := va_S.rf
  have in9 : ∀ w ∈ wsX90, w ∈ wsX9_begins := by decide +kernel
  have lk_7 := hts (.fieldLink RX9 7 "BeamLinesModel" "a" "[I") (by decide +kernel)
  have hl := lv_entry ([.ref (G.2.2.1 9 0), .int (iI a0), .int (iI a1)]) (n := 3) (Nat.le_of_ble_eq_true rfl)
  rw [lg_entry_eq]
  generalize (lg_sl ([.ref (G.2.2.1 9 0), .int (iI a0), .int (iI a1)]) ++ List.replicate (3 - (lg_sl ([.ref (G.2.2.1 9 0), .int (iI a0), .int (iI a1)])).length) Slot.unset).toArray = ls at hl ⊢
  have hl : lv_has ls 3 [(0, .ref (G.2.2.1 9 0)), (1, .int (iI a0)), (2, .int (iI a1))] := hl
  have J16 : ∀ (st : St) (H : Heap) (locs : List Loc) (ls : Array Slot), Iv vM G st H → va_S G.2.2.2.1 s.heap H locs → lv_has ls 3 [(0, .ref (G.2.2.1 9 0))] → f9_begins_j16 Q st → W p l e (headSpec wsX9_begins ({ frames := 4, cells := 0, slots := 0, locals := 84 })).room s m ([.ref (G.2.2.1 9 0), .int (iI a0), .int (iI a1)] : List Value).toArray below meth c H locs 0 0 (MQ below (QvM vM G Q) ([.ref (G.2.2.1 9 0), .int (iI a0), .int (iI a1)] : List Value).toArray s 0 0 G.2.2.2.1) (F0 m 16 ls []) := by
    intro st H locs ls hI hS hl h
    unfold f9_begins_j16 at h
    refine lv_aload_n hx hb dX9_begins_16 rfl (lv_at hl 0 rfl) ?_
    refine r_iconst (n := 1) hx hb dX9_begins_17 ?_
    refine r_callv (va_runV (As := [.int (iI 1)]) (rest := []) ⟨hx, hb, hml, hown, hts⟩ (m9_must l G hv_this _ st 1 h) (cwV 1 hts gX9_begins_X9_must rfl rfl rfl hd9_must ⟨Nat.le_of_ble_eq_true rfl, Nat.le_of_ble_eq_true rfl⟩) (pre_V hK hX hI hA hS hv_this rfl rfl [.int (iI 1)]) rfl rfl hl.1 rfl (lv_room (Nat.le_of_ble_eq_true rfl)) dX9_begins_18 ⟨Nat.le_of_ble_eq_true rfl, Nat.le_of_ble_eq_true rfl⟩) hS (fun st9 h H locs hI hS => ?_)
    exact r_vret hx hb hr hlocks hK hI hS (Qp := Q) h dX9_begins_21
  unfold f9_begins at h
  refine lv_aload_n hx hb dX9_begins_0 rfl (lv_at hl 0 rfl) ?_
  refine gg_9_0 hx hb hts in9 hown hK hI hv_this lk_7 dX9_begins_1 ?_
  refine lv_iload_n hx hb dX9_begins_4 rfl (lv_at hl 1 rfl) ?_
  obtain ⟨g1, g2, h⟩ := h
  refine r_iald hx hb hK hI (K := 30) (vrM_9_0 hv_this) rfl (mlen_le _) dX9_begins_5 g1 g2 ?_
  refine lv_iload_n hx hb dX9_begins_6 rfl (lv_at hl 2 rfl) ?_
  obtain ⟨g3, h⟩ := h
  obtain ⟨g4, h⟩ := h
  refine r_icmp_ne (tgt := 16) hx hb dX9_begins_7 (by decide) g3 g4 (fun c5 => ?_) (fun c5 => ?_)
  · replace h := h.2 c5
    exact J16 st  _ _ ls hI hS (lv_sub hl [0] rfl) h
  · replace h := h.1 c5
    refine lv_aload_n hx hb dX9_begins_10 rfl (lv_at hl 0 rfl) ?_
    refine r_bipush (n := (-5)) hx hb dX9_begins_11 rfl ?_
    refine r_callv (va_runV (As := [.int (iI (-5))]) (rest := []) ⟨hx, hb, hml, hown, hts⟩ (m9_fails l G hv_this _ st (-5) h) (cwV 1 hts gX9_begins_X9_fails rfl rfl rfl hd9_fails ⟨Nat.le_of_ble_eq_true rfl, Nat.le_of_ble_eq_true rfl⟩) (pre_V hK hX hI hA hS hv_this rfl rfl [.int (iI (-5))]) rfl rfl hl.1 rfl (lv_room (Nat.le_of_ble_eq_true rfl)) dX9_begins_13 ⟨Nat.le_of_ble_eq_true rfl, Nat.le_of_ble_eq_true rfl⟩) hS (fun st7 h H locs hI hS => ?_)
    exact J16 st7  _ _ ls hI hS (lv_sub hl [0] rfl) h
theorem hd9_addsSupport : yX9_addsSupport.cls = RX9 ∧ yX9_addsSupport.cls ≠ "java/lang/invoke/MethodHandle" ∧ yX9_addsSupport.cls ≠ "java/lang/invoke/VarHandle" ∧ (parseMethodDescriptor yX9_addsSupport.desc).map (fun d => d.parameters.length) = some 2 := by decide +kernel
set_option maxHeartbeats 4000000 in
set_option maxRecDepth 100000 in
theorem m9_addsSupport (l : Launch) (G : WG)   (hv_this : vM 9 0) (Q : St → Prop) (st : St) (a0 : Int) (a1 : Int) (h : f9_addsSupport Q st a0 a1) : Met l yX9_addsSupport wsX9_addsSupport ({ frames := 1, cells := 0, slots := 0, locals := 21 }) (PcM vM G st [.ref (G.2.2.1 9 0), .int (iI a0), .int (iI a1)]) (QvM vM G Q) 0 0 G.2.2.2.1 := by
  refine Met.ofW (cc := cX9_addsSupport) (maxL := 4) (ret := none) (by decide) rfl ?_
  intro p e s m args below meth c s₁ B hml hvv
  obtain ⟨rfl, hA, hI, hK, hX⟩ := hvv
  have hx := B.exec
  have hb := B.bytes
  have hr := B.returns
  have hts := atoms_spec (ws := wsX9_addsSupport) B.pre
  have hown : s.vm.findClass RX9 = some m.cls := findClass_of_methodNamed B.named
  have hlocks := B.notSynchronized
  have hS : va_S G.2.2.2.1 s.heap s.heap [] := va_S.rf
  have in9 : ∀ w ∈ wsX90, w ∈ wsX9_addsSupport := by decide +kernel
  have lk_7 := hts (.fieldLink RX9 7 "BeamLinesModel" "a" "[I") (by decide +kernel)
  have hl := lv_entry ([.ref (G.2.2.1 9 0), .int (iI a0), .int (iI a1)]) (n := 4) (Nat.le_of_ble_eq_true rfl)
  rw [lg_entry_eq]
  generalize (lg_sl ([.ref (G.2.2.1 9 0), .int (iI a0), .int (iI a1)]) ++ List.replicate (4 - (lg_sl ([.ref (G.2.2.1 9 0), .int (iI a0), .int (iI a1)])).length) Slot.unset).toArray = ls at hl ⊢
  have hl : lv_has ls 4 [(0, .ref (G.2.2.1 9 0)), (1, .int (iI a0)), (2, .int (iI a1))] := hl
  have J78 : ∀ (st : St) (v3x78 : Int) (H : Heap) (locs : List Loc) (ls : Array Slot), Iv vM G st H → va_S G.2.2.2.1 s.heap H locs → lv_has ls 4 [(0, .ref (G.2.2.1 9 0)), (1, .int (iI a0)), (2, .int (iI a1)), (3, .int (iI v3x78))] → f9_addsSupport_j78 Q a0 a1 st v3x78 → W p l e (headSpec wsX9_addsSupport ({ frames := 1, cells := 0, slots := 0, locals := 21 })).room s m ([.ref (G.2.2.1 9 0), .int (iI a0), .int (iI a1)] : List Value).toArray below meth c H locs 0 0 (MQ below (QvM vM G Q) ([.ref (G.2.2.1 9 0), .int (iI a0), .int (iI a1)] : List Value).toArray s 0 0 G.2.2.2.1) (F0 m 78 ls []) := by
    intro st v3x78 H locs ls hI hS hl h
    unfold f9_addsSupport_j78 at h
    refine lv_aload_n hx hb dX9_addsSupport_78 rfl (lv_at hl 0 rfl) ?_
    refine gg_9_0 hx hb hts in9 hown hK hI hv_this lk_7 dX9_addsSupport_79 ?_
    refine r_bipush (n := 6) hx hb dX9_addsSupport_82 rfl ?_
    refine r_iconst (n := 2) hx hb dX9_addsSupport_84 ?_
    refine lv_iload_n hx hb dX9_addsSupport_85 rfl (lv_at hl 3 rfl) ?_
    refine r_imul hx hb dX9_addsSupport_86 ?_
    refine r_iadd hx hb dX9_addsSupport_87 ?_
    refine lv_iload_n hx hb dX9_addsSupport_88 rfl (lv_at hl 1 rfl) ?_
    obtain ⟨g20, g21, h⟩ := h
    refine r_iast hx hb hK hI hS (K := 30) (vrM_9_0 hv_this) (fun _ => rfl) (mlen_le _) dX9_addsSupport_89 g20 g21 (fun st22 hst22 H locs hI hS => ?_)
    replace h := h st22 hst22
    refine lv_aload_n hx hb dX9_addsSupport_90 rfl (lv_at hl 0 rfl) ?_
    refine gg_9_0 hx hb hts in9 hown hK hI hv_this lk_7 dX9_addsSupport_91 ?_
    refine r_bipush (n := 6) hx hb dX9_addsSupport_94 rfl ?_
    refine r_iconst (n := 2) hx hb dX9_addsSupport_96 ?_
    refine lv_iload_n hx hb dX9_addsSupport_97 rfl (lv_at hl 3 rfl) ?_
    refine r_imul hx hb dX9_addsSupport_98 ?_
    refine r_iadd hx hb dX9_addsSupport_99 ?_
    refine r_iconst (n := 1) hx hb dX9_addsSupport_100 ?_
    refine r_iadd hx hb dX9_addsSupport_101 ?_
    refine lv_iload_n hx hb dX9_addsSupport_102 rfl (lv_at hl 2 rfl) ?_
    obtain ⟨g23, g24, h⟩ := h
    refine r_iast hx hb hK hI hS (K := 30) (vrM_9_0 hv_this) (fun _ => rfl) (mlen_le _) dX9_addsSupport_103 g23 g24 (fun st25 hst25 H locs hI hS => ?_)
    replace h := h st25 hst25
    refine lv_aload_n hx hb dX9_addsSupport_104 rfl (lv_at hl 0 rfl) ?_
    refine gg_9_0 hx hb hts in9 hown hK hI hv_this lk_7 dX9_addsSupport_105 ?_
    refine r_iconst (n := 2) hx hb dX9_addsSupport_108 ?_
    refine lv_dup2_11 hx hb dX9_addsSupport_109 rfl rfl ?_
    refine r_iald hx hb hK hI (K := 30) (vrM_9_0 hv_this) rfl (mlen_le _) dX9_addsSupport_110 (by decide) (by decide) ?_
    refine r_iconst (n := 1) hx hb dX9_addsSupport_111 ?_
    refine r_iadd hx hb dX9_addsSupport_112 ?_
    refine r_iast hx hb hK hI hS (K := 30) (vrM_9_0 hv_this) (fun _ => rfl) (mlen_le _) dX9_addsSupport_113 (by decide) (by decide) (fun st26 hst26 H locs hI hS => ?_)
    replace h := h st26 hst26
    exact r_vret hx hb hr hlocks hK hI hS (Qp := Q) h dX9_addsSupport_114
  have L7 : ∀ (n7 : Nat), ∀ (st : St) (v3x7 : Int) (H : Heap) (locs : List Loc) (ls : Array Slot), Iv vM G st H → va_S G.2.2.2.1 s.heap H locs → lv_has ls 4 [(0, .ref (G.2.2.1 9 0)), (1, .int (iI a0)), (2, .int (iI a1)), (3, .int (iI v3x7))] → f9_addsSupport_l7 Q a0 a1 n7 st v3x7 → W p l e (headSpec wsX9_addsSupport ({ frames := 1, cells := 0, slots := 0, locals := 21 })).room s m ([.ref (G.2.2.1 9 0), .int (iI a0), .int (iI a1)] : List Value).toArray below meth c H locs 0 0 (MQ below (QvM vM G Q) ([.ref (G.2.2.1 9 0), .int (iI a0), .int (iI a1)] : List Value).toArray s 0 0 G.2.2.2.1) (F0 m 7 ls []) := by
    intro n7
    induction n7 with
    | zero =>
      intro st v3x7 H locs ls hI hS hl h
      exact h.elim
    | succ n7 ih7 =>
      intro st v3x7 H locs ls hI hS hl h
      unfold f9_addsSupport_l7 at h
      refine lv_iload_n hx hb dX9_addsSupport_7 rfl (lv_at hl 3 rfl) ?_
      obtain ⟨g2, h⟩ := h
      refine r_if_le (tgt := 78) hx hb dX9_addsSupport_8 (by decide) g2 (fun c3 => ?_) (fun c3 => ?_)
      · replace h := h.1 c3
        exact J78 st v3x7 _ _ ls hI hS (lv_sub hl [0, 1, 2, 3] rfl) h
      · replace h := h.2 c3
        refine lv_aload_n hx hb dX9_addsSupport_11 rfl (lv_at hl 0 rfl) ?_
        refine lv_iload_n hx hb dX9_addsSupport_12 rfl (lv_at hl 3 rfl) ?_
        refine r_iconst (n := 1) hx hb dX9_addsSupport_13 ?_
        refine r_isub hx hb dX9_addsSupport_14 ?_
        refine r_calli (va_runV (As := [.int (iI (v3x7 - 1))]) (rest := []) ⟨hx, hb, hml, hown, hts⟩ (m9_placeOf l G hv_this _ st (v3x7 - 1) h) (cwV 1 hts gX9_addsSupport_X9_placeOf rfl rfl rfl hd9_placeOf ⟨Nat.le_of_ble_eq_true rfl, Nat.le_of_ble_eq_true rfl⟩) (pre_V hK hX hI hA hS hv_this rfl rfl [.int (iI (v3x7 - 1))]) rfl rfl hl.1 rfl (lv_room (Nat.le_of_ble_eq_true rfl)) dX9_addsSupport_15 ⟨Nat.le_of_ble_eq_true rfl, Nat.le_of_ble_eq_true rfl⟩) hS (fun z4 st5 h H locs hI hS => ?_)
        refine lv_iload_n hx hb dX9_addsSupport_18 rfl (lv_at hl 1 rfl) ?_
        obtain ⟨g6, h⟩ := h
        obtain ⟨g7, h⟩ := h
        refine r_icmp_le (tgt := 78) hx hb dX9_addsSupport_19 (by decide) g6 g7 (fun c8 => ?_) (fun c8 => ?_)
        · replace h := h.1 c8
          exact J78 st5 v3x7 _ _ ls hI hS (lv_sub hl [0, 1, 2, 3] rfl) h
        · replace h := h.2 c8
          refine lv_aload_n hx hb dX9_addsSupport_22 rfl (lv_at hl 0 rfl) ?_
          refine gg_9_0 hx hb hts in9 hown hK hI hv_this lk_7 dX9_addsSupport_23 ?_
          refine r_bipush (n := 6) hx hb dX9_addsSupport_26 rfl ?_
          refine r_iconst (n := 2) hx hb dX9_addsSupport_28 ?_
          refine lv_iload_n hx hb dX9_addsSupport_29 rfl (lv_at hl 3 rfl) ?_
          refine r_imul hx hb dX9_addsSupport_30 ?_
          refine r_iadd hx hb dX9_addsSupport_31 ?_
          refine lv_aload_n hx hb dX9_addsSupport_32 rfl (lv_at hl 0 rfl) ?_
          refine gg_9_0 hx hb hts in9 hown hK hI hv_this lk_7 dX9_addsSupport_33 ?_
          refine r_bipush (n := 6) hx hb dX9_addsSupport_36 rfl ?_
          refine r_iconst (n := 2) hx hb dX9_addsSupport_38 ?_
          refine lv_iload_n hx hb dX9_addsSupport_39 rfl (lv_at hl 3 rfl) ?_
          refine r_imul hx hb dX9_addsSupport_40 ?_
          refine r_iadd hx hb dX9_addsSupport_41 ?_
          refine r_iconst (n := 2) hx hb dX9_addsSupport_42 ?_
          refine r_isub hx hb dX9_addsSupport_43 ?_
          obtain ⟨g9, g10, h⟩ := h
          refine r_iald hx hb hK hI (K := 30) (vrM_9_0 hv_this) rfl (mlen_le _) dX9_addsSupport_44 g9 g10 ?_
          obtain ⟨g11, g12, h⟩ := h
          refine r_iast hx hb hK hI hS (K := 30) (vrM_9_0 hv_this) (fun _ => rfl) (mlen_le _) dX9_addsSupport_45 g11 g12 (fun st13 hst13 H locs hI hS => ?_)
          replace h := h st13 hst13
          refine lv_aload_n hx hb dX9_addsSupport_46 rfl (lv_at hl 0 rfl) ?_
          refine gg_9_0 hx hb hts in9 hown hK hI hv_this lk_7 dX9_addsSupport_47 ?_
          refine r_bipush (n := 6) hx hb dX9_addsSupport_50 rfl ?_
          refine r_iconst (n := 2) hx hb dX9_addsSupport_52 ?_
          refine lv_iload_n hx hb dX9_addsSupport_53 rfl (lv_at hl 3 rfl) ?_
          refine r_imul hx hb dX9_addsSupport_54 ?_
          refine r_iadd hx hb dX9_addsSupport_55 ?_
          refine r_iconst (n := 1) hx hb dX9_addsSupport_56 ?_
          refine r_iadd hx hb dX9_addsSupport_57 ?_
          refine lv_aload_n hx hb dX9_addsSupport_58 rfl (lv_at hl 0 rfl) ?_
          refine gg_9_0 hx hb hts in9 hown hK hI hv_this lk_7 dX9_addsSupport_59 ?_
          refine r_bipush (n := 6) hx hb dX9_addsSupport_62 rfl ?_
          refine r_iconst (n := 2) hx hb dX9_addsSupport_64 ?_
          refine lv_iload_n hx hb dX9_addsSupport_65 rfl (lv_at hl 3 rfl) ?_
          refine r_imul hx hb dX9_addsSupport_66 ?_
          refine r_iadd hx hb dX9_addsSupport_67 ?_
          refine r_iconst (n := 1) hx hb dX9_addsSupport_68 ?_
          refine r_isub hx hb dX9_addsSupport_69 ?_
          obtain ⟨g14, g15, h⟩ := h
          refine r_iald hx hb hK hI (K := 30) (vrM_9_0 hv_this) rfl (mlen_le _) dX9_addsSupport_70 g14 g15 ?_
          obtain ⟨g16, g17, h⟩ := h
          refine r_iast hx hb hK hI hS (K := 30) (vrM_9_0 hv_this) (fun _ => rfl) (mlen_le _) dX9_addsSupport_71 g16 g17 (fun st18 hst18 H locs hI hS => ?_)
          replace h := h st18 hst18
          obtain ⟨x19, hx19⟩ : ∃ z : Int, z = v3x7 + (-1) := ⟨_, rfl⟩
          replace h := h x19 hx19
          refine lv_iinc (v := iI x19) (lv' := [(3, .int (iI x19)), (0, .ref (G.2.2.1 9 0)), (1, .int (iI a0)), (2, .int (iI a1))]) hx hb dX9_addsSupport_72 hl (k := 3) rfl (by rw [hx19]; exact iI_add _ _) (by decide) rfl (fun ls hl => ?_)
          refine lv_goto (tgt := 7) hx hb dX9_addsSupport_75 (by decide) ?_
          exact ih7 st18 x19 _ _ ls hI hS (lv_sub hl [1, 2, 3, 0] rfl) h
  unfold f9_addsSupport at h
  refine lv_aload_n hx hb dX9_addsSupport_0 rfl (lv_at hl 0 rfl) ?_
  refine gg_9_0 hx hb hts in9 hown hK hI hv_this lk_7 dX9_addsSupport_1 ?_
  refine r_iconst (n := 2) hx hb dX9_addsSupport_4 ?_
  refine r_iald hx hb hK hI (K := 30) (vrM_9_0 hv_this) rfl (mlen_le _) dX9_addsSupport_5 (by decide) (by decide) ?_
  refine r_topi (fun x1 hx1 => ?_)
  replace h := h x1 hx1
  refine lv_istore_n (lv' := [(3, .int (iI x1)), (0, .ref (G.2.2.1 9 0)), (1, .int (iI a0)), (2, .int (iI a1))]) hx hb dX9_addsSupport_6 rfl hl (by decide) rfl (fun ls hl => ?_)
  obtain ⟨kk, h⟩ := h
  exact L7 kk st x1 _ _ ls hI hS (lv_sub hl [1, 2, 3, 0] rfl) h
theorem hd9_readsSupport : yX9_readsSupport.cls = RX9 ∧ yX9_readsSupport.cls ≠ "java/lang/invoke/MethodHandle" ∧ yX9_readsSupport.cls ≠ "java/lang/invoke/VarHandle" ∧ (parseMethodDescriptor yX9_readsSupport.desc).map (fun d => d.parameters.length) = some 0 := by decide +kernel
set_option maxHeartbeats 4000000 in
set_option maxRecDepth 100000 in
theorem m9_readsSupport (l : Launch) (G : WG)   (hv_this : vM 9 0) (Q : St → Prop) (st : St)  (h : f9_readsSupport Q st) : Met l yX9_readsSupport wsX9_readsSupport ({ frames := 5, cells := 0, slots := 0, locals := 112 }) (PcM vM G st [.ref (G.2.2.1 9 0)]) (QvM vM G Q) 0 0 G.2.2.2.1 := by
  refine Met.ofW (cc := cX9_readsSupport) (maxL := 3) (ret := none) (by decide) rfl ?_
  intro p e s m args below meth c s₁ B hml hvv
  obtain ⟨rfl, hA, hI, hK, hX⟩ := hvv
  have hx := B.exec
  have hb := B.bytes
  have hr := B.returns
  have hts := atoms_spec (ws := wsX9_readsSupport) B.pre
  have hown : s.vm.findClass RX9 = some m.cls := findClass_of_methodNamed B.named
  have hlocks := B.notSynchronized
  have hS : va_S G.2.2.2.1 s.heap s.heap [] := va_S.rf
  have in9 : ∀ w ∈ wsX90, w ∈ wsX9_readsSupport := by decide +kernel
  have lk_7 := hts (.fieldLink RX9 7 "BeamLinesModel" "a" "[I") (by decide +kernel)
  have lk_101 := hts (.fieldLink RX9 101 "BeamLinesModel" "wrong" "I") (by decide +kernel)
  have kc_150 : (Jvm.Cond.constant RX9 150 (iI 99999)).before _ s = true := hts (.constant RX9 150 99999) (by decide +kernel)
  have hl := lv_entry ([.ref (G.2.2.1 9 0)]) (n := 3) (Nat.le_of_ble_eq_true rfl)
  rw [lg_entry_eq]
  generalize (lg_sl ([.ref (G.2.2.1 9 0)]) ++ List.replicate (3 - (lg_sl ([.ref (G.2.2.1 9 0)])).length) Slot.unset).toArray = ls at hl ⊢
  have hl : lv_has ls 3 [(0, .ref (G.2.2.1 9 0))] := hl
  have J41 : ∀ (st : St) (v1x41 : Int) (v2x41 : Int) (H : Heap) (locs : List Loc) (ls : Array Slot), Iv vM G st H → va_S G.2.2.2.1 s.heap H locs → lv_has ls 3 [(0, .ref (G.2.2.1 9 0)), (1, .int (iI v1x41)), (2, .int (iI v2x41))] → f9_readsSupport_j41 Q st v1x41 v2x41 → W p l e (headSpec wsX9_readsSupport ({ frames := 5, cells := 0, slots := 0, locals := 112 })).room s m ([.ref (G.2.2.1 9 0)] : List Value).toArray below meth c H locs 0 0 (MQ below (QvM vM G Q) ([.ref (G.2.2.1 9 0)] : List Value).toArray s 0 0 G.2.2.2.1) (F0 m 41 ls []) := by
    intro st v1x41 v2x41 H locs ls hI hS hl h
    unfold f9_readsSupport_j41 at h
    refine lv_aload_n hx hb dX9_readsSupport_41 rfl (lv_at hl 0 rfl) ?_
    refine r_callv (va_runV (As := []) (rest := []) ⟨hx, hb, hml, hown, hts⟩ (m9_mustEnd l G hv_this _ st h) (cwV 0 hts gX9_readsSupport_X9_mustEnd rfl rfl rfl hd9_mustEnd ⟨Nat.le_of_ble_eq_true rfl, Nat.le_of_ble_eq_true rfl⟩) (pre_V hK hX hI hA hS hv_this rfl rfl []) rfl rfl hl.1 rfl (lv_room (Nat.le_of_ble_eq_true rfl)) dX9_readsSupport_42 ⟨Nat.le_of_ble_eq_true rfl, Nat.le_of_ble_eq_true rfl⟩) hS (fun st14 h H locs hI hS => ?_)
    refine lv_aload_n hx hb dX9_readsSupport_45 rfl (lv_at hl 0 rfl) ?_
    refine gg_9_13 hx hb hts in9 hown hK hI hv_this lk_101 dX9_readsSupport_46 ?_
    obtain ⟨g15, h⟩ := h
    refine r_if_ne (tgt := 58) hx hb dX9_readsSupport_49 (by decide) g15 (fun c16 => ?_) (fun c16 => ?_)
    · replace h := h.2 c16
      exact r_vret hx hb hr hlocks hK hI hS (Qp := Q) h dX9_readsSupport_58
    · replace h := h.1 c16
      refine lv_aload_n hx hb dX9_readsSupport_52 rfl (lv_at hl 0 rfl) ?_
      refine lv_iload_n hx hb dX9_readsSupport_53 rfl (lv_at hl 1 rfl) ?_
      refine lv_iload_n hx hb dX9_readsSupport_54 rfl (lv_at hl 2 rfl) ?_
      refine r_callv (va_runV (As := [.int (iI v1x41), .int (iI v2x41)]) (rest := []) ⟨hx, hb, hml, hown, hts⟩ (m9_addsSupport l G hv_this _ st14 v1x41 v2x41 h) (cwV 2 hts gX9_readsSupport_X9_addsSupport rfl rfl rfl hd9_addsSupport ⟨Nat.le_of_ble_eq_true rfl, Nat.le_of_ble_eq_true rfl⟩) (pre_V hK hX hI hA hS hv_this rfl rfl [.int (iI v1x41), .int (iI v2x41)]) rfl rfl hl.1 rfl (lv_room (Nat.le_of_ble_eq_true rfl)) dX9_readsSupport_55 ⟨Nat.le_of_ble_eq_true rfl, Nat.le_of_ble_eq_true rfl⟩) hS (fun st18 h H locs hI hS => ?_)
      exact r_vret hx hb hr hlocks hK hI hS (Qp := Q) h dX9_readsSupport_58
  unfold f9_readsSupport at h
  refine lv_aload_n hx hb dX9_readsSupport_0 rfl (lv_at hl 0 rfl) ?_
  refine r_iconst (n := 2) hx hb dX9_readsSupport_1 ?_
  refine r_iconst (n := 5) hx hb dX9_readsSupport_2 ?_
  refine r_callv (va_runV (As := [.int (iI 2), .int (iI 5)]) (rest := []) ⟨hx, hb, hml, hown, hts⟩ (m9_begins l G hv_this _ st 2 5 h) (cwV 2 hts gX9_readsSupport_X9_begins rfl rfl rfl hd9_begins ⟨Nat.le_of_ble_eq_true rfl, Nat.le_of_ble_eq_true rfl⟩) (pre_V hK hX hI hA hS hv_this rfl rfl [.int (iI 2), .int (iI 5)]) rfl rfl hl.1 rfl (lv_room (Nat.le_of_ble_eq_true rfl)) dX9_readsSupport_3 ⟨Nat.le_of_ble_eq_true rfl, Nat.le_of_ble_eq_true rfl⟩) hS (fun st2 h H locs hI hS => ?_)
  refine lv_aload_n hx hb dX9_readsSupport_6 rfl (lv_at hl 0 rfl) ?_
  refine r_iconst (n := 0) hx hb dX9_readsSupport_7 ?_
  refine lv_aload_n hx hb dX9_readsSupport_8 rfl (lv_at hl 0 rfl) ?_
  refine gg_9_0 hx hb hts in9 hown hK hI hv_this lk_7 dX9_readsSupport_9 ?_
  refine r_iconst (n := 0) hx hb dX9_readsSupport_12 ?_
  refine r_iald hx hb hK hI (K := 30) (vrM_9_0 hv_this) rfl (mlen_le _) dX9_readsSupport_13 (by decide) (by decide) ?_
  refine r_calli (va_runV (As := [.int (iI 0), .int (iI (st2 30 0 0 0))]) (rest := []) ⟨hx, hb, hml, hown, hts⟩ (m9_takesPlace l G hv_this _ st2 0 (st2 30 0 0 0) h) (cwV 2 hts gX9_readsSupport_X9_takesPlace rfl rfl rfl hd9_takesPlace ⟨Nat.le_of_ble_eq_true rfl, Nat.le_of_ble_eq_true rfl⟩) (pre_V hK hX hI hA hS hv_this rfl rfl [.int (iI 0), .int (iI (st2 30 0 0 0))]) rfl rfl hl.1 rfl (lv_room (Nat.le_of_ble_eq_true rfl)) dX9_readsSupport_14 ⟨Nat.le_of_ble_eq_true rfl, Nat.le_of_ble_eq_true rfl⟩) hS (fun z3 st4 h H locs hI hS => ?_)
  refine lv_istore_n (lv' := [(1, .int (iI z3)), (0, .ref (G.2.2.1 9 0))]) hx hb dX9_readsSupport_17 rfl hl (by decide) rfl (fun ls hl => ?_)
  refine r_iconst (n := (-1)) hx hb dX9_readsSupport_18 ?_
  refine lv_istore_n (lv' := [(2, .int (iI (-1))), (1, .int (iI z3)), (0, .ref (G.2.2.1 9 0))]) hx hb dX9_readsSupport_19 rfl hl (by decide) rfl (fun ls hl => ?_)
  refine lv_aload_n hx hb dX9_readsSupport_20 rfl (lv_at hl 2 rfl) ?_
  refine va_ldcS hx hb hown (hX.2.2.2.2.2.2.1 ("BeamLinesModel", 144, "bears", 8) (by decide)) dX9_readsSupport_21 ?_
  refine r_calli (va_runV (As := [.ref (G.2.2.2.2.1 8)]) (rest := []) ⟨hx, hb, hml, hown, hts⟩ (m9_isWord l G 8 hv_this (by decide) _ st4 h) (cwV 1 hts gX9_readsSupport_X9_isWord rfl rfl rfl hd9_isWord ⟨Nat.le_of_ble_eq_true rfl, Nat.le_of_ble_eq_true rfl⟩) (pre_V hK hX hI hA hS hv_this rfl rfl [.ref (G.2.2.2.2.1 8)]) rfl rfl hl.1 rfl (lv_room (Nat.le_of_ble_eq_true rfl)) dX9_readsSupport_23 ⟨Nat.le_of_ble_eq_true rfl, Nat.le_of_ble_eq_true rfl⟩) hS (fun z5 st6 h H locs hI hS => ?_)
  obtain ⟨g7, h⟩ := h
  refine r_if_eq (tgt := 41) hx hb dX9_readsSupport_26 (by decide) g7 (fun c8 => ?_) (fun c8 => ?_)
  · replace h := h.1 c8
    exact J41 st6 z3 (-1) _ _ ls hI hS (lv_sub hl [2, 1, 0] rfl) h
  · replace h := h.2 c8
    refine lv_aload_n hx hb dX9_readsSupport_29 rfl (lv_at hl 2 rfl) ?_
    refine r_callv (va_runV (As := []) (rest := []) ⟨hx, hb, hml, hown, hts⟩ (m9_next l G hv_this _ st6 h) (cwV 0 hts gX9_readsSupport_X9_next rfl rfl rfl hd9_next ⟨Nat.le_of_ble_eq_true rfl, Nat.le_of_ble_eq_true rfl⟩) (pre_V hK hX hI hA hS hv_this rfl rfl []) rfl rfl hl.1 rfl (lv_room (Nat.le_of_ble_eq_true rfl)) dX9_readsSupport_30 ⟨Nat.le_of_ble_eq_true rfl, Nat.le_of_ble_eq_true rfl⟩) hS (fun st10 h H locs hI hS => ?_)
    refine lv_aload_n hx hb dX9_readsSupport_33 rfl (lv_at hl 2 rfl) ?_
    refine r_iconst (n := 1) hx hb dX9_readsSupport_34 ?_
    refine lv_ldc (v := iI 99999) hx hb hown kc_150 dX9_readsSupport_35 ?_
    refine r_calli (va_runV (As := [.int (iI 1), .int (iI 99999)]) (rest := []) ⟨hx, hb, hml, hown, hts⟩ (m9_takes l G hv_this _ st10 1 99999 h) (cwV 2 hts gX9_readsSupport_X9_takes rfl rfl rfl hd9_takes ⟨Nat.le_of_ble_eq_true rfl, Nat.le_of_ble_eq_true rfl⟩) (pre_V hK hX hI hA hS hv_this rfl rfl [.int (iI 1), .int (iI 99999)]) rfl rfl hl.1 rfl (lv_room (Nat.le_of_ble_eq_true rfl)) dX9_readsSupport_37 ⟨Nat.le_of_ble_eq_true rfl, Nat.le_of_ble_eq_true rfl⟩) hS (fun z11 st12 h H locs hI hS => ?_)
    refine lv_istore_n (lv' := [(2, .int (iI z11)), (1, .int (iI z3)), (0, .ref (G.2.2.1 9 0))]) hx hb dX9_readsSupport_40 rfl hl (by decide) rfl (fun ls hl => ?_)
    exact J41 st12 z3 z11 _ _ ls hI hS (lv_sub hl [2, 1, 0] rfl) h
theorem hd9_addsHinge : yX9_addsHinge.cls = RX9 ∧ yX9_addsHinge.cls ≠ "java/lang/invoke/MethodHandle" ∧ yX9_addsHinge.cls ≠ "java/lang/invoke/VarHandle" ∧ (parseMethodDescriptor yX9_addsHinge.desc).map (fun d => d.parameters.length) = some 1 := by decide +kernel
set_option maxHeartbeats 4000000 in
set_option maxRecDepth 100000 in
theorem m9_addsHinge (l : Launch) (G : WG)   (hv_this : vM 9 0) (Q : St → Prop) (st : St) (a0 : Int) (h : f9_addsHinge Q st a0) : Met l yX9_addsHinge wsX9_addsHinge ({ frames := 0, cells := 0, slots := 0, locals := 0 }) (PcM vM G st [.ref (G.2.2.1 9 0), .int (iI a0)]) (QvM vM G Q) 0 0 G.2.2.2.1 := by
  refine Met.ofW (cc := cX9_addsHinge) (maxL := 3) (ret := none) (by decide) rfl ?_
  intro p e s m args below meth c s₁ B hml hvv
  obtain ⟨rfl, hA, hI, hK, hX⟩ := hvv
  have hx := B.exec
  have hb := B.bytes
  have hr := B.returns
  have hts := atoms_spec (ws := wsX9_addsHinge) B.pre
  have hown : s.vm.findClass RX9 = some m.cls := findClass_of_methodNamed B.named
  have hlocks := B.notSynchronized
  have hS : va_S G.2.2.2.1 s.heap s.heap [] := va_S.rf
  have in9 : ∀ w ∈ wsX90, w ∈ wsX9_addsHinge := by decide +kernel
  have lk_7 := hts (.fieldLink RX9 7 "BeamLinesModel" "a" "[I") (by decide +kernel)
  have hl := lv_entry ([.ref (G.2.2.1 9 0), .int (iI a0)]) (n := 3) (Nat.le_of_ble_eq_true rfl)
  rw [lg_entry_eq]
  generalize (lg_sl ([.ref (G.2.2.1 9 0), .int (iI a0)]) ++ List.replicate (3 - (lg_sl ([.ref (G.2.2.1 9 0), .int (iI a0)])).length) Slot.unset).toArray = ls at hl ⊢
  have hl : lv_has ls 3 [(0, .ref (G.2.2.1 9 0)), (1, .int (iI a0))] := hl
  have J52 : ∀ (st : St) (v2x52 : Int) (H : Heap) (locs : List Loc) (ls : Array Slot), Iv vM G st H → va_S G.2.2.2.1 s.heap H locs → lv_has ls 3 [(0, .ref (G.2.2.1 9 0)), (1, .int (iI a0)), (2, .int (iI v2x52))] → f9_addsHinge_j52 Q a0 st v2x52 → W p l e (headSpec wsX9_addsHinge ({ frames := 0, cells := 0, slots := 0, locals := 0 })).room s m ([.ref (G.2.2.1 9 0), .int (iI a0)] : List Value).toArray below meth c H locs 0 0 (MQ below (QvM vM G Q) ([.ref (G.2.2.1 9 0), .int (iI a0)] : List Value).toArray s 0 0 G.2.2.2.1) (F0 m 52 ls []) := by
    intro st v2x52 H locs ls hI hS hl h
    unfold f9_addsHinge_j52 at h
    refine lv_aload_n hx hb dX9_addsHinge_52 rfl (lv_at hl 0 rfl) ?_
    refine gg_9_0 hx hb hts in9 hown hK hI hv_this lk_7 dX9_addsHinge_53 ?_
    refine r_bipush (n := 16) hx hb dX9_addsHinge_56 rfl ?_
    refine lv_iload_n hx hb dX9_addsHinge_58 rfl (lv_at hl 2 rfl) ?_
    refine r_iadd hx hb dX9_addsHinge_59 ?_
    refine lv_iload_n hx hb dX9_addsHinge_60 rfl (lv_at hl 1 rfl) ?_
    obtain ⟨g15, g16, h⟩ := h
    refine r_iast hx hb hK hI hS (K := 30) (vrM_9_0 hv_this) (fun _ => rfl) (mlen_le _) dX9_addsHinge_61 g15 g16 (fun st17 hst17 H locs hI hS => ?_)
    replace h := h st17 hst17
    refine lv_aload_n hx hb dX9_addsHinge_62 rfl (lv_at hl 0 rfl) ?_
    refine gg_9_0 hx hb hts in9 hown hK hI hv_this lk_7 dX9_addsHinge_63 ?_
    refine r_iconst (n := 3) hx hb dX9_addsHinge_66 ?_
    refine lv_dup2_11 hx hb dX9_addsHinge_67 rfl rfl ?_
    refine r_iald hx hb hK hI (K := 30) (vrM_9_0 hv_this) rfl (mlen_le _) dX9_addsHinge_68 (by decide) (by decide) ?_
    refine r_iconst (n := 1) hx hb dX9_addsHinge_69 ?_
    refine r_iadd hx hb dX9_addsHinge_70 ?_
    refine r_iast hx hb hK hI hS (K := 30) (vrM_9_0 hv_this) (fun _ => rfl) (mlen_le _) dX9_addsHinge_71 (by decide) (by decide) (fun st18 hst18 H locs hI hS => ?_)
    replace h := h st18 hst18
    exact r_vret hx hb hr hlocks hK hI hS (Qp := Q) h dX9_addsHinge_72
  have L7 : ∀ (n7 : Nat), ∀ (st : St) (v2x7 : Int) (H : Heap) (locs : List Loc) (ls : Array Slot), Iv vM G st H → va_S G.2.2.2.1 s.heap H locs → lv_has ls 3 [(0, .ref (G.2.2.1 9 0)), (1, .int (iI a0)), (2, .int (iI v2x7))] → f9_addsHinge_l7 Q a0 n7 st v2x7 → W p l e (headSpec wsX9_addsHinge ({ frames := 0, cells := 0, slots := 0, locals := 0 })).room s m ([.ref (G.2.2.1 9 0), .int (iI a0)] : List Value).toArray below meth c H locs 0 0 (MQ below (QvM vM G Q) ([.ref (G.2.2.1 9 0), .int (iI a0)] : List Value).toArray s 0 0 G.2.2.2.1) (F0 m 7 ls []) := by
    intro n7
    induction n7 with
    | zero =>
      intro st v2x7 H locs ls hI hS hl h
      exact h.elim
    | succ n7 ih7 =>
      intro st v2x7 H locs ls hI hS hl h
      unfold f9_addsHinge_l7 at h
      refine lv_iload_n hx hb dX9_addsHinge_7 rfl (lv_at hl 2 rfl) ?_
      obtain ⟨g2, h⟩ := h
      refine r_if_le (tgt := 52) hx hb dX9_addsHinge_8 (by decide) g2 (fun c3 => ?_) (fun c3 => ?_)
      · replace h := h.1 c3
        exact J52 st v2x7 _ _ ls hI hS (lv_sub hl [0, 1, 2] rfl) h
      · replace h := h.2 c3
        refine lv_aload_n hx hb dX9_addsHinge_11 rfl (lv_at hl 0 rfl) ?_
        refine gg_9_0 hx hb hts in9 hown hK hI hv_this lk_7 dX9_addsHinge_12 ?_
        refine r_bipush (n := 16) hx hb dX9_addsHinge_15 rfl ?_
        refine lv_iload_n hx hb dX9_addsHinge_17 rfl (lv_at hl 2 rfl) ?_
        refine r_iadd hx hb dX9_addsHinge_18 ?_
        refine r_iconst (n := 1) hx hb dX9_addsHinge_19 ?_
        refine r_isub hx hb dX9_addsHinge_20 ?_
        obtain ⟨g4, g5, h⟩ := h
        refine r_iald hx hb hK hI (K := 30) (vrM_9_0 hv_this) rfl (mlen_le _) dX9_addsHinge_21 g4 g5 ?_
        refine lv_iload_n hx hb dX9_addsHinge_22 rfl (lv_at hl 1 rfl) ?_
        obtain ⟨g6, h⟩ := h
        obtain ⟨g7, h⟩ := h
        refine r_icmp_le (tgt := 52) hx hb dX9_addsHinge_23 (by decide) g6 g7 (fun c8 => ?_) (fun c8 => ?_)
        · replace h := h.1 c8
          exact J52 st v2x7 _ _ ls hI hS (lv_sub hl [0, 1, 2] rfl) h
        · replace h := h.2 c8
          refine lv_aload_n hx hb dX9_addsHinge_26 rfl (lv_at hl 0 rfl) ?_
          refine gg_9_0 hx hb hts in9 hown hK hI hv_this lk_7 dX9_addsHinge_27 ?_
          refine r_bipush (n := 16) hx hb dX9_addsHinge_30 rfl ?_
          refine lv_iload_n hx hb dX9_addsHinge_32 rfl (lv_at hl 2 rfl) ?_
          refine r_iadd hx hb dX9_addsHinge_33 ?_
          refine lv_aload_n hx hb dX9_addsHinge_34 rfl (lv_at hl 0 rfl) ?_
          refine gg_9_0 hx hb hts in9 hown hK hI hv_this lk_7 dX9_addsHinge_35 ?_
          refine r_bipush (n := 16) hx hb dX9_addsHinge_38 rfl ?_
          refine lv_iload_n hx hb dX9_addsHinge_40 rfl (lv_at hl 2 rfl) ?_
          refine r_iadd hx hb dX9_addsHinge_41 ?_
          refine r_iconst (n := 1) hx hb dX9_addsHinge_42 ?_
          refine r_isub hx hb dX9_addsHinge_43 ?_
          obtain ⟨g9, g10, h⟩ := h
          refine r_iald hx hb hK hI (K := 30) (vrM_9_0 hv_this) rfl (mlen_le _) dX9_addsHinge_44 g9 g10 ?_
          obtain ⟨g11, g12, h⟩ := h
          refine r_iast hx hb hK hI hS (K := 30) (vrM_9_0 hv_this) (fun _ => rfl) (mlen_le _) dX9_addsHinge_45 g11 g12 (fun st13 hst13 H locs hI hS => ?_)
          replace h := h st13 hst13
          obtain ⟨x14, hx14⟩ : ∃ z : Int, z = v2x7 + (-1) := ⟨_, rfl⟩
          replace h := h x14 hx14
          refine lv_iinc (v := iI x14) (lv' := [(2, .int (iI x14)), (0, .ref (G.2.2.1 9 0)), (1, .int (iI a0))]) hx hb dX9_addsHinge_46 hl (k := 2) rfl (by rw [hx14]; exact iI_add _ _) (by decide) rfl (fun ls hl => ?_)
          refine lv_goto (tgt := 7) hx hb dX9_addsHinge_49 (by decide) ?_
          exact ih7 st13 x14 _ _ ls hI hS (lv_sub hl [1, 2, 0] rfl) h
  unfold f9_addsHinge at h
  refine lv_aload_n hx hb dX9_addsHinge_0 rfl (lv_at hl 0 rfl) ?_
  refine gg_9_0 hx hb hts in9 hown hK hI hv_this lk_7 dX9_addsHinge_1 ?_
  refine r_iconst (n := 3) hx hb dX9_addsHinge_4 ?_
  refine r_iald hx hb hK hI (K := 30) (vrM_9_0 hv_this) rfl (mlen_le _) dX9_addsHinge_5 (by decide) (by decide) ?_
  refine r_topi (fun x1 hx1 => ?_)
  replace h := h x1 hx1
  refine lv_istore_n (lv' := [(2, .int (iI x1)), (0, .ref (G.2.2.1 9 0)), (1, .int (iI a0))]) hx hb dX9_addsHinge_6 rfl hl (by decide) rfl (fun ls hl => ?_)
  obtain ⟨kk, h⟩ := h
  exact L7 kk st x1 _ _ ls hI hS (lv_sub hl [1, 2, 0] rfl) h
theorem hd9_readsHinge : yX9_readsHinge.cls = RX9 ∧ yX9_readsHinge.cls ≠ "java/lang/invoke/MethodHandle" ∧ yX9_readsHinge.cls ≠ "java/lang/invoke/VarHandle" ∧ (parseMethodDescriptor yX9_readsHinge.desc).map (fun d => d.parameters.length) = some 0 := by decide +kernel
set_option maxHeartbeats 4000000 in
set_option maxRecDepth 100000 in
theorem m9_readsHinge (l : Launch) (G : WG)   (hv_this : vM 9 0) (Q : St → Prop) (st : St)  (h : f9_readsHinge Q st) : Met l yX9_readsHinge wsX9_readsHinge ({ frames := 5, cells := 0, slots := 0, locals := 106 }) (PcM vM G st [.ref (G.2.2.1 9 0)]) (QvM vM G Q) 0 0 G.2.2.2.1 := by
  refine Met.ofW (cc := cX9_readsHinge) (maxL := 2) (ret := none) (by decide) rfl ?_
  intro p e s m args below meth c s₁ B hml hvv
  obtain ⟨rfl, hA, hI, hK, hX⟩ := hvv
  have hx := B.exec
  have hb := B.bytes
  have hr := B.returns
  have hts := atoms_spec (ws := wsX9_readsHinge) B.pre
  have hown : s.vm.findClass RX9 = some m.cls := findClass_of_methodNamed B.named
  have hlocks := B.notSynchronized
  have hS : va_S G.2.2.2.1 s.heap s.heap [] := va_S.rf
  have in9 : ∀ w ∈ wsX90, w ∈ wsX9_readsHinge := by decide +kernel
  have lk_7 := hts (.fieldLink RX9 7 "BeamLinesModel" "a" "[I") (by decide +kernel)
  have lk_101 := hts (.fieldLink RX9 101 "BeamLinesModel" "wrong" "I") (by decide +kernel)
  have hl := lv_entry ([.ref (G.2.2.1 9 0)]) (n := 2) (Nat.le_of_ble_eq_true rfl)
  rw [lg_entry_eq]
  generalize (lg_sl ([.ref (G.2.2.1 9 0)]) ++ List.replicate (2 - (lg_sl ([.ref (G.2.2.1 9 0)])).length) Slot.unset).toArray = ls at hl ⊢
  have hl : lv_has ls 2 [(0, .ref (G.2.2.1 9 0))] := hl
  unfold f9_readsHinge at h
  refine lv_aload_n hx hb dX9_readsHinge_0 rfl (lv_at hl 0 rfl) ?_
  refine r_iconst (n := 3) hx hb dX9_readsHinge_1 ?_
  refine r_iconst (n := 3) hx hb dX9_readsHinge_2 ?_
  refine r_callv (va_runV (As := [.int (iI 3), .int (iI 3)]) (rest := []) ⟨hx, hb, hml, hown, hts⟩ (m9_begins l G hv_this _ st 3 3 h) (cwV 2 hts gX9_readsHinge_X9_begins rfl rfl rfl hd9_begins ⟨Nat.le_of_ble_eq_true rfl, Nat.le_of_ble_eq_true rfl⟩) (pre_V hK hX hI hA hS hv_this rfl rfl [.int (iI 3), .int (iI 3)]) rfl rfl hl.1 rfl (lv_room (Nat.le_of_ble_eq_true rfl)) dX9_readsHinge_3 ⟨Nat.le_of_ble_eq_true rfl, Nat.le_of_ble_eq_true rfl⟩) hS (fun st2 h H locs hI hS => ?_)
  refine lv_aload_n hx hb dX9_readsHinge_6 rfl (lv_at hl 0 rfl) ?_
  refine r_iconst (n := 1) hx hb dX9_readsHinge_7 ?_
  refine lv_aload_n hx hb dX9_readsHinge_8 rfl (lv_at hl 0 rfl) ?_
  refine gg_9_0 hx hb hts in9 hown hK hI hv_this lk_7 dX9_readsHinge_9 ?_
  refine r_iconst (n := 0) hx hb dX9_readsHinge_12 ?_
  refine r_iald hx hb hK hI (K := 30) (vrM_9_0 hv_this) rfl (mlen_le _) dX9_readsHinge_13 (by decide) (by decide) ?_
  refine r_iconst (n := 1) hx hb dX9_readsHinge_14 ?_
  refine r_isub hx hb dX9_readsHinge_15 ?_
  refine r_calli (va_runV (As := [.int (iI 1), .int (iI ((st2 30 0 0 0) - 1))]) (rest := []) ⟨hx, hb, hml, hown, hts⟩ (m9_takesPlace l G hv_this _ st2 1 ((st2 30 0 0 0) - 1) h) (cwV 2 hts gX9_readsHinge_X9_takesPlace rfl rfl rfl hd9_takesPlace ⟨Nat.le_of_ble_eq_true rfl, Nat.le_of_ble_eq_true rfl⟩) (pre_V hK hX hI hA hS hv_this rfl rfl [.int (iI 1), .int (iI ((st2 30 0 0 0) - 1))]) rfl rfl hl.1 rfl (lv_room (Nat.le_of_ble_eq_true rfl)) dX9_readsHinge_16 ⟨Nat.le_of_ble_eq_true rfl, Nat.le_of_ble_eq_true rfl⟩) hS (fun z3 st4 h H locs hI hS => ?_)
  refine lv_istore_n (lv' := [(1, .int (iI z3)), (0, .ref (G.2.2.1 9 0))]) hx hb dX9_readsHinge_19 rfl hl (by decide) rfl (fun ls hl => ?_)
  refine lv_aload_n hx hb dX9_readsHinge_20 rfl (lv_at hl 1 rfl) ?_
  refine r_callv (va_runV (As := []) (rest := []) ⟨hx, hb, hml, hown, hts⟩ (m9_mustEnd l G hv_this _ st4 h) (cwV 0 hts gX9_readsHinge_X9_mustEnd rfl rfl rfl hd9_mustEnd ⟨Nat.le_of_ble_eq_true rfl, Nat.le_of_ble_eq_true rfl⟩) (pre_V hK hX hI hA hS hv_this rfl rfl []) rfl rfl hl.1 rfl (lv_room (Nat.le_of_ble_eq_true rfl)) dX9_readsHinge_21 ⟨Nat.le_of_ble_eq_true rfl, Nat.le_of_ble_eq_true rfl⟩) hS (fun st6 h H locs hI hS => ?_)
  refine lv_aload_n hx hb dX9_readsHinge_24 rfl (lv_at hl 1 rfl) ?_
  refine gg_9_13 hx hb hts in9 hown hK hI hv_this lk_101 dX9_readsHinge_25 ?_
  obtain ⟨g7, h⟩ := h
  refine r_if_ne (tgt := 36) hx hb dX9_readsHinge_28 (by decide) g7 (fun c8 => ?_) (fun c8 => ?_)
  · replace h := h.2 c8
    exact r_vret hx hb hr hlocks hK hI hS (Qp := Q) h dX9_readsHinge_36
  · replace h := h.1 c8
    refine lv_aload_n hx hb dX9_readsHinge_31 rfl (lv_at hl 1 rfl) ?_
    refine lv_iload_n hx hb dX9_readsHinge_32 rfl (lv_at hl 0 rfl) ?_
    refine r_callv (va_runV (As := [.int (iI z3)]) (rest := []) ⟨hx, hb, hml, hown, hts⟩ (m9_addsHinge l G hv_this _ st6 z3 h) (cwV 1 hts gX9_readsHinge_X9_addsHinge rfl rfl rfl hd9_addsHinge ⟨Nat.le_of_ble_eq_true rfl, Nat.le_of_ble_eq_true rfl⟩) (pre_V hK hX hI hA hS hv_this rfl rfl [.int (iI z3)]) rfl rfl hl.1 rfl (lv_room (Nat.le_of_ble_eq_true rfl)) dX9_readsHinge_33 ⟨Nat.le_of_ble_eq_true rfl, Nat.le_of_ble_eq_true rfl⟩) hS (fun st10 h H locs hI hS => ?_)
    exact r_vret hx hb hr hlocks hK hI hS (Qp := Q) h dX9_readsHinge_36
theorem hd9_readsPair : yX9_readsPair.cls = RX9 ∧ yX9_readsPair.cls ≠ "java/lang/invoke/MethodHandle" ∧ yX9_readsPair.cls ≠ "java/lang/invoke/VarHandle" ∧ (parseMethodDescriptor yX9_readsPair.desc).map (fun d => d.parameters.length) = some 5 := by decide +kernel
set_option maxHeartbeats 4000000 in
set_option maxRecDepth 100000 in
theorem m9_readsPair (l : Launch) (G : WG)  (a3 : Nat) (hv_this : vM 9 0) (hv_a3 : a3 < 9) (Q : St → Prop) (st : St) (a0 : Int) (a1 : Int) (a2 : Int) (a4 : Int) (h : f9_readsPair a3 Q st a0 a1 a2 a4) : Met l yX9_readsPair wsX9_readsPair ({ frames := 5, cells := 0, slots := 0, locals := 112 }) (PcM vM G st [.ref (G.2.2.1 9 0), .int (iI a0), .int (iI a1), .int (iI a2), .ref (G.2.2.2.2.1 a3), .int (iI a4)]) (QvM vM G Q) 0 0 G.2.2.2.1 := by
  refine Met.ofW (cc := cX9_readsPair) (maxL := 8) (ret := none) (by decide) rfl ?_
  intro p e s m args below meth c s₁ B hml hvv
  obtain ⟨rfl, hA, hI, hK, hX⟩ := hvv
  have hx := B.exec
  have hb := B.bytes
  have hr := B.returns
  have hts := atoms_spec (ws := wsX9_readsPair) B.pre
  have hown : s.vm.findClass RX9 = some m.cls := findClass_of_methodNamed B.named
  have hlocks := B.notSynchronized
  have hS : va_S G.2.2.2.1 s.heap s.heap [] := va_S.rf
  have in9 : ∀ w ∈ wsX90, w ∈ wsX9_readsPair := by decide +kernel
  have lk_7 := hts (.fieldLink RX9 7 "BeamLinesModel" "a" "[I") (by decide +kernel)
  have lk_101 := hts (.fieldLink RX9 101 "BeamLinesModel" "wrong" "I") (by decide +kernel)
  have hl := lv_entry ([.ref (G.2.2.1 9 0), .int (iI a0), .int (iI a1), .int (iI a2), .ref (G.2.2.2.2.1 a3), .int (iI a4)]) (n := 8) (Nat.le_of_ble_eq_true rfl)
  rw [lg_entry_eq]
  generalize (lg_sl ([.ref (G.2.2.1 9 0), .int (iI a0), .int (iI a1), .int (iI a2), .ref (G.2.2.2.2.1 a3), .int (iI a4)]) ++ List.replicate (8 - (lg_sl ([.ref (G.2.2.1 9 0), .int (iI a0), .int (iI a1), .int (iI a2), .ref (G.2.2.2.2.1 a3), .int (iI a4)])).length) Slot.unset).toArray = ls at hl ⊢
  have hl : lv_has ls 8 [(0, .ref (G.2.2.1 9 0)), (1, .int (iI a0)), (2, .int (iI a1)), (3, .int (iI a2)), (4, .ref (G.2.2.2.2.1 a3)), (5, .int (iI a4))] := hl
  unfold f9_readsPair at h
  refine lv_aload_n hx hb dX9_readsPair_0 rfl (lv_at hl 0 rfl) ?_
  refine lv_iload_n hx hb dX9_readsPair_1 rfl (lv_at hl 1 rfl) ?_
  refine lv_iload_n hx hb dX9_readsPair_2 rfl (lv_at hl 2 rfl) ?_
  refine r_callv (va_runV (As := [.int (iI a0), .int (iI a1)]) (rest := []) ⟨hx, hb, hml, hown, hts⟩ (m9_begins l G hv_this _ st a0 a1 h) (cwV 2 hts gX9_readsPair_X9_begins rfl rfl rfl hd9_begins ⟨Nat.le_of_ble_eq_true rfl, Nat.le_of_ble_eq_true rfl⟩) (pre_V hK hX hI hA hS hv_this rfl rfl [.int (iI a0), .int (iI a1)]) rfl rfl hl.1 rfl (lv_room (Nat.le_of_ble_eq_true rfl)) dX9_readsPair_3 ⟨Nat.le_of_ble_eq_true rfl, Nat.le_of_ble_eq_true rfl⟩) hS (fun st2 h H locs hI hS => ?_)
  refine lv_aload_n hx hb dX9_readsPair_6 rfl (lv_at hl 0 rfl) ?_
  refine r_iconst (n := 1) hx hb dX9_readsPair_7 ?_
  refine r_sipush (n := 999) hx hb dX9_readsPair_8 rfl ?_
  refine r_calli (va_runV (As := [.int (iI 1), .int (iI 999)]) (rest := []) ⟨hx, hb, hml, hown, hts⟩ (m9_takes l G hv_this _ st2 1 999 h) (cwV 2 hts gX9_readsPair_X9_takes rfl rfl rfl hd9_takes ⟨Nat.le_of_ble_eq_true rfl, Nat.le_of_ble_eq_true rfl⟩) (pre_V hK hX hI hA hS hv_this rfl rfl [.int (iI 1), .int (iI 999)]) rfl rfl hl.1 rfl (lv_room (Nat.le_of_ble_eq_true rfl)) dX9_readsPair_11 ⟨Nat.le_of_ble_eq_true rfl, Nat.le_of_ble_eq_true rfl⟩) hS (fun z3 st4 h H locs hI hS => ?_)
  refine lv_istore (lv' := [(6, .int (iI z3)), (0, .ref (G.2.2.1 9 0)), (1, .int (iI a0)), (2, .int (iI a1)), (3, .int (iI a2)), (4, .ref (G.2.2.2.2.1 a3)), (5, .int (iI a4))]) hx hb dX9_readsPair_14 hl (by decide) rfl (fun ls hl => ?_)
  refine lv_aload_n hx hb dX9_readsPair_16 rfl (lv_at hl 1 rfl) ?_
  refine lv_aload_n hx hb dX9_readsPair_17 rfl (lv_at hl 1 rfl) ?_
  refine lv_aload hx hb dX9_readsPair_18 (lv_at hl 5 rfl) ?_
  refine r_calli (va_runV (As := [.ref (G.2.2.2.2.1 a3)]) (rest := [.ref (G.2.2.1 9 0)]) ⟨hx, hb, hml, hown, hts⟩ (m9_isWord l G a3 hv_this hv_a3 _ st4 h) (cwV 1 hts gX9_readsPair_X9_isWord rfl rfl rfl hd9_isWord ⟨Nat.le_of_ble_eq_true rfl, Nat.le_of_ble_eq_true rfl⟩) (pre_V hK hX hI hA hS hv_this rfl rfl [.ref (G.2.2.2.2.1 a3)]) rfl rfl hl.1 rfl (lv_room (Nat.le_of_ble_eq_true rfl)) dX9_readsPair_20 ⟨Nat.le_of_ble_eq_true rfl, Nat.le_of_ble_eq_true rfl⟩) hS (fun z5 st6 h H locs hI hS => ?_)
  refine r_callv (va_runV (As := [.int (iI z5)]) (rest := []) ⟨hx, hb, hml, hown, hts⟩ (m9_must l G hv_this _ st6 z5 h) (cwV 1 hts gX9_readsPair_X9_must rfl rfl rfl hd9_must ⟨Nat.le_of_ble_eq_true rfl, Nat.le_of_ble_eq_true rfl⟩) (pre_V hK hX hI hA hS hv_this rfl rfl [.int (iI z5)]) rfl rfl hl.1 rfl (lv_room (Nat.le_of_ble_eq_true rfl)) dX9_readsPair_23 ⟨Nat.le_of_ble_eq_true rfl, Nat.le_of_ble_eq_true rfl⟩) hS (fun st8 h H locs hI hS => ?_)
  refine lv_aload_n hx hb dX9_readsPair_26 rfl (lv_at hl 1 rfl) ?_
  refine r_iconst (n := 0) hx hb dX9_readsPair_27 ?_
  refine lv_iload hx hb dX9_readsPair_28 (lv_at hl 6 rfl) ?_
  refine r_calli (va_runV (As := [.int (iI 0), .int (iI a4)]) (rest := []) ⟨hx, hb, hml, hown, hts⟩ (m9_takes l G hv_this _ st8 0 a4 h) (cwV 2 hts gX9_readsPair_X9_takes rfl rfl rfl hd9_takes ⟨Nat.le_of_ble_eq_true rfl, Nat.le_of_ble_eq_true rfl⟩) (pre_V hK hX hI hA hS hv_this rfl rfl [.int (iI 0), .int (iI a4)]) rfl rfl hl.1 rfl (lv_room (Nat.le_of_ble_eq_true rfl)) dX9_readsPair_30 ⟨Nat.le_of_ble_eq_true rfl, Nat.le_of_ble_eq_true rfl⟩) hS (fun z9 st10 h H locs hI hS => ?_)
  refine lv_istore (lv' := [(7, .int (iI z9)), (6, .int (iI z3)), (0, .ref (G.2.2.1 9 0)), (1, .int (iI a0)), (2, .int (iI a1)), (3, .int (iI a2)), (4, .ref (G.2.2.2.2.1 a3)), (5, .int (iI a4))]) hx hb dX9_readsPair_33 hl (by decide) rfl (fun ls hl => ?_)
  refine lv_aload_n hx hb dX9_readsPair_35 rfl (lv_at hl 2 rfl) ?_
  refine r_callv (va_runV (As := []) (rest := []) ⟨hx, hb, hml, hown, hts⟩ (m9_mustEnd l G hv_this _ st10 h) (cwV 0 hts gX9_readsPair_X9_mustEnd rfl rfl rfl hd9_mustEnd ⟨Nat.le_of_ble_eq_true rfl, Nat.le_of_ble_eq_true rfl⟩) (pre_V hK hX hI hA hS hv_this rfl rfl []) rfl rfl hl.1 rfl (lv_room (Nat.le_of_ble_eq_true rfl)) dX9_readsPair_36 ⟨Nat.le_of_ble_eq_true rfl, Nat.le_of_ble_eq_true rfl⟩) hS (fun st12 h H locs hI hS => ?_)
  refine lv_aload_n hx hb dX9_readsPair_39 rfl (lv_at hl 2 rfl) ?_
  refine gg_9_13 hx hb hts in9 hown hK hI hv_this lk_101 dX9_readsPair_40 ?_
  obtain ⟨g13, h⟩ := h
  refine r_if_eq (tgt := 47) hx hb dX9_readsPair_43 (by decide) g13 (fun c14 => ?_) (fun c14 => ?_)
  · replace h := h.1 c14
    refine lv_aload_n hx hb dX9_readsPair_47 rfl (lv_at hl 2 rfl) ?_
    refine gg_9_0 hx hb hts in9 hown hK hI hv_this lk_7 dX9_readsPair_48 ?_
    refine lv_iload_n hx hb dX9_readsPair_51 rfl (lv_at hl 5 rfl) ?_
    refine r_iconst (n := 2) hx hb dX9_readsPair_52 ?_
    refine lv_aload_n hx hb dX9_readsPair_53 rfl (lv_at hl 2 rfl) ?_
    refine gg_9_0 hx hb hts in9 hown hK hI hv_this lk_7 dX9_readsPair_54 ?_
    refine lv_iload_n hx hb dX9_readsPair_57 rfl (lv_at hl 3 rfl) ?_
    obtain ⟨g15, g16, h⟩ := h
    refine r_iald hx hb hK hI (K := 30) (vrM_9_0 hv_this) rfl (mlen_le _) dX9_readsPair_58 g15 g16 ?_
    refine r_imul hx hb dX9_readsPair_59 ?_
    refine r_iadd hx hb dX9_readsPair_60 ?_
    refine lv_iload hx hb dX9_readsPair_61 (lv_at hl 1 rfl) ?_
    obtain ⟨g17, g18, h⟩ := h
    refine r_iast hx hb hK hI hS (K := 30) (vrM_9_0 hv_this) (fun _ => rfl) (mlen_le _) dX9_readsPair_63 g17 g18 (fun st19 hst19 H locs hI hS => ?_)
    replace h := h st19 hst19
    refine lv_aload_n hx hb dX9_readsPair_64 rfl (lv_at hl 2 rfl) ?_
    refine gg_9_0 hx hb hts in9 hown hK hI hv_this lk_7 dX9_readsPair_65 ?_
    refine lv_iload_n hx hb dX9_readsPair_68 rfl (lv_at hl 5 rfl) ?_
    refine r_iconst (n := 2) hx hb dX9_readsPair_69 ?_
    refine lv_aload_n hx hb dX9_readsPair_70 rfl (lv_at hl 2 rfl) ?_
    refine gg_9_0 hx hb hts in9 hown hK hI hv_this lk_7 dX9_readsPair_71 ?_
    refine lv_iload_n hx hb dX9_readsPair_74 rfl (lv_at hl 3 rfl) ?_
    obtain ⟨g20, g21, h⟩ := h
    refine r_iald hx hb hK hI (K := 30) (vrM_9_0 hv_this) rfl (mlen_le _) dX9_readsPair_75 g20 g21 ?_
    refine r_imul hx hb dX9_readsPair_76 ?_
    refine r_iadd hx hb dX9_readsPair_77 ?_
    refine r_iconst (n := 1) hx hb dX9_readsPair_78 ?_
    refine r_iadd hx hb dX9_readsPair_79 ?_
    refine lv_iload hx hb dX9_readsPair_80 (lv_at hl 0 rfl) ?_
    obtain ⟨g22, g23, h⟩ := h
    refine r_iast hx hb hK hI hS (K := 30) (vrM_9_0 hv_this) (fun _ => rfl) (mlen_le _) dX9_readsPair_82 g22 g23 (fun st24 hst24 H locs hI hS => ?_)
    replace h := h st24 hst24
    refine lv_aload_n hx hb dX9_readsPair_83 rfl (lv_at hl 2 rfl) ?_
    refine gg_9_0 hx hb hts in9 hown hK hI hv_this lk_7 dX9_readsPair_84 ?_
    refine lv_iload_n hx hb dX9_readsPair_87 rfl (lv_at hl 3 rfl) ?_
    refine lv_dup2_11 hx hb dX9_readsPair_88 rfl rfl ?_
    obtain ⟨g25, g26, h⟩ := h
    refine r_iald hx hb hK hI (K := 30) (vrM_9_0 hv_this) rfl (mlen_le _) dX9_readsPair_89 g25 g26 ?_
    refine r_iconst (n := 1) hx hb dX9_readsPair_90 ?_
    refine r_iadd hx hb dX9_readsPair_91 ?_
    obtain ⟨g27, g28, h⟩ := h
    refine r_iast hx hb hK hI hS (K := 30) (vrM_9_0 hv_this) (fun _ => rfl) (mlen_le _) dX9_readsPair_92 g27 g28 (fun st29 hst29 H locs hI hS => ?_)
    replace h := h st29 hst29
    exact r_vret hx hb hr hlocks hK hI hS (Qp := Q) h dX9_readsPair_93
  · replace h := h.2 c14
    exact r_vret hx hb hr hlocks hK hI hS (Qp := Q) h dX9_readsPair_46
