theorem hd9_dropAxle : yX9_dropAxle.cls = RX9 ∧ yX9_dropAxle.cls ≠ "java/lang/invoke/MethodHandle" ∧ yX9_dropAxle.cls ≠ "java/lang/invoke/VarHandle" ∧ (parseMethodDescriptor yX9_dropAxle.desc).map (fun d => d.parameters.length) = some 1 := by decide +kernel
set_option maxHeartbeats 4000000 in
set_option maxRecDepth 100000 in
theorem m9_dropAxle (l : Launch) (G : WG)   (hv_this : vM 9 0) (Q : Int → St → Prop) (st : St) (a0 : Int) (h : f9_dropAxle Q st a0) : Met l yX9_dropAxle wsX9_dropAxle ({ frames := 2, cells := 0, slots := 0, locals := 46 }) (PcM vM G st [.ref (G.2.2.1 9 0), .int (iI a0)]) (QiM vM G Q) 0 0 G.2.2.2.1 := by
  refine Met.ofW (cc := cX9_dropAxle) (maxL := 2) (ret := (some .int)) (by decide) rfl ?_
  intro p e s m args below meth c s₁ B hml hvv
  obtain ⟨rfl, hA, hI, hK, hX⟩ := hvv
  have hx := B.exec
  have hb := B.bytes
  have hr := B.returns
  have hts := atoms_spec (ws := wsX9_dropAxle) B.pre
  have hown : s.vm.findClass RX9 = some m.cls := findClass_of_methodNamed B.named
  have hlocks := B.notSynchronized
  have hS : va_S G.2.2.2.1 s.heap s.heap [] := va_S.rf
  have in9 : ∀ w ∈ wsX90, w ∈ wsX9_dropAxle := by decide +kernel
  have lk_7 := hts (.fieldLink RX9 7 "BeamLinesModel" "a" "[I") (by decide +kernel)
  have lk_46 := hts (.fieldLink RX9 46 "BeamLinesModel" "thrown" "I") (by decide +kernel)
  have hl := lv_entry ([.ref (G.2.2.1 9 0), .int (iI a0)]) (n := 2) (Nat.le_of_ble_eq_true rfl)
  rw [lg_entry_eq]
  generalize (lg_sl ([.ref (G.2.2.1 9 0), .int (iI a0)]) ++ List.replicate (2 - (lg_sl ([.ref (G.2.2.1 9 0), .int (iI a0)])).length) Slot.unset).toArray = ls at hl ⊢
  have hl : lv_has ls 2 [(0, .ref (G.2.2.1 9 0)), (1, .int (iI a0))] := hl
  have J22 : ∀ (st : St) (s0x22 : Int) (H : Heap) (locs : List Loc) (ls : Array Slot), Iv vM G st H → va_S G.2.2.2.1 s.heap H locs → lv_has ls 2 [(0, .ref (G.2.2.1 9 0)), (1, .int (iI a0))] → f9_dropAxle_j22 Q a0 st s0x22 → W p l e (headSpec wsX9_dropAxle ({ frames := 2, cells := 0, slots := 0, locals := 46 })).room s m ([.ref (G.2.2.1 9 0), .int (iI a0)] : List Value).toArray below meth c H locs 0 0 (MQ below (QiM vM G Q) ([.ref (G.2.2.1 9 0), .int (iI a0)] : List Value).toArray s 0 0 G.2.2.2.1) (F0 m 22 ls [.int (iI s0x22), .ref (G.2.2.1 9 0)]) := by
    intro st s0x22 H locs ls hI hS hl h
    unfold f9_dropAxle_j22 at h
    refine pp_9_6 hx hb hts in9 hown hK hI hS hv_this lk_46 dX9_dropAxle_22 (fun st5 hst5 H locs hI hS => ?_)
    replace h := h st5 hst5
    refine lv_aload_n hx hb dX9_dropAxle_25 rfl (lv_at hl 0 rfl) ?_
    refine gg_9_6 hx hb hts in9 hown hK hI hv_this lk_46 dX9_dropAxle_26 ?_
    obtain ⟨g6, h⟩ := h
    refine r_if_le (tgt := 34) hx hb dX9_dropAxle_29 (by decide) g6 (fun c7 => ?_) (fun c7 => ?_)
    · replace h := h.1 c7
      refine lv_aload_n hx hb dX9_dropAxle_34 rfl (lv_at hl 0 rfl) ?_
      refine lv_aload_n hx hb dX9_dropAxle_35 rfl (lv_at hl 0 rfl) ?_
      refine gg_9_0 hx hb hts in9 hown hK hI hv_this lk_7 dX9_dropAxle_36 ?_
      refine r_callv (va_runV (As := [.ref (G.2.2.1 30 0)]) (rest := []) ⟨hx, hb, hml, hown, hts⟩ (m9_keeps l G 0 hv_this (vrM_9_0 hv_this) _ st5 h) (cwV 1 hts gX9_dropAxle_X9_keeps rfl rfl rfl hd9_keeps ⟨Nat.le_of_ble_eq_true rfl, Nat.le_of_ble_eq_true rfl⟩) (pre_V hK hX hI hA hS hv_this rfl rfl [.ref (G.2.2.1 30 0)]) rfl rfl hl.1 rfl (lv_room (Nat.le_of_ble_eq_true rfl)) dX9_dropAxle_39 ⟨Nat.le_of_ble_eq_true rfl, Nat.le_of_ble_eq_true rfl⟩) hS (fun st9 h H locs hI hS => ?_)
      refine lv_aload_n hx hb dX9_dropAxle_42 rfl (lv_at hl 0 rfl) ?_
      refine r_bipush (n := 35) hx hb dX9_dropAxle_43 rfl ?_
      refine r_iconst (n := 5) hx hb dX9_dropAxle_45 ?_
      refine lv_iload_n hx hb dX9_dropAxle_46 rfl (lv_at hl 1 rfl) ?_
      refine r_calli (va_runV (As := [.int (iI 35), .int (iI 5), .int (iI a0)]) (rest := []) ⟨hx, hb, hml, hown, hts⟩ (m9_drops l G hv_this _ st9 35 5 a0 h) (cwV 3 hts gX9_dropAxle_X9_drops rfl rfl rfl hd9_drops ⟨Nat.le_of_ble_eq_true rfl, Nat.le_of_ble_eq_true rfl⟩) (pre_V hK hX hI hA hS hv_this rfl rfl [.int (iI 35), .int (iI 5), .int (iI a0)]) rfl rfl hl.1 rfl (lv_room (Nat.le_of_ble_eq_true rfl)) dX9_dropAxle_47 ⟨Nat.le_of_ble_eq_true rfl, Nat.le_of_ble_eq_true rfl⟩) hS (fun z10 st11 h H locs hI hS => ?_)
      exact r_iret hx hb hr hlocks hK hI hS (Qp := Q) h dX9_dropAxle_50
    · replace h := h.2 c7
      refine r_iconst (n := 0) hx hb dX9_dropAxle_32 ?_
      exact r_iret hx hb hr hlocks hK hI hS (Qp := Q) h dX9_dropAxle_33
  unfold f9_dropAxle at h
  refine lv_aload_n hx hb dX9_dropAxle_0 rfl (lv_at hl 0 rfl) ?_
  refine lv_iload_n hx hb dX9_dropAxle_1 rfl (lv_at hl 1 rfl) ?_
  refine r_iconst (n := 0) hx hb dX9_dropAxle_2 ?_
  refine lv_aload_n hx hb dX9_dropAxle_3 rfl (lv_at hl 0 rfl) ?_
  refine gg_9_0 hx hb hts in9 hown hK hI hv_this lk_7 dX9_dropAxle_4 ?_
  refine r_iconst (n := 5) hx hb dX9_dropAxle_7 ?_
  refine r_iald hx hb hK hI (K := 30) (vrM_9_0 hv_this) rfl (mlen_le _) dX9_dropAxle_8 (by decide) (by decide) ?_
  refine r_iconst (n := 1) hx hb dX9_dropAxle_9 ?_
  refine r_isub hx hb dX9_dropAxle_10 ?_
  refine r_calli (va_runS (As := [.int (iI a0), .int (iI 0), .int (iI ((st 30 0 0 5) - 1))]) (rest := [.ref (G.2.2.1 9 0)]) ⟨hx, hb, hml, hown, hts⟩ (m9_isIn l G _ st a0 0 ((st 30 0 0 5) - 1) h) (va_cwS 3 hts gX9_dropAxle_X9_isIn rfl rfl rfl hd9_isIn ⟨Nat.le_of_ble_eq_true rfl, Nat.le_of_ble_eq_true rfl⟩) (pre_S hK hX hI hA hS [.int (iI a0), .int (iI 0), .int (iI ((st 30 0 0 5) - 1))]) rfl rfl hl.1 rfl (lv_room (Nat.le_of_ble_eq_true rfl)) dX9_dropAxle_11 ⟨Nat.le_of_ble_eq_true rfl, Nat.le_of_ble_eq_true rfl⟩) hS (fun z1 st2 h H locs hI hS => ?_)
  obtain ⟨g3, h⟩ := h
  refine r_if_eq (tgt := 21) hx hb dX9_dropAxle_14 (by decide) g3 (fun c4 => ?_) (fun c4 => ?_)
  · replace h := h.1 c4
    refine r_iconst (n := 1) hx hb dX9_dropAxle_21 ?_
    exact J22 st2 1 _ _ ls hI hS (lv_sub hl [0, 1] rfl) h
  · replace h := h.2 c4
    refine r_iconst (n := 0) hx hb dX9_dropAxle_17 ?_
    refine lv_goto (tgt := 22) hx hb dX9_dropAxle_18 (by decide) ?_
    exact J22 st2 0 _ _ ls hI hS (lv_sub hl [0, 1] rfl) h
theorem hd9_setBearing : yX9_setBearing.cls = RX9 ∧ yX9_setBearing.cls ≠ "java/lang/invoke/MethodHandle" ∧ yX9_setBearing.cls ≠ "java/lang/invoke/VarHandle" ∧ (parseMethodDescriptor yX9_setBearing.desc).map (fun d => d.parameters.length) = some 2 := by decide +kernel
set_option maxHeartbeats 4000000 in
set_option maxRecDepth 100000 in
theorem m9_setBearing (l : Launch) (G : WG)   (hv_this : vM 9 0) (Q : Int → St → Prop) (st : St) (a0 : Int) (a1 : Int) (h : f9_setBearing Q st a0 a1) : Met l yX9_setBearing wsX9_setBearing ({ frames := 2, cells := 0, slots := 0, locals := 46 }) (PcM vM G st [.ref (G.2.2.1 9 0), .int (iI a0), .int (iI a1)]) (QiM vM G Q) 0 0 G.2.2.2.1 := by
  refine Met.ofW (cc := cX9_setBearing) (maxL := 4) (ret := (some .int)) (by decide) rfl ?_
  intro p e s m args below meth c s₁ B hml hvv
  obtain ⟨rfl, hA, hI, hK, hX⟩ := hvv
  have hx := B.exec
  have hb := B.bytes
  have hr := B.returns
  have hts := atoms_spec (ws := wsX9_setBearing) B.pre
  have hown : s.vm.findClass RX9 = some m.cls := findClass_of_methodNamed B.named
  have hlocks := B.notSynchronized
  have hS : va_S G.2.2.2.1 s.heap s.heap [] := va_S.rf
  have in9 : ∀ w ∈ wsX90, w ∈ wsX9_setBearing := by decide +kernel
  have lk_7 := hts (.fieldLink RX9 7 "BeamLinesModel" "a" "[I") (by decide +kernel)
  have lk_46 := hts (.fieldLink RX9 46 "BeamLinesModel" "thrown" "I") (by decide +kernel)
  have kc_150 : (Jvm.Cond.constant RX9 150 (iI 99999)).before _ s = true := hts (.constant RX9 150 99999) (by decide +kernel)
  have hl := lv_entry ([.ref (G.2.2.1 9 0), .int (iI a0), .int (iI a1)]) (n := 4) (Nat.le_of_ble_eq_true rfl)
  rw [lg_entry_eq]
  generalize (lg_sl ([.ref (G.2.2.1 9 0), .int (iI a0), .int (iI a1)]) ++ List.replicate (4 - (lg_sl ([.ref (G.2.2.1 9 0), .int (iI a0), .int (iI a1)])).length) Slot.unset).toArray = ls at hl ⊢
  have hl : lv_has ls 4 [(0, .ref (G.2.2.1 9 0)), (1, .int (iI a0)), (2, .int (iI a1))] := hl
  have J33 : ∀ (st : St) (s0x33 : Int) (H : Heap) (locs : List Loc) (ls : Array Slot), Iv vM G st H → va_S G.2.2.2.1 s.heap H locs → lv_has ls 4 [(0, .ref (G.2.2.1 9 0)), (1, .int (iI a0)), (2, .int (iI a1))] → f9_setBearing_j33 Q a0 a1 st s0x33 → W p l e (headSpec wsX9_setBearing ({ frames := 2, cells := 0, slots := 0, locals := 46 })).room s m ([.ref (G.2.2.1 9 0), .int (iI a0), .int (iI a1)] : List Value).toArray below meth c H locs 0 0 (MQ below (QiM vM G Q) ([.ref (G.2.2.1 9 0), .int (iI a0), .int (iI a1)] : List Value).toArray s 0 0 G.2.2.2.1) (F0 m 33 ls [.int (iI s0x33), .ref (G.2.2.1 9 0)]) := by
    intro st s0x33 H locs ls hI hS hl h
    unfold f9_setBearing_j33 at h
    refine pp_9_6 hx hb hts in9 hown hK hI hS hv_this lk_46 dX9_setBearing_33 (fun st11 hst11 H locs hI hS => ?_)
    replace h := h st11 hst11
    refine lv_aload_n hx hb dX9_setBearing_36 rfl (lv_at hl 0 rfl) ?_
    refine gg_9_6 hx hb hts in9 hown hK hI hv_this lk_46 dX9_setBearing_37 ?_
    obtain ⟨g12, h⟩ := h
    refine r_if_le (tgt := 45) hx hb dX9_setBearing_40 (by decide) g12 (fun c13 => ?_) (fun c13 => ?_)
    · replace h := h.1 c13
      refine lv_aload_n hx hb dX9_setBearing_45 rfl (lv_at hl 0 rfl) ?_
      refine lv_aload_n hx hb dX9_setBearing_46 rfl (lv_at hl 0 rfl) ?_
      refine gg_9_0 hx hb hts in9 hown hK hI hv_this lk_7 dX9_setBearing_47 ?_
      refine r_callv (va_runV (As := [.ref (G.2.2.1 30 0)]) (rest := []) ⟨hx, hb, hml, hown, hts⟩ (m9_keeps l G 0 hv_this (vrM_9_0 hv_this) _ st11 h) (cwV 1 hts gX9_setBearing_X9_keeps rfl rfl rfl hd9_keeps ⟨Nat.le_of_ble_eq_true rfl, Nat.le_of_ble_eq_true rfl⟩) (pre_V hK hX hI hA hS hv_this rfl rfl [.ref (G.2.2.1 30 0)]) rfl rfl hl.1 rfl (lv_room (Nat.le_of_ble_eq_true rfl)) dX9_setBearing_50 ⟨Nat.le_of_ble_eq_true rfl, Nat.le_of_ble_eq_true rfl⟩) hS (fun st15 h H locs hI hS => ?_)
      refine lv_aload_n hx hb dX9_setBearing_53 rfl (lv_at hl 0 rfl) ?_
      refine lv_iload_n hx hb dX9_setBearing_54 rfl (lv_at hl 1 rfl) ?_
      refine r_calli (va_runV (As := [.int (iI a0)]) (rest := []) ⟨hx, hb, hml, hown, hts⟩ (m9_bearsOf l G hv_this _ st15 a0 h) (cwV 1 hts gX9_setBearing_X9_bearsOf rfl rfl rfl hd9_bearsOf ⟨Nat.le_of_ble_eq_true rfl, Nat.le_of_ble_eq_true rfl⟩) (pre_V hK hX hI hA hS hv_this rfl rfl [.int (iI a0)]) rfl rfl hl.1 rfl (lv_room (Nat.le_of_ble_eq_true rfl)) dX9_setBearing_55 ⟨Nat.le_of_ble_eq_true rfl, Nat.le_of_ble_eq_true rfl⟩) hS (fun z16 st17 h H locs hI hS => ?_)
      refine lv_istore_n (lv' := [(3, .int (iI z16)), (0, .ref (G.2.2.1 9 0)), (1, .int (iI a0)), (2, .int (iI a1))]) hx hb dX9_setBearing_58 rfl hl (by decide) rfl (fun ls hl => ?_)
      refine lv_aload_n hx hb dX9_setBearing_59 rfl (lv_at hl 1 rfl) ?_
      refine gg_9_0 hx hb hts in9 hown hK hI hv_this lk_7 dX9_setBearing_60 ?_
      refine r_bipush (n := 6) hx hb dX9_setBearing_63 rfl ?_
      refine r_iconst (n := 2) hx hb dX9_setBearing_65 ?_
      refine lv_iload_n hx hb dX9_setBearing_66 rfl (lv_at hl 2 rfl) ?_
      refine r_imul hx hb dX9_setBearing_67 ?_
      refine r_iadd hx hb dX9_setBearing_68 ?_
      refine r_iconst (n := 1) hx hb dX9_setBearing_69 ?_
      refine r_iadd hx hb dX9_setBearing_70 ?_
      refine lv_iload_n hx hb dX9_setBearing_71 rfl (lv_at hl 3 rfl) ?_
      obtain ⟨g18, g19, h⟩ := h
      refine r_iast hx hb hK hI hS (K := 30) (vrM_9_0 hv_this) (fun _ => rfl) (mlen_le _) dX9_setBearing_72 g18 g19 (fun st20 hst20 H locs hI hS => ?_)
      replace h := h st20 hst20
      refine lv_iload_n hx hb dX9_setBearing_73 rfl (lv_at hl 0 rfl) ?_
      exact r_iret hx hb hr hlocks hK hI hS (Qp := Q) h dX9_setBearing_74
    · replace h := h.2 c13
      refine r_iconst (n := 0) hx hb dX9_setBearing_43 ?_
      exact r_iret hx hb hr hlocks hK hI hS (Qp := Q) h dX9_setBearing_44
  have J28 : ∀ (st : St) (H : Heap) (locs : List Loc) (ls : Array Slot), Iv vM G st H → va_S G.2.2.2.1 s.heap H locs → lv_has ls 4 [(0, .ref (G.2.2.1 9 0)), (1, .int (iI a0)), (2, .int (iI a1))] → f9_setBearing_j28 Q a0 a1 st → W p l e (headSpec wsX9_setBearing ({ frames := 2, cells := 0, slots := 0, locals := 46 })).room s m ([.ref (G.2.2.1 9 0), .int (iI a0), .int (iI a1)] : List Value).toArray below meth c H locs 0 0 (MQ below (QiM vM G Q) ([.ref (G.2.2.1 9 0), .int (iI a0), .int (iI a1)] : List Value).toArray s 0 0 G.2.2.2.1) (F0 m 28 ls [.ref (G.2.2.1 9 0)]) := by
    intro st H locs ls hI hS hl h
    unfold f9_setBearing_j28 at h
    refine r_iconst (n := 0) hx hb dX9_setBearing_28 ?_
    refine lv_goto (tgt := 33) hx hb dX9_setBearing_29 (by decide) ?_
    exact J33 st 0 _ _ ls hI hS (lv_sub hl [0, 1, 2] rfl) h
  unfold f9_setBearing at h
  refine lv_aload_n hx hb dX9_setBearing_0 rfl (lv_at hl 0 rfl) ?_
  refine lv_aload_n hx hb dX9_setBearing_1 rfl (lv_at hl 0 rfl) ?_
  refine lv_iload_n hx hb dX9_setBearing_2 rfl (lv_at hl 1 rfl) ?_
  refine r_calli (va_runV (As := [.int (iI a0)]) (rest := [.ref (G.2.2.1 9 0)]) ⟨hx, hb, hml, hown, hts⟩ (m9_isSupport l G hv_this _ st a0 h) (cwV 1 hts gX9_setBearing_X9_isSupport rfl rfl rfl hd9_isSupport ⟨Nat.le_of_ble_eq_true rfl, Nat.le_of_ble_eq_true rfl⟩) (pre_V hK hX hI hA hS hv_this rfl rfl [.int (iI a0)]) rfl rfl hl.1 rfl (lv_room (Nat.le_of_ble_eq_true rfl)) dX9_setBearing_3 ⟨Nat.le_of_ble_eq_true rfl, Nat.le_of_ble_eq_true rfl⟩) hS (fun z1 st2 h H locs hI hS => ?_)
  obtain ⟨g3, h⟩ := h
  refine r_if_ne (tgt := 13) hx hb dX9_setBearing_6 (by decide) g3 (fun c4 => ?_) (fun c4 => ?_)
  · replace h := h.2 c4
    refine lv_iload_n hx hb dX9_setBearing_13 rfl (lv_at hl 2 rfl) ?_
    refine r_iconst (n := (-1)) hx hb dX9_setBearing_14 ?_
    obtain ⟨g5, h⟩ := h
    refine r_icmp_eq (tgt := 28) hx hb dX9_setBearing_15 (by decide) g5 (inI_mk rfl) (fun c6 => ?_) (fun c6 => ?_)
    · replace h := h.1 c6
      exact J28 st2  _ _ ls hI hS (lv_sub hl [0, 1, 2] rfl) h
    · replace h := h.2 c6
      refine lv_iload_n hx hb dX9_setBearing_18 rfl (lv_at hl 2 rfl) ?_
      refine r_iconst (n := 1) hx hb dX9_setBearing_19 ?_
      refine lv_ldc (v := iI 99999) hx hb hown kc_150 dX9_setBearing_20 ?_
      refine r_calli (va_runS (As := [.int (iI a1), .int (iI 1), .int (iI 99999)]) (rest := [.ref (G.2.2.1 9 0)]) ⟨hx, hb, hml, hown, hts⟩ (m9_isIn l G _ st2 a1 1 99999 h) (va_cwS 3 hts gX9_setBearing_X9_isIn rfl rfl rfl hd9_isIn ⟨Nat.le_of_ble_eq_true rfl, Nat.le_of_ble_eq_true rfl⟩) (pre_S hK hX hI hA hS [.int (iI a1), .int (iI 1), .int (iI 99999)]) rfl rfl hl.1 rfl (lv_room (Nat.le_of_ble_eq_true rfl)) dX9_setBearing_22 ⟨Nat.le_of_ble_eq_true rfl, Nat.le_of_ble_eq_true rfl⟩) hS (fun z7 st8 h H locs hI hS => ?_)
      obtain ⟨g9, h⟩ := h
      refine r_if_eq (tgt := 32) hx hb dX9_setBearing_25 (by decide) g9 (fun c10 => ?_) (fun c10 => ?_)
      · replace h := h.1 c10
        refine r_iconst (n := 2) hx hb dX9_setBearing_32 ?_
        exact J33 st8 2 _ _ ls hI hS (lv_sub hl [0, 1, 2] rfl) h
      · replace h := h.2 c10
        exact J28 st8  _ _ ls hI hS (lv_sub hl [0, 1, 2] rfl) h
  · replace h := h.1 c4
    refine r_iconst (n := 1) hx hb dX9_setBearing_9 ?_
    refine lv_goto (tgt := 33) hx hb dX9_setBearing_10 (by decide) ?_
    exact J33 st2 1 _ _ ls hI hS (lv_sub hl [0, 1, 2] rfl) h
theorem hd9_setMost : yX9_setMost.cls = RX9 ∧ yX9_setMost.cls ≠ "java/lang/invoke/MethodHandle" ∧ yX9_setMost.cls ≠ "java/lang/invoke/VarHandle" ∧ (parseMethodDescriptor yX9_setMost.desc).map (fun d => d.parameters.length) = some 1 := by decide +kernel
set_option maxHeartbeats 4000000 in
set_option maxRecDepth 100000 in
theorem m9_setMost (l : Launch) (G : WG)   (hv_this : vM 9 0) (Q : Int → St → Prop) (st : St) (a0 : Int) (h : f9_setMost Q st a0) : Met l yX9_setMost wsX9_setMost ({ frames := 2, cells := 0, slots := 0, locals := 46 }) (PcM vM G st [.ref (G.2.2.1 9 0), .int (iI a0)]) (QiM vM G Q) 0 0 G.2.2.2.1 := by
  refine Met.ofW (cc := cX9_setMost) (maxL := 3) (ret := (some .int)) (by decide) rfl ?_
  intro p e s m args below meth c s₁ B hml hvv
  obtain ⟨rfl, hA, hI, hK, hX⟩ := hvv
  have hx := B.exec
  have hb := B.bytes
  have hr := B.returns
  have hts := atoms_spec (ws := wsX9_setMost) B.pre
  have hown : s.vm.findClass RX9 = some m.cls := findClass_of_methodNamed B.named
  have hlocks := B.notSynchronized
  have hS : va_S G.2.2.2.1 s.heap s.heap [] := va_S.rf
  have in9 : ∀ w ∈ wsX90, w ∈ wsX9_setMost := by decide +kernel
  have lk_7 := hts (.fieldLink RX9 7 "BeamLinesModel" "a" "[I") (by decide +kernel)
  have lk_46 := hts (.fieldLink RX9 46 "BeamLinesModel" "thrown" "I") (by decide +kernel)
  have kc_187 : (Jvm.Cond.constant RX9 187 (iI 999999)).before _ s = true := hts (.constant RX9 187 999999) (by decide +kernel)
  have hl := lv_entry ([.ref (G.2.2.1 9 0), .int (iI a0)]) (n := 3) (Nat.le_of_ble_eq_true rfl)
  rw [lg_entry_eq]
  generalize (lg_sl ([.ref (G.2.2.1 9 0), .int (iI a0)]) ++ List.replicate (3 - (lg_sl ([.ref (G.2.2.1 9 0), .int (iI a0)])).length) Slot.unset).toArray = ls at hl ⊢
  have hl : lv_has ls 3 [(0, .ref (G.2.2.1 9 0)), (1, .int (iI a0))] := hl
  have J16 : ∀ (st : St) (s0x16 : Int) (H : Heap) (locs : List Loc) (ls : Array Slot), Iv vM G st H → va_S G.2.2.2.1 s.heap H locs → lv_has ls 3 [(0, .ref (G.2.2.1 9 0)), (1, .int (iI a0))] → f9_setMost_j16 Q a0 st s0x16 → W p l e (headSpec wsX9_setMost ({ frames := 2, cells := 0, slots := 0, locals := 46 })).room s m ([.ref (G.2.2.1 9 0), .int (iI a0)] : List Value).toArray below meth c H locs 0 0 (MQ below (QiM vM G Q) ([.ref (G.2.2.1 9 0), .int (iI a0)] : List Value).toArray s 0 0 G.2.2.2.1) (F0 m 16 ls [.int (iI s0x16), .ref (G.2.2.1 9 0)]) := by
    intro st s0x16 H locs ls hI hS hl h
    unfold f9_setMost_j16 at h
    refine pp_9_6 hx hb hts in9 hown hK hI hS hv_this lk_46 dX9_setMost_16 (fun st5 hst5 H locs hI hS => ?_)
    replace h := h st5 hst5
    refine lv_aload_n hx hb dX9_setMost_19 rfl (lv_at hl 0 rfl) ?_
    refine gg_9_6 hx hb hts in9 hown hK hI hv_this lk_46 dX9_setMost_20 ?_
    obtain ⟨g6, h⟩ := h
    refine r_if_le (tgt := 28) hx hb dX9_setMost_23 (by decide) g6 (fun c7 => ?_) (fun c7 => ?_)
    · replace h := h.1 c7
      refine lv_aload_n hx hb dX9_setMost_28 rfl (lv_at hl 0 rfl) ?_
      refine lv_aload_n hx hb dX9_setMost_29 rfl (lv_at hl 0 rfl) ?_
      refine gg_9_0 hx hb hts in9 hown hK hI hv_this lk_7 dX9_setMost_30 ?_
      refine r_callv (va_runV (As := [.ref (G.2.2.1 30 0)]) (rest := []) ⟨hx, hb, hml, hown, hts⟩ (m9_keeps l G 0 hv_this (vrM_9_0 hv_this) _ st5 h) (cwV 1 hts gX9_setMost_X9_keeps rfl rfl rfl hd9_keeps ⟨Nat.le_of_ble_eq_true rfl, Nat.le_of_ble_eq_true rfl⟩) (pre_V hK hX hI hA hS hv_this rfl rfl [.ref (G.2.2.1 30 0)]) rfl rfl hl.1 rfl (lv_room (Nat.le_of_ble_eq_true rfl)) dX9_setMost_33 ⟨Nat.le_of_ble_eq_true rfl, Nat.le_of_ble_eq_true rfl⟩) hS (fun st9 h H locs hI hS => ?_)
      refine lv_aload_n hx hb dX9_setMost_36 rfl (lv_at hl 0 rfl) ?_
      refine gg_9_0 hx hb hts in9 hown hK hI hv_this lk_7 dX9_setMost_37 ?_
      refine r_iconst (n := 1) hx hb dX9_setMost_40 ?_
      refine r_iald hx hb hK hI (K := 30) (vrM_9_0 hv_this) rfl (mlen_le _) dX9_setMost_41 (by decide) (by decide) ?_
      refine r_topi (fun x10 hx10 => ?_)
      replace h := h x10 hx10
      refine lv_istore_n (lv' := [(2, .int (iI x10)), (0, .ref (G.2.2.1 9 0)), (1, .int (iI a0))]) hx hb dX9_setMost_42 rfl hl (by decide) rfl (fun ls hl => ?_)
      refine lv_aload_n hx hb dX9_setMost_43 rfl (lv_at hl 1 rfl) ?_
      refine gg_9_0 hx hb hts in9 hown hK hI hv_this lk_7 dX9_setMost_44 ?_
      refine r_iconst (n := 1) hx hb dX9_setMost_47 ?_
      refine lv_iload_n hx hb dX9_setMost_48 rfl (lv_at hl 2 rfl) ?_
      refine r_iast hx hb hK hI hS (K := 30) (vrM_9_0 hv_this) (fun _ => rfl) (mlen_le _) dX9_setMost_49 (by decide) (by decide) (fun st11 hst11 H locs hI hS => ?_)
      replace h := h st11 hst11
      refine lv_iload_n hx hb dX9_setMost_50 rfl (lv_at hl 0 rfl) ?_
      exact r_iret hx hb hr hlocks hK hI hS (Qp := Q) h dX9_setMost_51
    · replace h := h.2 c7
      refine r_iconst (n := 0) hx hb dX9_setMost_26 ?_
      exact r_iret hx hb hr hlocks hK hI hS (Qp := Q) h dX9_setMost_27
  unfold f9_setMost at h
  refine lv_aload_n hx hb dX9_setMost_0 rfl (lv_at hl 0 rfl) ?_
  refine lv_iload_n hx hb dX9_setMost_1 rfl (lv_at hl 1 rfl) ?_
  refine r_iconst (n := 1) hx hb dX9_setMost_2 ?_
  refine lv_ldc (v := iI 999999) hx hb hown kc_187 dX9_setMost_3 ?_
  refine r_calli (va_runS (As := [.int (iI a0), .int (iI 1), .int (iI 999999)]) (rest := [.ref (G.2.2.1 9 0)]) ⟨hx, hb, hml, hown, hts⟩ (m9_isIn l G _ st a0 1 999999 h) (va_cwS 3 hts gX9_setMost_X9_isIn rfl rfl rfl hd9_isIn ⟨Nat.le_of_ble_eq_true rfl, Nat.le_of_ble_eq_true rfl⟩) (pre_S hK hX hI hA hS [.int (iI a0), .int (iI 1), .int (iI 999999)]) rfl rfl hl.1 rfl (lv_room (Nat.le_of_ble_eq_true rfl)) dX9_setMost_5 ⟨Nat.le_of_ble_eq_true rfl, Nat.le_of_ble_eq_true rfl⟩) hS (fun z1 st2 h H locs hI hS => ?_)
  obtain ⟨g3, h⟩ := h
  refine r_if_eq (tgt := 15) hx hb dX9_setMost_8 (by decide) g3 (fun c4 => ?_) (fun c4 => ?_)
  · replace h := h.1 c4
    refine r_iconst (n := 1) hx hb dX9_setMost_15 ?_
    exact J16 st2 1 _ _ ls hI hS (lv_sub hl [0, 1] rfl) h
  · replace h := h.2 c4
    refine r_iconst (n := 0) hx hb dX9_setMost_11 ?_
    refine lv_goto (tgt := 16) hx hb dX9_setMost_12 (by decide) ?_
    exact J16 st2 0 _ _ ls hI hS (lv_sub hl [0, 1] rfl) h
theorem hd9_hasLoad : yX9_hasLoad.cls = RX9 ∧ yX9_hasLoad.cls ≠ "java/lang/invoke/MethodHandle" ∧ yX9_hasLoad.cls ≠ "java/lang/invoke/VarHandle" ∧ (parseMethodDescriptor yX9_hasLoad.desc).map (fun d => d.parameters.length) = some 1 := by decide +kernel
set_option maxHeartbeats 4000000 in
set_option maxRecDepth 100000 in
theorem m9_hasLoad (l : Launch) (G : WG)   (hv_this : vM 9 0) (Q : Int → St → Prop) (st : St) (a0 : Int) (h : f9_hasLoad Q st a0) : Met l yX9_hasLoad wsX9_hasLoad ({ frames := 0, cells := 0, slots := 0, locals := 0 }) (PcM vM G st [.ref (G.2.2.1 9 0), .int (iI a0)]) (QiM vM G Q) 0 0 G.2.2.2.1 := by
  refine Met.ofW (cc := cX9_hasLoad) (maxL := 3) (ret := (some .boolean)) (by decide) rfl ?_
  intro p e s m args below meth c s₁ B hml hvv
  obtain ⟨rfl, hA, hI, hK, hX⟩ := hvv
  have hx := B.exec
  have hb := B.bytes
  have hr := B.returns
  have hts := atoms_spec (ws := wsX9_hasLoad) B.pre
  have hown : s.vm.findClass RX9 = some m.cls := findClass_of_methodNamed B.named
  have hlocks := B.notSynchronized
  have hS : va_S G.2.2.2.1 s.heap s.heap [] := va_S.rf
  have in9 : ∀ w ∈ wsX90, w ∈ wsX9_hasLoad := by decide +kernel
  have lk_7 := hts (.fieldLink RX9 7 "BeamLinesModel" "a" "[I") (by decide +kernel)
  have hl := lv_entry ([.ref (G.2.2.1 9 0), .int (iI a0)]) (n := 3) (Nat.le_of_ble_eq_true rfl)
  rw [lg_entry_eq]
  generalize (lg_sl ([.ref (G.2.2.1 9 0), .int (iI a0)]) ++ List.replicate (3 - (lg_sl ([.ref (G.2.2.1 9 0), .int (iI a0)])).length) Slot.unset).toArray = ls at hl ⊢
  have hl : lv_has ls 3 [(0, .ref (G.2.2.1 9 0)), (1, .int (iI a0))] := hl
  have L2 : ∀ (n2 : Nat), ∀ (st : St) (v2x2 : Int) (H : Heap) (locs : List Loc) (ls : Array Slot), Iv vM G st H → va_S G.2.2.2.1 s.heap H locs → lv_has ls 3 [(0, .ref (G.2.2.1 9 0)), (1, .int (iI a0)), (2, .int (iI v2x2))] → f9_hasLoad_l2 Q a0 n2 st v2x2 → W p l e (headSpec wsX9_hasLoad ({ frames := 0, cells := 0, slots := 0, locals := 0 })).room s m ([.ref (G.2.2.1 9 0), .int (iI a0)] : List Value).toArray below meth c H locs 0 0 (MQ below (QiM vM G Q) ([.ref (G.2.2.1 9 0), .int (iI a0)] : List Value).toArray s 0 0 G.2.2.2.1) (F0 m 2 ls []) := by
    intro n2
    induction n2 with
    | zero =>
      intro st v2x2 H locs ls hI hS hl h
      exact h.elim
    | succ n2 ih2 =>
      intro st v2x2 H locs ls hI hS hl h
      unfold f9_hasLoad_l2 at h
      refine lv_iload_n hx hb dX9_hasLoad_2 rfl (lv_at hl 2 rfl) ?_
      refine lv_aload_n hx hb dX9_hasLoad_3 rfl (lv_at hl 0 rfl) ?_
      refine gg_9_0 hx hb hts in9 hown hK hI hv_this lk_7 dX9_hasLoad_4 ?_
      refine r_iconst (n := 4) hx hb dX9_hasLoad_7 ?_
      refine r_iald hx hb hK hI (K := 30) (vrM_9_0 hv_this) rfl (mlen_le _) dX9_hasLoad_8 (by decide) (by decide) ?_
      obtain ⟨g1, h⟩ := h
      obtain ⟨g2, h⟩ := h
      refine r_icmp_ge (tgt := 37) hx hb dX9_hasLoad_9 (by decide) g1 g2 (fun c3 => ?_) (fun c3 => ?_)
      · replace h := h.1 c3
        refine r_iconst (n := 0) hx hb dX9_hasLoad_37 ?_
        exact r_zret hx hb hr hlocks hK hI hS (Qp := Q) (by decide) h dX9_hasLoad_38
      · replace h := h.2 c3
        refine lv_aload_n hx hb dX9_hasLoad_12 rfl (lv_at hl 0 rfl) ?_
        refine gg_9_0 hx hb hts in9 hown hK hI hv_this lk_7 dX9_hasLoad_13 ?_
        refine r_bipush (n := 19) hx hb dX9_hasLoad_16 rfl ?_
        refine r_iconst (n := 2) hx hb dX9_hasLoad_18 ?_
        refine lv_iload_n hx hb dX9_hasLoad_19 rfl (lv_at hl 2 rfl) ?_
        refine r_imul hx hb dX9_hasLoad_20 ?_
        refine r_iadd hx hb dX9_hasLoad_21 ?_
        refine r_iconst (n := 1) hx hb dX9_hasLoad_22 ?_
        refine r_iadd hx hb dX9_hasLoad_23 ?_
        obtain ⟨g4, g5, h⟩ := h
        refine r_iald hx hb hK hI (K := 30) (vrM_9_0 hv_this) rfl (mlen_le _) dX9_hasLoad_24 g4 g5 ?_
        refine lv_iload_n hx hb dX9_hasLoad_25 rfl (lv_at hl 1 rfl) ?_
        obtain ⟨g6, h⟩ := h
        obtain ⟨g7, h⟩ := h
        refine r_icmp_ne (tgt := 31) hx hb dX9_hasLoad_26 (by decide) g6 g7 (fun c8 => ?_) (fun c8 => ?_)
        · replace h := h.2 c8
          obtain ⟨x9, hx9⟩ : ∃ z : Int, z = v2x2 + 1 := ⟨_, rfl⟩
          replace h := h x9 hx9
          refine lv_iinc (v := iI x9) (lv' := [(2, .int (iI x9)), (0, .ref (G.2.2.1 9 0)), (1, .int (iI a0))]) hx hb dX9_hasLoad_31 hl (k := 2) rfl (by rw [hx9]; exact iI_add _ _) (by decide) rfl (fun ls hl => ?_)
          refine lv_goto (tgt := 2) hx hb dX9_hasLoad_34 (by decide) ?_
          exact ih2 st x9 _ _ ls hI hS (lv_sub hl [1, 2, 0] rfl) h
        · replace h := h.1 c8
          refine r_iconst (n := 1) hx hb dX9_hasLoad_29 ?_
          exact r_zret hx hb hr hlocks hK hI hS (Qp := Q) (by decide) h dX9_hasLoad_30
  unfold f9_hasLoad at h
  refine r_iconst (n := 0) hx hb dX9_hasLoad_0 ?_
  refine lv_istore_n (lv' := [(2, .int (iI 0)), (0, .ref (G.2.2.1 9 0)), (1, .int (iI a0))]) hx hb dX9_hasLoad_1 rfl hl (by decide) rfl (fun ls hl => ?_)
  obtain ⟨kk, h⟩ := h
  exact L2 kk st 0 _ _ ls hI hS (lv_sub hl [1, 2, 0] rfl) h
theorem hd9_writeBeam : yX9_writeBeam.cls = RX9 ∧ yX9_writeBeam.cls ≠ "java/lang/invoke/MethodHandle" ∧ yX9_writeBeam.cls ≠ "java/lang/invoke/VarHandle" ∧ (parseMethodDescriptor yX9_writeBeam.desc).map (fun d => d.parameters.length) = some 0 := by decide +kernel
set_option maxHeartbeats 4000000 in
set_option maxRecDepth 100000 in
theorem m9_writeBeam (l : Launch) (G : WG)   (hv_this : vM 9 0) (Q : Int → St → Prop) (st : St)  (h : f9_writeBeam Q st) : Met l yX9_writeBeam wsX9_writeBeam ({ frames := 2, cells := 0, slots := 0, locals := 43 }) (PcM vM G st [.ref (G.2.2.1 9 0)]) (QiM vM G Q) 0 0 G.2.2.2.1 := by
  refine Met.ofW (cc := cX9_writeBeam) (maxL := 2) (ret := (some .int)) (by decide) rfl ?_
  intro p e s m args below meth c s₁ B hml hvv
  obtain ⟨rfl, hA, hI, hK, hX⟩ := hvv
  have hx := B.exec
  have hb := B.bytes
  have hr := B.returns
  have hts := atoms_spec (ws := wsX9_writeBeam) B.pre
  have hown : s.vm.findClass RX9 = some m.cls := findClass_of_methodNamed B.named
  have hlocks := B.notSynchronized
  have hS : va_S G.2.2.2.1 s.heap s.heap [] := va_S.rf
  have in9 : ∀ w ∈ wsX90, w ∈ wsX9_writeBeam := by decide +kernel
  have lk_43 := hts (.fieldLink RX9 43 "BeamLinesModel" "written" "[I") (by decide +kernel)
  have lk_46 := hts (.fieldLink RX9 46 "BeamLinesModel" "thrown" "I") (by decide +kernel)
  have lk_328 := hts (.fieldLink RX9 328 "BeamLinesModel" "writtenMany" "I") (by decide +kernel)
  have hl := lv_entry ([.ref (G.2.2.1 9 0)]) (n := 2) (Nat.le_of_ble_eq_true rfl)
  rw [lg_entry_eq]
  generalize (lg_sl ([.ref (G.2.2.1 9 0)]) ++ List.replicate (2 - (lg_sl ([.ref (G.2.2.1 9 0)])).length) Slot.unset).toArray = ls at hl ⊢
  have hl : lv_has ls 2 [(0, .ref (G.2.2.1 9 0))] := hl
  have L7 : ∀ (n7 : Nat), ∀ (st : St) (v1x7 : Int) (H : Heap) (locs : List Loc) (ls : Array Slot), Iv vM G st H → va_S G.2.2.2.1 s.heap H locs → lv_has ls 2 [(0, .ref (G.2.2.1 9 0)), (1, .int (iI v1x7))] → f9_writeBeam_l7 Q n7 st v1x7 → W p l e (headSpec wsX9_writeBeam ({ frames := 2, cells := 0, slots := 0, locals := 43 })).room s m ([.ref (G.2.2.1 9 0)] : List Value).toArray below meth c H locs 0 0 (MQ below (QiM vM G Q) ([.ref (G.2.2.1 9 0)] : List Value).toArray s 0 0 G.2.2.2.1) (F0 m 7 ls []) := by
    intro n7
    induction n7 with
    | zero =>
      intro st v1x7 H locs ls hI hS hl h
      exact h.elim
    | succ n7 ih7 =>
      have J63 : ∀ (st : St) (v1x63 : Int) (s0x63 : Int) (s1x63 : Int) (H : Heap) (locs : List Loc) (ls : Array Slot), Iv vM G st H → va_S G.2.2.2.1 s.heap H locs → lv_has ls 2 [(0, .ref (G.2.2.1 9 0)), (1, .int (iI v1x63))] → f9_writeBeam_j63 (fun st v1x7 => f9_writeBeam_l7 Q n7 st v1x7) Q st v1x63 s0x63 s1x63 → W p l e (headSpec wsX9_writeBeam ({ frames := 2, cells := 0, slots := 0, locals := 43 })).room s m ([.ref (G.2.2.1 9 0)] : List Value).toArray below meth c H locs 0 0 (MQ below (QiM vM G Q) ([.ref (G.2.2.1 9 0)] : List Value).toArray s 0 0 G.2.2.2.1) (F0 m 63 ls [.int (iI s0x63), .int (iI s1x63), .ref (G.2.2.1 30 6)]) := by
        intro st v1x63 s0x63 s1x63 H locs ls hI hS hl h
        unfold f9_writeBeam_j63 at h
        obtain ⟨g22, g23, h⟩ := h
        refine r_iast hx hb hK hI hS (K := 30) (vrM_9_20 hv_this) (fun _ => rfl) (mlen_le _) dX9_writeBeam_63 g22 g23 (fun st24 hst24 H locs hI hS => ?_)
        replace h := h st24 hst24
        obtain ⟨x25, hx25⟩ : ∃ z : Int, z = v1x63 + 1 := ⟨_, rfl⟩
        replace h := h x25 hx25
        refine lv_iinc (v := iI x25) (lv' := [(1, .int (iI x25)), (0, .ref (G.2.2.1 9 0))]) hx hb dX9_writeBeam_64 hl (k := 1) rfl (by rw [hx25]; exact iI_add _ _) (by decide) rfl (fun ls hl => ?_)
        refine lv_goto (tgt := 7) hx hb dX9_writeBeam_67 (by decide) ?_
        exact ih7 st24 x25 _ _ ls hI hS (lv_sub hl [1, 0] rfl) h
      intro st v1x7 H locs ls hI hS hl h
      unfold f9_writeBeam_l7 at h
      refine lv_iload_n hx hb dX9_writeBeam_7 rfl (lv_at hl 1 rfl) ?_
      refine lv_aload_n hx hb dX9_writeBeam_8 rfl (lv_at hl 0 rfl) ?_
      refine r_calli (va_runV (As := []) (rest := [.int (iI v1x7)]) ⟨hx, hb, hml, hown, hts⟩ (m9_places l G hv_this _ st h) (cwV 0 hts gX9_writeBeam_X9_places rfl rfl rfl hd9_places ⟨Nat.le_of_ble_eq_true rfl, Nat.le_of_ble_eq_true rfl⟩) (pre_V hK hX hI hA hS hv_this rfl rfl []) rfl rfl hl.1 rfl (lv_room (Nat.le_of_ble_eq_true rfl)) dX9_writeBeam_9 ⟨Nat.le_of_ble_eq_true rfl, Nat.le_of_ble_eq_true rfl⟩) hS (fun z2 st3 h H locs hI hS => ?_)
      obtain ⟨g4, h⟩ := h
      obtain ⟨g5, h⟩ := h
      refine r_icmp_ge (tgt := 70) hx hb dX9_writeBeam_12 (by decide) g4 g5 (fun c6 => ?_) (fun c6 => ?_)
      · replace h := h.1 c6
        refine lv_aload_n hx hb dX9_writeBeam_70 rfl (lv_at hl 0 rfl) ?_
        refine lv_aload_n hx hb dX9_writeBeam_71 rfl (lv_at hl 0 rfl) ?_
        refine r_calli (va_runV (As := []) (rest := [.ref (G.2.2.1 9 0)]) ⟨hx, hb, hml, hown, hts⟩ (m9_places l G hv_this _ st3 h) (cwV 0 hts gX9_writeBeam_X9_places rfl rfl rfl hd9_places ⟨Nat.le_of_ble_eq_true rfl, Nat.le_of_ble_eq_true rfl⟩) (pre_V hK hX hI hA hS hv_this rfl rfl []) rfl rfl hl.1 rfl (lv_room (Nat.le_of_ble_eq_true rfl)) dX9_writeBeam_72 ⟨Nat.le_of_ble_eq_true rfl, Nat.le_of_ble_eq_true rfl⟩) hS (fun z7 st8 h H locs hI hS => ?_)
        refine pp_9_21 hx hb hts in9 hown hK hI hS hv_this lk_328 dX9_writeBeam_75 (fun st9 hst9 H locs hI hS => ?_)
        replace h := h st9 hst9
        refine lv_aload_n hx hb dX9_writeBeam_78 rfl (lv_at hl 0 rfl) ?_
        refine gg_9_21 hx hb hts in9 hown hK hI hv_this lk_328 dX9_writeBeam_79 ?_
        exact r_iret hx hb hr hlocks hK hI hS (Qp := Q) h dX9_writeBeam_82
      · replace h := h.2 c6
        refine lv_aload_n hx hb dX9_writeBeam_15 rfl (lv_at hl 0 rfl) ?_
        refine gg_9_20 hx hb hts in9 hown hK hI hv_this lk_43 dX9_writeBeam_16 ?_
        refine lv_iload_n hx hb dX9_writeBeam_19 rfl (lv_at hl 1 rfl) ?_
        refine lv_aload_n hx hb dX9_writeBeam_20 rfl (lv_at hl 0 rfl) ?_
        refine lv_iload_n hx hb dX9_writeBeam_21 rfl (lv_at hl 1 rfl) ?_
        refine r_calli (va_runV (As := [.int (iI v1x7)]) (rest := [.int (iI v1x7), .ref (G.2.2.1 30 6)]) ⟨hx, hb, hml, hown, hts⟩ (m9_supportAt l G hv_this _ st3 v1x7 h) (cwV 1 hts gX9_writeBeam_X9_supportAt rfl rfl rfl hd9_supportAt ⟨Nat.le_of_ble_eq_true rfl, Nat.le_of_ble_eq_true rfl⟩) (pre_V hK hX hI hA hS hv_this rfl rfl [.int (iI v1x7)]) rfl rfl hl.1 rfl (lv_room (Nat.le_of_ble_eq_true rfl)) dX9_writeBeam_22 ⟨Nat.le_of_ble_eq_true rfl, Nat.le_of_ble_eq_true rfl⟩) hS (fun z10 st11 h H locs hI hS => ?_)
        refine r_iconst (n := (-1)) hx hb dX9_writeBeam_25 ?_
        obtain ⟨g12, h⟩ := h
        refine r_icmp_eq (tgt := 34) hx hb dX9_writeBeam_26 (by decide) g12 (inI_mk rfl) (fun c13 => ?_) (fun c13 => ?_)
        · replace h := h.1 c13
          refine lv_aload_n hx hb dX9_writeBeam_34 rfl (lv_at hl 0 rfl) ?_
          refine lv_iload_n hx hb dX9_writeBeam_35 rfl (lv_at hl 1 rfl) ?_
          refine r_calli (va_runV (As := [.int (iI v1x7)]) (rest := [.int (iI v1x7), .ref (G.2.2.1 30 6)]) ⟨hx, hb, hml, hown, hts⟩ (m9_hingeAt l G hv_this _ st11 v1x7 h) (cwV 1 hts gX9_writeBeam_X9_hingeAt rfl rfl rfl hd9_hingeAt ⟨Nat.le_of_ble_eq_true rfl, Nat.le_of_ble_eq_true rfl⟩) (pre_V hK hX hI hA hS hv_this rfl rfl [.int (iI v1x7)]) rfl rfl hl.1 rfl (lv_room (Nat.le_of_ble_eq_true rfl)) dX9_writeBeam_36 ⟨Nat.le_of_ble_eq_true rfl, Nat.le_of_ble_eq_true rfl⟩) hS (fun z14 st15 h H locs hI hS => ?_)
          refine r_iconst (n := (-1)) hx hb dX9_writeBeam_39 ?_
          obtain ⟨g16, h⟩ := h
          refine r_icmp_eq (tgt := 48) hx hb dX9_writeBeam_40 (by decide) g16 (inI_mk rfl) (fun c17 => ?_) (fun c17 => ?_)
          · replace h := h.1 c17
            refine lv_aload_n hx hb dX9_writeBeam_48 rfl (lv_at hl 0 rfl) ?_
            refine lv_iload_n hx hb dX9_writeBeam_49 rfl (lv_at hl 1 rfl) ?_
            refine r_calli (va_runV (As := [.int (iI v1x7)]) (rest := [.int (iI v1x7), .ref (G.2.2.1 30 6)]) ⟨hx, hb, hml, hown, hts⟩ (m9_hasLoad l G hv_this _ st15 v1x7 h) (cwV 1 hts gX9_writeBeam_X9_hasLoad rfl rfl rfl hd9_hasLoad ⟨Nat.le_of_ble_eq_true rfl, Nat.le_of_ble_eq_true rfl⟩) (pre_V hK hX hI hA hS hv_this rfl rfl [.int (iI v1x7)]) rfl rfl hl.1 rfl (lv_room (Nat.le_of_ble_eq_true rfl)) dX9_writeBeam_50 ⟨Nat.le_of_ble_eq_true rfl, Nat.le_of_ble_eq_true rfl⟩) hS (fun z18 st19 h H locs hI hS => ?_)
            obtain ⟨g20, h⟩ := h
            refine r_if_eq (tgt := 61) hx hb dX9_writeBeam_53 (by decide) g20 (fun c21 => ?_) (fun c21 => ?_)
            · replace h := h.1 c21
              refine r_bipush (n := 45) hx hb dX9_writeBeam_61 rfl ?_
              exact J63 st19 v1x7 45 v1x7 _ _ ls hI hS (lv_sub hl [0, 1] rfl) h
            · replace h := h.2 c21
              refine r_bipush (n := 118) hx hb dX9_writeBeam_56 rfl ?_
              refine lv_goto (tgt := 63) hx hb dX9_writeBeam_58 (by decide) ?_
              exact J63 st19 v1x7 118 v1x7 _ _ ls hI hS (lv_sub hl [0, 1] rfl) h
          · replace h := h.2 c17
            refine r_bipush (n := 111) hx hb dX9_writeBeam_43 rfl ?_
            refine lv_goto (tgt := 63) hx hb dX9_writeBeam_45 (by decide) ?_
            exact J63 st15 v1x7 111 v1x7 _ _ ls hI hS (lv_sub hl [0, 1] rfl) h
        · replace h := h.2 c13
          refine r_bipush (n := 94) hx hb dX9_writeBeam_29 rfl ?_
          refine lv_goto (tgt := 63) hx hb dX9_writeBeam_31 (by decide) ?_
          exact J63 st11 v1x7 94 v1x7 _ _ ls hI hS (lv_sub hl [0, 1] rfl) h
  unfold f9_writeBeam at h
  refine lv_aload_n hx hb dX9_writeBeam_0 rfl (lv_at hl 0 rfl) ?_
  refine r_iconst (n := 0) hx hb dX9_writeBeam_1 ?_
  refine pp_9_6 hx hb hts in9 hown hK hI hS hv_this lk_46 dX9_writeBeam_2 (fun st1 hst1 H locs hI hS => ?_)
  replace h := h st1 hst1
  refine r_iconst (n := 0) hx hb dX9_writeBeam_5 ?_
  refine lv_istore_n (lv' := [(1, .int (iI 0)), (0, .ref (G.2.2.1 9 0))]) hx hb dX9_writeBeam_6 rfl hl (by decide) rfl (fun ls hl => ?_)
  obtain ⟨kk, h⟩ := h
  exact L7 kk st1 0 _ _ ls hI hS (lv_sub hl [1, 0] rfl) h
theorem hd9_writtenByte : yX9_writtenByte.cls = RX9 ∧ yX9_writtenByte.cls ≠ "java/lang/invoke/MethodHandle" ∧ yX9_writtenByte.cls ≠ "java/lang/invoke/VarHandle" ∧ (parseMethodDescriptor yX9_writtenByte.desc).map (fun d => d.parameters.length) = some 1 := by decide +kernel
set_option maxHeartbeats 4000000 in
set_option maxRecDepth 100000 in
theorem m9_writtenByte (l : Launch) (G : WG)   (hv_this : vM 9 0) (Q : Int → St → Prop) (st : St) (a0 : Int) (h : f9_writtenByte Q st a0) : Met l yX9_writtenByte wsX9_writtenByte ({ frames := 1, cells := 0, slots := 0, locals := 22 }) (PcM vM G st [.ref (G.2.2.1 9 0), .int (iI a0)]) (QiM vM G Q) 0 0 G.2.2.2.1 := by
  refine Met.ofW (cc := cX9_writtenByte) (maxL := 2) (ret := (some .int)) (by decide) rfl ?_
  intro p e s m args below meth c s₁ B hml hvv
  obtain ⟨rfl, hA, hI, hK, hX⟩ := hvv
  have hx := B.exec
  have hb := B.bytes
  have hr := B.returns
  have hts := atoms_spec (ws := wsX9_writtenByte) B.pre
  have hown : s.vm.findClass RX9 = some m.cls := findClass_of_methodNamed B.named
  have hlocks := B.notSynchronized
  have hS : va_S G.2.2.2.1 s.heap s.heap [] := va_S.rf
  have in9 : ∀ w ∈ wsX90, w ∈ wsX9_writtenByte := by decide +kernel
  have lk_43 := hts (.fieldLink RX9 43 "BeamLinesModel" "written" "[I") (by decide +kernel)
  have lk_46 := hts (.fieldLink RX9 46 "BeamLinesModel" "thrown" "I") (by decide +kernel)
  have lk_328 := hts (.fieldLink RX9 328 "BeamLinesModel" "writtenMany" "I") (by decide +kernel)
  have hl := lv_entry ([.ref (G.2.2.1 9 0), .int (iI a0)]) (n := 2) (Nat.le_of_ble_eq_true rfl)
  rw [lg_entry_eq]
  generalize (lg_sl ([.ref (G.2.2.1 9 0), .int (iI a0)]) ++ List.replicate (2 - (lg_sl ([.ref (G.2.2.1 9 0), .int (iI a0)])).length) Slot.unset).toArray = ls at hl ⊢
  have hl : lv_has ls 2 [(0, .ref (G.2.2.1 9 0)), (1, .int (iI a0))] := hl
  have J20 : ∀ (st : St) (s0x20 : Int) (H : Heap) (locs : List Loc) (ls : Array Slot), Iv vM G st H → va_S G.2.2.2.1 s.heap H locs → lv_has ls 2 [(0, .ref (G.2.2.1 9 0)), (1, .int (iI a0))] → f9_writtenByte_j20 Q a0 st s0x20 → W p l e (headSpec wsX9_writtenByte ({ frames := 1, cells := 0, slots := 0, locals := 22 })).room s m ([.ref (G.2.2.1 9 0), .int (iI a0)] : List Value).toArray below meth c H locs 0 0 (MQ below (QiM vM G Q) ([.ref (G.2.2.1 9 0), .int (iI a0)] : List Value).toArray s 0 0 G.2.2.2.1) (F0 m 20 ls [.int (iI s0x20), .ref (G.2.2.1 9 0)]) := by
    intro st s0x20 H locs ls hI hS hl h
    unfold f9_writtenByte_j20 at h
    refine pp_9_6 hx hb hts in9 hown hK hI hS hv_this lk_46 dX9_writtenByte_20 (fun st5 hst5 H locs hI hS => ?_)
    replace h := h st5 hst5
    refine lv_aload_n hx hb dX9_writtenByte_23 rfl (lv_at hl 0 rfl) ?_
    refine gg_9_6 hx hb hts in9 hown hK hI hv_this lk_46 dX9_writtenByte_24 ?_
    obtain ⟨g6, h⟩ := h
    refine r_if_le (tgt := 34) hx hb dX9_writtenByte_27 (by decide) g6 (fun c7 => ?_) (fun c7 => ?_)
    · replace h := h.1 c7
      refine lv_aload_n hx hb dX9_writtenByte_34 rfl (lv_at hl 0 rfl) ?_
      refine gg_9_20 hx hb hts in9 hown hK hI hv_this lk_43 dX9_writtenByte_35 ?_
      refine lv_iload_n hx hb dX9_writtenByte_38 rfl (lv_at hl 1 rfl) ?_
      obtain ⟨g8, g9, h⟩ := h
      refine r_iald hx hb hK hI (K := 30) (vrM_9_20 hv_this) rfl (mlen_le _) dX9_writtenByte_39 g8 g9 ?_
      exact r_iret hx hb hr hlocks hK hI hS (Qp := Q) h dX9_writtenByte_40
    · replace h := h.2 c7
      refine r_iconst (n := 0) hx hb dX9_writtenByte_30 ?_
      refine lv_goto (tgt := 40) hx hb dX9_writtenByte_31 (by decide) ?_
      exact r_iret hx hb hr hlocks hK hI hS (Qp := Q) h dX9_writtenByte_40
  unfold f9_writtenByte at h
  refine lv_aload_n hx hb dX9_writtenByte_0 rfl (lv_at hl 0 rfl) ?_
  refine lv_iload_n hx hb dX9_writtenByte_1 rfl (lv_at hl 1 rfl) ?_
  refine r_iconst (n := 0) hx hb dX9_writtenByte_2 ?_
  refine lv_aload_n hx hb dX9_writtenByte_3 rfl (lv_at hl 0 rfl) ?_
  refine gg_9_21 hx hb hts in9 hown hK hI hv_this lk_328 dX9_writtenByte_4 ?_
  refine r_iconst (n := 1) hx hb dX9_writtenByte_7 ?_
  refine r_isub hx hb dX9_writtenByte_8 ?_
  refine r_calli (va_runS (As := [.int (iI a0), .int (iI 0), .int (iI ((st 9 21 0 0) - 1))]) (rest := [.ref (G.2.2.1 9 0)]) ⟨hx, hb, hml, hown, hts⟩ (m9_isIn l G _ st a0 0 ((st 9 21 0 0) - 1) h) (va_cwS 3 hts gX9_writtenByte_X9_isIn rfl rfl rfl hd9_isIn ⟨Nat.le_of_ble_eq_true rfl, Nat.le_of_ble_eq_true rfl⟩) (pre_S hK hX hI hA hS [.int (iI a0), .int (iI 0), .int (iI ((st 9 21 0 0) - 1))]) rfl rfl hl.1 rfl (lv_room (Nat.le_of_ble_eq_true rfl)) dX9_writtenByte_9 ⟨Nat.le_of_ble_eq_true rfl, Nat.le_of_ble_eq_true rfl⟩) hS (fun z1 st2 h H locs hI hS => ?_)
  obtain ⟨g3, h⟩ := h
  refine r_if_eq (tgt := 19) hx hb dX9_writtenByte_12 (by decide) g3 (fun c4 => ?_) (fun c4 => ?_)
  · replace h := h.1 c4
    refine r_iconst (n := 1) hx hb dX9_writtenByte_19 ?_
    exact J20 st2 1 _ _ ls hI hS (lv_sub hl [0, 1] rfl) h
  · replace h := h.2 c4
    refine r_iconst (n := 0) hx hb dX9_writtenByte_15 ?_
    refine lv_goto (tgt := 20) hx hb dX9_writtenByte_16 (by decide) ?_
    exact J20 st2 0 _ _ ls hI hS (lv_sub hl [0, 1] rfl) h
