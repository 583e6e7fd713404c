theorem hd8_load : yX8_load.cls = RX8 ∧ yX8_load.cls ≠ "java/lang/invoke/MethodHandle" ∧ yX8_load.cls ≠ "java/lang/invoke/VarHandle" ∧ (parseMethodDescriptor yX8_load.desc).map (fun d => d.parameters.length) = some 0 := by decide +kernel
set_option maxHeartbeats 4000000 in
set_option maxRecDepth 100000 in
theorem m8_load (l : Launch) (G : WG)   (hv_this : vC 8 0) (Q : Int → St → Prop) (st : St)  (h : f8_load Q st) : Met l yX8_load wsX8_load ({ frames := 9, cells := 0, slots := 0, locals := 200 }) (PcM vC G st [.ref (G.2.2.1 8 0)]) (QiM vC G Q) 0 0 G.2.2.2.1 := by
  refine Met.ofW (cc := cX8_load) (maxL := 3) (ret := (some .int)) (by decide) rfl ?_
  intro p e s m args below meth c s₁ B hml hvv
  obtain ⟨rfl, hA, hI, hK, hX⟩ := hvv
  have hx := B.exec
  have hb := B.bytes
  have hr := B.returns
  have hts := atoms_spec (ws := wsX8_load) B.pre
  have hown : s.vm.findClass RX8 = some m.cls := findClass_of_methodNamed B.named
  have hlocks := B.notSynchronized
  have hS : va_S G.2.2.2.1 s.heap s.heap [] := va_S.rf
  have in0 : ∀ w ∈ wsX00, w ∈ wsX8_load := by decide +kernel
  have in5 : ∀ w ∈ wsX50, w ∈ wsX8_load := by decide +kernel
  have in6 : ∀ w ∈ wsX60, w ∈ wsX8_load := by decide +kernel
  have in7 : ∀ w ∈ wsX70, w ∈ wsX8_load := by decide +kernel
  have in8 : ∀ w ∈ wsX80, w ∈ wsX8_load := by decide +kernel
  have lk_12 := hts (.fieldLink RX8 12 "BeamLines" "reader" "LBeamLines$Reader;") (by decide +kernel)
  have lk_16 := hts (.fieldLink RX8 16 "BeamLines" "errorAt" "I") (by decide +kernel)
  have lk_23 := hts (.fieldLink RX8 23 "BeamLines" "present" "LBeamLines$Beam;") (by decide +kernel)
  have lk_34 := hts (.fieldLink RX8 34 "BeamLines" "trial" "LBeamLines$Beam;") (by decide +kernel)
  have lk_37 := hts (.fieldLink RX8 37 "BeamLines" "trialLines" "LBeamLines$Lines;") (by decide +kernel)
  have lk_85 := hts (.fieldLink RX8 85 "BeamLines$Beam" "supports" "LBeamLines$Row;") (by decide +kernel)
  have lk_103 := hts (.fieldLink RX8 103 "BeamLines$Reader" "text" "LBeamLines$Text;") (by decide +kernel)
  have lk_107 := hts (.fieldLink RX8 107 "BeamLines$Text" "length" "I") (by decide +kernel)
  have lk_121 := hts (.fieldLink RX8 121 "BeamLines$Reader" "errorAt" "I") (by decide +kernel)
  have lk_122 := hts (.fieldLink RX8 122 "BeamLines$Reader" "code" "I") (by decide +kernel)
  have lk_125 := hts (.fieldLink RX8 125 "BeamLines$Reader" "beam" "LBeamLines$Beam;") (by decide +kernel)
  have lk_135 := hts (.fieldLink RX8 135 "BeamLines$Row" "size" "I") (by decide +kernel)
  have hl := lv_entry ([.ref (G.2.2.1 8 0)]) (n := 3) (Nat.le_of_ble_eq_true rfl)
  rw [lg_entry_eq]
  generalize (lg_sl ([.ref (G.2.2.1 8 0)]) ++ List.replicate (3 - (lg_sl ([.ref (G.2.2.1 8 0)])).length) Slot.unset).toArray = ls at hl ⊢
  have hl : lv_has ls 3 [(0, .ref (G.2.2.1 8 0))] := hl
  unfold f8_load at h
  refine lv_aload_n hx hb dX8_load_0 rfl (lv_at hl 0 rfl) ?_
  refine gg_8_0 hx hb hts in8 hown hK hI hv_this lk_12 dX8_load_1 ?_
  refine gg_5_0 hx hb hts in5 hown hK hI (vrC_8_0 hv_this) lk_103 dX8_load_4 ?_
  refine gg_7_1 hx hb hts in7 hown hK hI (vrC_5_0 (vrC_8_0 hv_this)) lk_107 dX8_load_7 ?_
  refine r_topi (fun x1 hx1 => ?_)
  replace h := h x1 hx1
  refine lv_istore_n (lv' := [(1, .int (iI x1)), (0, .ref (G.2.2.1 8 0))]) hx hb dX8_load_10 rfl hl (by decide) rfl (fun ls hl => ?_)
  refine lv_aload_n hx hb dX8_load_11 rfl (lv_at hl 1 rfl) ?_
  refine gg_8_0 hx hb hts in8 hown hK hI hv_this lk_12 dX8_load_12 ?_
  refine r_calli (va_runV (As := []) (rest := []) ⟨hx, hb, hml, hown, hts⟩ (m5_readText l G (vrC_8_0 hv_this) _ st h) (cwV 0 hts gX8_load_X5_readText rfl rfl rfl hd5_readText ⟨Nat.le_of_ble_eq_true rfl, Nat.le_of_ble_eq_true rfl⟩) (pre_V hK hX hI hA hS (vrC_8_0 hv_this) rfl rfl []) rfl rfl hl.1 rfl (lv_room (Nat.le_of_ble_eq_true rfl)) dX8_load_15 ⟨Nat.le_of_ble_eq_true rfl, Nat.le_of_ble_eq_true rfl⟩) hS (fun z2 st3 h H locs hI hS => ?_)
  refine lv_istore_n (lv' := [(2, .int (iI z2)), (1, .int (iI x1)), (0, .ref (G.2.2.1 8 0))]) hx hb dX8_load_18 rfl hl (by decide) rfl (fun ls hl => ?_)
  refine lv_aload_n hx hb dX8_load_19 rfl (lv_at hl 2 rfl) ?_
  refine gg_8_0 hx hb hts in8 hown hK hI hv_this lk_12 dX8_load_20 ?_
  refine gg_5_0 hx hb hts in5 hown hK hI (vrC_8_0 hv_this) lk_103 dX8_load_23 ?_
  refine r_iconst (n := 0) hx hb dX8_load_26 ?_
  refine pp_7_1 hx hb hts in7 hown hK hI hS (vrC_5_0 (vrC_8_0 hv_this)) lk_107 dX8_load_27 (fun st4 hst4 H locs hI hS => ?_)
  replace h := h st4 hst4
  refine lv_iload_n hx hb dX8_load_30 rfl (lv_at hl 0 rfl) ?_
  obtain ⟨g5, h⟩ := h
  refine r_if_ne (tgt := 53) hx hb dX8_load_31 (by decide) g5 (fun c6 => ?_) (fun c6 => ?_)
  · replace h := h.2 c6
    refine lv_aload_n hx hb dX8_load_53 rfl (lv_at hl 2 rfl) ?_
    refine gg_8_4 hx hb hts in8 hown hK hI hv_this lk_34 dX8_load_54 ?_
    refine lv_aload_n hx hb dX8_load_57 rfl (lv_at hl 2 rfl) ?_
    refine gg_8_0 hx hb hts in8 hown hK hI hv_this lk_12 dX8_load_58 ?_
    refine gg_5_1 hx hb hts in5 hown hK hI (vrC_8_0 hv_this) lk_125 dX8_load_61 ?_
    refine r_callv (va_runV (As := [.ref (G.2.2.1 0 2)]) (rest := []) ⟨hx, hb, hml, hown, hts⟩ (m0_copyFrom l G 1 2 (vrC_8_4 hv_this) (vrC_5_1 (vrC_8_0 hv_this)) _ st4 h) (cwV 1 hts gX8_load_X0_copyFrom rfl rfl rfl hd0_copyFrom ⟨Nat.le_of_ble_eq_true rfl, Nat.le_of_ble_eq_true rfl⟩) (pre_V hK hX hI hA hS (vrC_8_4 hv_this) rfl rfl [.ref (G.2.2.1 0 2)]) rfl rfl hl.1 rfl (lv_room (Nat.le_of_ble_eq_true rfl)) dX8_load_64 ⟨Nat.le_of_ble_eq_true rfl, Nat.le_of_ble_eq_true rfl⟩) hS (fun st8 h H locs hI hS => ?_)
    refine lv_aload_n hx hb dX8_load_67 rfl (lv_at hl 2 rfl) ?_
    refine gg_8_5 hx hb hts in8 hown hK hI hv_this lk_37 dX8_load_68 ?_
    refine lv_aload_n hx hb dX8_load_71 rfl (lv_at hl 2 rfl) ?_
    refine gg_8_4 hx hb hts in8 hown hK hI hv_this lk_34 dX8_load_72 ?_
    refine r_calli (va_runV (As := [.ref (G.2.2.1 0 1)]) (rest := []) ⟨hx, hb, hml, hown, hts⟩ (m3_reckon l G 1 1 (vrC_8_5 hv_this) (vrC_8_4 hv_this) _ st8 h) (cwV 1 hts gX8_load_X3_reckon rfl rfl rfl hd3_reckon ⟨Nat.le_of_ble_eq_true rfl, Nat.le_of_ble_eq_true rfl⟩) (pre_V hK hX hI hA hS (vrC_8_5 hv_this) rfl rfl [.ref (G.2.2.1 0 1)]) rfl rfl hl.1 rfl (lv_room (Nat.le_of_ble_eq_true rfl)) dX8_load_75 ⟨Nat.le_of_ble_eq_true rfl, Nat.le_of_ble_eq_true rfl⟩) hS (fun z9 st10 h H locs hI hS => ?_)
    obtain ⟨g11, h⟩ := h
    refine r_if_ne (tgt := 89) hx hb dX8_load_78 (by decide) g11 (fun c12 => ?_) (fun c12 => ?_)
    · replace h := h.2 c12
      refine lv_aload_n hx hb dX8_load_89 rfl (lv_at hl 2 rfl) ?_
      refine r_iconst (n := (-1)) hx hb dX8_load_90 ?_
      refine pp_8_1 hx hb hts in8 hown hK hI hS hv_this lk_16 dX8_load_91 (fun st13 hst13 H locs hI hS => ?_)
      replace h := h st13 hst13
      refine lv_aload_n hx hb dX8_load_94 rfl (lv_at hl 2 rfl) ?_
      refine r_callv (va_runV (As := []) (rest := []) ⟨hx, hb, hml, hown, hts⟩ (m8_takeTrial l G hv_this _ st13 h) (cwV 0 hts gX8_load_X8_takeTrial rfl rfl rfl hd8_takeTrial ⟨Nat.le_of_ble_eq_true rfl, Nat.le_of_ble_eq_true rfl⟩) (pre_V hK hX hI hA hS hv_this rfl rfl []) rfl rfl hl.1 rfl (lv_room (Nat.le_of_ble_eq_true rfl)) dX8_load_95 ⟨Nat.le_of_ble_eq_true rfl, Nat.le_of_ble_eq_true rfl⟩) hS (fun st15 h H locs hI hS => ?_)
      refine lv_aload_n hx hb dX8_load_98 rfl (lv_at hl 2 rfl) ?_
      refine gg_8_2 hx hb hts in8 hown hK hI hv_this lk_23 dX8_load_99 ?_
      refine gg_0_2 hx hb hts in0 hown hK hI (vrC_8_2 hv_this) lk_85 dX8_load_102 ?_
      refine gg_6_2 hx hb hts in6 hown hK hI (vrC_0_2 (vrC_8_2 hv_this)) lk_135 dX8_load_105 ?_
      exact r_iret hx hb hr hlocks hK hI hS (Qp := Q) h dX8_load_108
    · replace h := h.1 c12
      refine lv_aload_n hx hb dX8_load_81 rfl (lv_at hl 2 rfl) ?_
      refine lv_iload_n hx hb dX8_load_82 rfl (lv_at hl 1 rfl) ?_
      refine pp_8_1 hx hb hts in8 hown hK hI hS hv_this lk_16 dX8_load_83 (fun st16 hst16 H locs hI hS => ?_)
      replace h := h st16 hst16
      refine r_bipush (n := (-7)) hx hb dX8_load_86 rfl ?_
      exact r_iret hx hb hr hlocks hK hI hS (Qp := Q) h dX8_load_88
  · replace h := h.1 c6
    refine lv_aload_n hx hb dX8_load_34 rfl (lv_at hl 2 rfl) ?_
    refine lv_aload_n hx hb dX8_load_35 rfl (lv_at hl 2 rfl) ?_
    refine gg_8_0 hx hb hts in8 hown hK hI hv_this lk_12 dX8_load_36 ?_
    refine gg_5_4 hx hb hts in5 hown hK hI (vrC_8_0 hv_this) lk_121 dX8_load_39 ?_
    refine pp_8_1 hx hb hts in8 hown hK hI hS hv_this lk_16 dX8_load_42 (fun st17 hst17 H locs hI hS => ?_)
    replace h := h st17 hst17
    refine lv_aload_n hx hb dX8_load_45 rfl (lv_at hl 2 rfl) ?_
    refine gg_8_0 hx hb hts in8 hown hK hI hv_this lk_12 dX8_load_46 ?_
    refine gg_5_3 hx hb hts in5 hown hK hI (vrC_8_0 hv_this) lk_122 dX8_load_49 ?_
    exact r_iret hx hb hr hlocks hK hI hS (Qp := Q) h dX8_load_52
theorem hd8_errorPosition : yX8_errorPosition.cls = RX8 ∧ yX8_errorPosition.cls ≠ "java/lang/invoke/MethodHandle" ∧ yX8_errorPosition.cls ≠ "java/lang/invoke/VarHandle" ∧ (parseMethodDescriptor yX8_errorPosition.desc).map (fun d => d.parameters.length) = some 0 := by decide +kernel
set_option maxHeartbeats 4000000 in
set_option maxRecDepth 100000 in
theorem m8_errorPosition (l : Launch) (G : WG)   (hv_this : vC 8 0) (Q : Int → St → Prop) (st : St)  (h : f8_errorPosition Q st) : Met l yX8_errorPosition wsX8_errorPosition ({ frames := 0, cells := 0, slots := 0, locals := 0 }) (PcM vC G st [.ref (G.2.2.1 8 0)]) (QiM vC G Q) 0 0 G.2.2.2.1 := by
  refine Met.ofW (cc := cX8_errorPosition) (maxL := 1) (ret := (some .int)) (by decide) rfl ?_
  intro p e s m args below meth c s₁ B hml hvv
  obtain ⟨rfl, hA, hI, hK, hX⟩ := hvv
  have hx := B.exec
  have hb := B.bytes
  have hr := B.returns
  have hts := atoms_spec (ws := wsX8_errorPosition) B.pre
  have hown : s.vm.findClass RX8 = some m.cls := findClass_of_methodNamed B.named
  have hlocks := B.notSynchronized
  have hS : va_S G.2.2.2.1 s.heap s.heap [] := va_S.rf
  have in8 : ∀ w ∈ wsX80, w ∈ wsX8_errorPosition := by decide +kernel
  have lk_16 := hts (.fieldLink RX8 16 "BeamLines" "errorAt" "I") (by decide +kernel)
  have hl := lv_entry ([.ref (G.2.2.1 8 0)]) (n := 1) (Nat.le_of_ble_eq_true rfl)
  rw [lg_entry_eq]
  generalize (lg_sl ([.ref (G.2.2.1 8 0)]) ++ List.replicate (1 - (lg_sl ([.ref (G.2.2.1 8 0)])).length) Slot.unset).toArray = ls at hl ⊢
  have hl : lv_has ls 1 [(0, .ref (G.2.2.1 8 0))] := hl
  unfold f8_errorPosition at h
  refine lv_aload_n hx hb dX8_errorPosition_0 rfl (lv_at hl 0 rfl) ?_
  refine gg_8_1 hx hb hts in8 hown hK hI hv_this lk_16 dX8_errorPosition_1 ?_
  exact r_iret hx hb hr hlocks hK hI hS (Qp := Q) h dX8_errorPosition_4
theorem hd8_count : yX8_count.cls = RX8 ∧ yX8_count.cls ≠ "java/lang/invoke/MethodHandle" ∧ yX8_count.cls ≠ "java/lang/invoke/VarHandle" ∧ (parseMethodDescriptor yX8_count.desc).map (fun d => d.parameters.length) = some 1 := by decide +kernel
set_option maxHeartbeats 4000000 in
set_option maxRecDepth 100000 in
theorem m8_count (l : Launch) (G : WG) (hfl : l.stackTraces = false)  (hv_this : vC 8 0) (Q : Int → St → Prop) (X : String → St → Prop) (st : St) (a0 : Int) (h : f8_count Q X st a0) : vx_Met l yX8_count wsX8_count ({ frames := 6, cells := 1, slots := 6, locals := 89 }) (PcM vC G st [.ref (G.2.2.1 8 0), .int (iI a0)]) (QiM vC G Q) (XM vC G X) 1 6 G.2.2.2.1 := by
  refine vx_ofW (cc := cX8_count) (maxL := 2) (ret := (some .int)) (by decide) rfl ?_
  intro p e s m args below meth c s₁ B hml hE hvv
  obtain ⟨rfl, hA, hI, hK, hX⟩ := hvv
  have hx := B.exec
  have hb := B.bytes
  have hr := B.returns
  have hts := atoms_spec (ws := wsX8_count) B.pre
  have hown : s.vm.findClass RX8 = some m.cls := findClass_of_methodNamed B.named
  have hlocks := B.notSynchronized
  have hS : va_S G.2.2.2.1 s.heap s.heap [] := va_S.rf
  have in0 : ∀ w ∈ wsX00, w ∈ wsX8_count := by decide +kernel
  have in6 : ∀ w ∈ wsX60, w ∈ wsX8_count := by decide +kernel
  have in8 : ∀ w ∈ wsX80, w ∈ wsX8_count := by decide +kernel
  have lk_23 := hts (.fieldLink RX8 23 "BeamLines" "present" "LBeamLines$Beam;") (by decide +kernel)
  have lk_79 := hts (.fieldLink RX8 79 "BeamLines$Beam" "length" "I") (by decide +kernel)
  have lk_82 := hts (.fieldLink RX8 82 "BeamLines$Beam" "most" "I") (by decide +kernel)
  have lk_85 := hts (.fieldLink RX8 85 "BeamLines$Beam" "supports" "LBeamLines$Row;") (by decide +kernel)
  have lk_135 := hts (.fieldLink RX8 135 "BeamLines$Row" "size" "I") (by decide +kernel)
  have lk_138 := hts (.fieldLink RX8 138 "BeamLines$Beam" "hinges" "LBeamLines$Row;") (by decide +kernel)
  have lk_141 := hts (.fieldLink RX8 141 "BeamLines$Beam" "loads" "LBeamLines$Row;") (by decide +kernel)
  have lk_144 := hts (.fieldLink RX8 144 "BeamLines$Beam" "axles" "LBeamLines$Row;") (by decide +kernel)
  have hl := lv_entry ([.ref (G.2.2.1 8 0), .int (iI a0)]) (n := 2) (Nat.le_of_ble_eq_true rfl)
  rw [lg_entry_eq]
  generalize (lg_sl ([.ref (G.2.2.1 8 0), .int (iI a0)]) ++ List.replicate (2 - (lg_sl ([.ref (G.2.2.1 8 0), .int (iI a0)])).length) Slot.unset).toArray = ls at hl ⊢
  have hl : lv_has ls 2 [(0, .ref (G.2.2.1 8 0)), (1, .int (iI a0))] := hl
  unfold f8_count at h
  refine lv_iload_n hx hb dX8_count_0 rfl (lv_at hl 1 rfl) ?_
  obtain ⟨g1, h⟩ := h
  by_cases e8 : a0 = 0
  · replace h := h.1 e8
    refine r_tin (tgt := 52) hx hb dX8_count_1 g1 e8 (by decide) rfl (by decide) ?_
    refine lv_aload_n hx hb dX8_count_52 rfl (lv_at hl 0 rfl) ?_
    refine gg_8_2 hx hb hts in8 hown hK hI hv_this lk_23 dX8_count_53 ?_
    refine gg_0_0 hx hb hts in0 hown hK hI (vrC_8_2 hv_this) lk_79 dX8_count_56 ?_
    refine W.widen (k := 1) (n := 6) (by decide) (by decide) ?_
    exact vx_ret (r_iret hx hb hr hlocks hK hI hS (Qp := Q) h dX8_count_59)
  by_cases e9 : a0 = 1
  · replace h := h.2.1 e9
    refine r_tin (tgt := 60) hx hb dX8_count_1 g1 e9 (by decide) rfl (by decide) ?_
    refine lv_aload_n hx hb dX8_count_60 rfl (lv_at hl 0 rfl) ?_
    refine gg_8_2 hx hb hts in8 hown hK hI hv_this lk_23 dX8_count_61 ?_
    refine gg_0_2 hx hb hts in0 hown hK hI (vrC_8_2 hv_this) lk_85 dX8_count_64 ?_
    refine gg_6_2 hx hb hts in6 hown hK hI (vrC_0_2 (vrC_8_2 hv_this)) lk_135 dX8_count_67 ?_
    refine W.widen (k := 1) (n := 6) (by decide) (by decide) ?_
    exact vx_ret (r_iret hx hb hr hlocks hK hI hS (Qp := Q) h dX8_count_70)
  by_cases e10 : a0 = 2
  · replace h := h.2.2.1 e10
    refine r_tin (tgt := 71) hx hb dX8_count_1 g1 e10 (by decide) rfl (by decide) ?_
    refine lv_aload_n hx hb dX8_count_71 rfl (lv_at hl 0 rfl) ?_
    refine gg_8_2 hx hb hts in8 hown hK hI hv_this lk_23 dX8_count_72 ?_
    refine gg_0_3 hx hb hts in0 hown hK hI (vrC_8_2 hv_this) lk_138 dX8_count_75 ?_
    refine gg_6_2 hx hb hts in6 hown hK hI (vrC_0_3 (vrC_8_2 hv_this)) lk_135 dX8_count_78 ?_
    refine W.widen (k := 1) (n := 6) (by decide) (by decide) ?_
    exact vx_ret (r_iret hx hb hr hlocks hK hI hS (Qp := Q) h dX8_count_81)
  by_cases e11 : a0 = 3
  · replace h := h.2.2.2.1 e11
    refine r_tin (tgt := 82) hx hb dX8_count_1 g1 e11 (by decide) rfl (by decide) ?_
    refine lv_aload_n hx hb dX8_count_82 rfl (lv_at hl 0 rfl) ?_
    refine gg_8_2 hx hb hts in8 hown hK hI hv_this lk_23 dX8_count_83 ?_
    refine gg_0_4 hx hb hts in0 hown hK hI (vrC_8_2 hv_this) lk_141 dX8_count_86 ?_
    refine gg_6_2 hx hb hts in6 hown hK hI (vrC_0_4 (vrC_8_2 hv_this)) lk_135 dX8_count_89 ?_
    refine W.widen (k := 1) (n := 6) (by decide) (by decide) ?_
    exact vx_ret (r_iret hx hb hr hlocks hK hI hS (Qp := Q) h dX8_count_92)
  by_cases e12 : a0 = 4
  · replace h := h.2.2.2.2.1 e12
    refine r_tin (tgt := 93) hx hb dX8_count_1 g1 e12 (by decide) rfl (by decide) ?_
    refine lv_aload_n hx hb dX8_count_93 rfl (lv_at hl 0 rfl) ?_
    refine gg_8_2 hx hb hts in8 hown hK hI hv_this lk_23 dX8_count_94 ?_
    refine gg_0_5 hx hb hts in0 hown hK hI (vrC_8_2 hv_this) lk_144 dX8_count_97 ?_
    refine gg_6_2 hx hb hts in6 hown hK hI (vrC_0_5 (vrC_8_2 hv_this)) lk_135 dX8_count_100 ?_
    refine W.widen (k := 1) (n := 6) (by decide) (by decide) ?_
    exact vx_ret (r_iret hx hb hr hlocks hK hI hS (Qp := Q) h dX8_count_103)
  by_cases e13 : a0 = 5
  · replace h := h.2.2.2.2.2.1 e13
    refine r_tin (tgt := 104) hx hb dX8_count_1 g1 e13 (by decide) rfl (by decide) ?_
    refine lv_aload_n hx hb dX8_count_104 rfl (lv_at hl 0 rfl) ?_
    refine gg_8_2 hx hb hts in8 hown hK hI hv_this lk_23 dX8_count_105 ?_
    refine gg_0_1 hx hb hts in0 hown hK hI (vrC_8_2 hv_this) lk_82 dX8_count_108 ?_
    refine W.widen (k := 1) (n := 6) (by decide) (by decide) ?_
    exact vx_ret (r_iret hx hb hr hlocks hK hI hS (Qp := Q) h dX8_count_111)
  by_cases e14 : a0 = 6
  · replace h := h.2.2.2.2.2.2.1 e14
    refine r_tin (tgt := 112) hx hb dX8_count_1 g1 e14 (by decide) rfl (by decide) ?_
    refine lv_aload_n hx hb dX8_count_112 rfl (lv_at hl 0 rfl) ?_
    refine gg_8_2 hx hb hts in8 hown hK hI hv_this lk_23 dX8_count_113 ?_
    refine gg_0_4 hx hb hts in0 hown hK hI (vrC_8_2 hv_this) lk_141 dX8_count_116 ?_
    refine r_calli (va_runV (As := []) (rest := []) ⟨hx, hb, hml, hown, hts⟩ (m6_sumOfFirsts l G (4 * 0 + 2) (vrC_0_4 (vrC_8_2 hv_this)) _ st h) (cwV 0 hts gX8_count_X6_sumOfFirsts rfl rfl rfl hd6_sumOfFirsts ⟨Nat.le_of_ble_eq_true rfl, Nat.le_of_ble_eq_true rfl⟩) (pre_V hK hX hI hA hS (vrC_0_4 (vrC_8_2 hv_this)) rfl rfl []) rfl rfl hl.1 rfl (lv_room (Nat.le_of_ble_eq_true rfl)) dX8_count_119 ⟨Nat.le_of_ble_eq_true rfl, Nat.le_of_ble_eq_true rfl⟩) hS (fun z2 st3 h H locs hI hS => ?_)
    refine W.widen (k := 1) (n := 6) (by decide) (by decide) ?_
    exact vx_ret (r_iret hx hb hr hlocks hK hI hS (Qp := Q) h dX8_count_122)
  by_cases e15 : a0 = 7
  · replace h := h.2.2.2.2.2.2.2.1 e15
    refine r_tin (tgt := 123) hx hb dX8_count_1 g1 e15 (by decide) rfl (by decide) ?_
    refine lv_aload_n hx hb dX8_count_123 rfl (lv_at hl 0 rfl) ?_
    refine gg_8_2 hx hb hts in8 hown hK hI hv_this lk_23 dX8_count_124 ?_
    refine gg_0_5 hx hb hts in0 hown hK hI (vrC_8_2 hv_this) lk_144 dX8_count_127 ?_
    refine r_calli (va_runV (As := []) (rest := []) ⟨hx, hb, hml, hown, hts⟩ (m6_sumOfFirsts l G (4 * 0 + 3) (vrC_0_5 (vrC_8_2 hv_this)) _ st h) (cwV 0 hts gX8_count_X6_sumOfFirsts rfl rfl rfl hd6_sumOfFirsts ⟨Nat.le_of_ble_eq_true rfl, Nat.le_of_ble_eq_true rfl⟩) (pre_V hK hX hI hA hS (vrC_0_5 (vrC_8_2 hv_this)) rfl rfl []) rfl rfl hl.1 rfl (lv_room (Nat.le_of_ble_eq_true rfl)) dX8_count_130 ⟨Nat.le_of_ble_eq_true rfl, Nat.le_of_ble_eq_true rfl⟩) hS (fun z4 st5 h H locs hI hS => ?_)
    refine W.widen (k := 1) (n := 6) (by decide) (by decide) ?_
    exact vx_ret (r_iret hx hb hr hlocks hK hI hS (Qp := Q) h dX8_count_133)
  by_cases e16 : a0 = 8
  · replace h := h.2.2.2.2.2.2.2.2.1 e16
    refine r_tin (tgt := 134) hx hb dX8_count_1 g1 e16 (by decide) rfl (by decide) ?_
    refine lv_aload_n hx hb dX8_count_134 rfl (lv_at hl 0 rfl) ?_
    refine gg_8_2 hx hb hts in8 hown hK hI hv_this lk_23 dX8_count_135 ?_
    refine r_calli (va_runV (As := []) (rest := []) ⟨hx, hb, hml, hown, hts⟩ (m0_lastHead l G 0 (vrC_8_2 hv_this) _ st h) (cwV 0 hts gX8_count_X0_lastHead rfl rfl rfl hd0_lastHead ⟨Nat.le_of_ble_eq_true rfl, Nat.le_of_ble_eq_true rfl⟩) (pre_V hK hX hI hA hS (vrC_8_2 hv_this) rfl rfl []) rfl rfl hl.1 rfl (lv_room (Nat.le_of_ble_eq_true rfl)) dX8_count_138 ⟨Nat.le_of_ble_eq_true rfl, Nat.le_of_ble_eq_true rfl⟩) hS (fun z6 st7 h H locs hI hS => ?_)
    refine W.widen (k := 1) (n := 6) (by decide) (by decide) ?_
    exact vx_ret (r_iret hx hb hr hlocks hK hI hS (Qp := Q) h dX8_count_141)
  replace h := h.2.2.2.2.2.2.2.2.2 (by omega)
  refine r_tout (tgt := 142) hx hb dX8_count_1 g1 (by omega) (by decide) ?_
  exact r_throw hx hb hfl hts hown (cls := "java/lang/IllegalArgumentException") (by decide) (by decide +kernel) (by decide +kernel) (by decide +kernel) (fun w h9 => by first | exact List.mem_cons_of_mem _ (List.mem_append_right _ h9) | exact List.mem_cons_of_mem _ (List.mem_append_left _ (List.mem_append_right _ h9)) | exact List.mem_cons_of_mem _ (List.mem_append_left _ (List.mem_append_left _ (List.mem_append_right _ h9)))) (by decide +kernel) (by decide +kernel) hX hS hl.1 hml dX8_count_142 dX8_count_145 dX8_count_146 dX8_count_149 hE ⟨Nat.le_of_ble_eq_true rfl, Nat.le_of_ble_eq_true rfl, Nat.le_of_ble_eq_true rfl, Nat.le_of_ble_eq_true rfl⟩ (Nat.le_of_ble_eq_true rfl) hlocks hK hI h (by decide) (by decide)
theorem hd8_unit : yX8_unit.cls = RX8 ∧ yX8_unit.cls ≠ "java/lang/invoke/MethodHandle" ∧ yX8_unit.cls ≠ "java/lang/invoke/VarHandle" ∧ (parseMethodDescriptor yX8_unit.desc).map (fun d => d.parameters.length) = some 0 := by decide +kernel
set_option maxHeartbeats 4000000 in
set_option maxRecDepth 100000 in
theorem m8_unit (l : Launch) (G : WG)   (hv_this : vC 8 0) (Q : Int → St → Prop) (st : St)  (h : f8_unit Q st) : Met l yX8_unit wsX8_unit ({ frames := 0, cells := 0, slots := 0, locals := 0 }) (PcM vC G st [.ref (G.2.2.1 8 0)]) (QlM vC G Q) 0 0 G.2.2.2.1 := by
  refine Met.ofW (cc := cX8_unit) (maxL := 1) (ret := (some .long)) (by decide) rfl ?_
  intro p e s m args below meth c s₁ B hml hvv
  obtain ⟨rfl, hA, hI, hK, hX⟩ := hvv
  have hx := B.exec
  have hb := B.bytes
  have hr := B.returns
  have hts := atoms_spec (ws := wsX8_unit) B.pre
  have hown : s.vm.findClass RX8 = some m.cls := findClass_of_methodNamed B.named
  have hlocks := B.notSynchronized
  have hS : va_S G.2.2.2.1 s.heap s.heap [] := va_S.rf
  have in3 : ∀ w ∈ wsX30, w ∈ wsX8_unit := by decide +kernel
  have in8 : ∀ w ∈ wsX80, w ∈ wsX8_unit := by decide +kernel
  have lk_30 := hts (.fieldLink RX8 30 "BeamLines" "lines" "LBeamLines$Lines;") (by decide +kernel)
  have lk_157 := hts (.fieldLink RX8 157 "BeamLines$Lines" "common" "J") (by decide +kernel)
  have hl := lv_entry ([.ref (G.2.2.1 8 0)]) (n := 1) (Nat.le_of_ble_eq_true rfl)
  rw [lg_entry_eq]
  generalize (lg_sl ([.ref (G.2.2.1 8 0)]) ++ List.replicate (1 - (lg_sl ([.ref (G.2.2.1 8 0)])).length) Slot.unset).toArray = ls at hl ⊢
  have hl : lv_has ls 1 [(0, .ref (G.2.2.1 8 0))] := hl
  unfold f8_unit at h
  refine lv_aload_n hx hb dX8_unit_0 rfl (lv_at hl 0 rfl) ?_
  refine gg_8_3 hx hb hts in8 hown hK hI hv_this lk_30 dX8_unit_1 ?_
  refine gg_3_4 hx hb hts in3 hown hK hI (vrC_8_3 hv_this) lk_157 dX8_unit_4 ?_
  exact r_lret hx hb hr hlocks hK hI hS (Qp := Q) h dX8_unit_7
theorem hd8_needNumber : yX8_needNumber.cls = RX8 ∧ yX8_needNumber.cls ≠ "java/lang/invoke/MethodHandle" ∧ yX8_needNumber.cls ≠ "java/lang/invoke/VarHandle" ∧ (parseMethodDescriptor yX8_needNumber.desc).map (fun d => d.parameters.length) = some 2 := by decide +kernel
set_option maxHeartbeats 4000000 in
set_option maxRecDepth 100000 in
theorem m8_needNumber (l : Launch) (G : WG) (hfl : l.stackTraces = false) (a0 : Int) (hv_this : vC 8 0) (hv_a0 : vC 6 a0) (Q : St → Prop) (X : String → St → Prop) (st : St) (a1 : Int) (h : f8_needNumber a0 Q X st a1) : vx_Met l yX8_needNumber wsX8_needNumber ({ frames := 6, cells := 1, slots := 6, locals := 89 }) (PcM vC G st [.ref (G.2.2.1 8 0), .ref (G.2.2.1 6 a0), .int (iI a1)]) (QvM vC G Q) (XM vC G X) 1 6 G.2.2.2.1 := by
  refine vx_ofW (cc := cX8_needNumber) (maxL := 3) (ret := none) (by decide) rfl ?_
  intro p e s m args below meth c s₁ B hml hE hvv
  obtain ⟨rfl, hA, hI, hK, hX⟩ := hvv
  have hx := B.exec
  have hb := B.bytes
  have hr := B.returns
  have hts := atoms_spec (ws := wsX8_needNumber) B.pre
  have hown : s.vm.findClass RX8 = some m.cls := findClass_of_methodNamed B.named
  have hlocks := B.notSynchronized
  have hS : va_S G.2.2.2.1 s.heap s.heap [] := va_S.rf
  have hl := lv_entry ([.ref (G.2.2.1 8 0), .ref (G.2.2.1 6 a0), .int (iI a1)]) (n := 3) (Nat.le_of_ble_eq_true rfl)
  rw [lg_entry_eq]
  generalize (lg_sl ([.ref (G.2.2.1 8 0), .ref (G.2.2.1 6 a0), .int (iI a1)]) ++ List.replicate (3 - (lg_sl ([.ref (G.2.2.1 8 0), .ref (G.2.2.1 6 a0), .int (iI a1)])).length) Slot.unset).toArray = ls at hl ⊢
  have hl : lv_has ls 3 [(0, .ref (G.2.2.1 8 0)), (1, .ref (G.2.2.1 6 a0)), (2, .int (iI a1))] := hl
  unfold f8_needNumber at h
  refine lv_aload_n hx hb dX8_needNumber_0 rfl (lv_at hl 1 rfl) ?_
  refine lv_iload_n hx hb dX8_needNumber_1 rfl (lv_at hl 2 rfl) ?_
  refine r_calli (va_runV (As := [.int (iI a1)]) (rest := []) ⟨hx, hb, hml, hown, hts⟩ (m6_has l G a0 hv_a0 _ st a1 h) (cwV 1 hts gX8_needNumber_X6_has rfl rfl rfl hd6_has ⟨Nat.le_of_ble_eq_true rfl, Nat.le_of_ble_eq_true rfl⟩) (pre_V hK hX hI hA hS hv_a0 rfl rfl [.int (iI a1)]) rfl rfl hl.1 rfl (lv_room (Nat.le_of_ble_eq_true rfl)) dX8_needNumber_2 ⟨Nat.le_of_ble_eq_true rfl, Nat.le_of_ble_eq_true rfl⟩) hS (fun z1 st2 h H locs hI hS => ?_)
  obtain ⟨g3, h⟩ := h
  refine r_if_ne (tgt := 16) hx hb dX8_needNumber_5 (by decide) g3 (fun c4 => ?_) (fun c4 => ?_)
  · replace h := h.2 c4
    refine W.widen (k := 1) (n := 6) (by decide) (by decide) ?_
    exact vx_ret (r_vret hx hb hr hlocks hK hI hS (Qp := Q) h dX8_needNumber_16)
  · replace h := h.1 c4
    exact r_throw hx hb hfl hts hown (cls := "java/lang/IndexOutOfBoundsException") (by decide) (by decide +kernel) (by decide +kernel) (by decide +kernel) (fun w h9 => by first | exact List.mem_cons_of_mem _ (List.mem_append_right _ h9) | exact List.mem_cons_of_mem _ (List.mem_append_left _ (List.mem_append_right _ h9)) | exact List.mem_cons_of_mem _ (List.mem_append_left _ (List.mem_append_left _ (List.mem_append_right _ h9)))) (by decide +kernel) (by decide +kernel) hX hS hl.1 hml dX8_needNumber_8 dX8_needNumber_11 dX8_needNumber_12 dX8_needNumber_15 hE ⟨Nat.le_of_ble_eq_true rfl, Nat.le_of_ble_eq_true rfl, Nat.le_of_ble_eq_true rfl, Nat.le_of_ble_eq_true rfl⟩ (Nat.le_of_ble_eq_true rfl) hlocks hK hI h (by decide) (by decide)
theorem hd8_needRange : yX8_needRange.cls = RX8 ∧ yX8_needRange.cls ≠ "java/lang/invoke/MethodHandle" ∧ yX8_needRange.cls ≠ "java/lang/invoke/VarHandle" ∧ (parseMethodDescriptor yX8_needRange.desc).map (fun d => d.parameters.length) = some 3 := by decide +kernel
set_option maxHeartbeats 4000000 in
set_option maxRecDepth 100000 in
theorem m8_needRange (l : Launch) (G : WG) (hfl : l.stackTraces = false)  (hv_this : vC 8 0) (Q : St → Prop) (X : String → St → Prop) (st : St) (a0 : Int) (a1 : Int) (a2 : Int) (h : f8_needRange Q X st a0 a1 a2) : vx_Met l yX8_needRange wsX8_needRange ({ frames := 6, cells := 1, slots := 6, locals := 89 }) (PcM vC G st [.ref (G.2.2.1 8 0), .int (iI a0), .int (iI a1), .int (iI a2)]) (QvM vC G Q) (XM vC G X) 1 6 G.2.2.2.1 := by
  refine vx_ofW (cc := cX8_needRange) (maxL := 4) (ret := none) (by decide) rfl ?_
  intro p e s m args below meth c s₁ B hml hE hvv
  obtain ⟨rfl, hA, hI, hK, hX⟩ := hvv
  have hx := B.exec
  have hb := B.bytes
  have hr := B.returns
  have hts := atoms_spec (ws := wsX8_needRange) B.pre
  have hown : s.vm.findClass RX8 = some m.cls := findClass_of_methodNamed B.named
  have hlocks := B.notSynchronized
  have hS : va_S G.2.2.2.1 s.heap s.heap [] := va_S.rf
  have hl := lv_entry ([.ref (G.2.2.1 8 0), .int (iI a0), .int (iI a1), .int (iI a2)]) (n := 4) (Nat.le_of_ble_eq_true rfl)
  rw [lg_entry_eq]
  generalize (lg_sl ([.ref (G.2.2.1 8 0), .int (iI a0), .int (iI a1), .int (iI a2)]) ++ List.replicate (4 - (lg_sl ([.ref (G.2.2.1 8 0), .int (iI a0), .int (iI a1), .int (iI a2)])).length) Slot.unset).toArray = ls at hl ⊢
  have hl : lv_has ls 4 [(0, .ref (G.2.2.1 8 0)), (1, .int (iI a0)), (2, .int (iI a1)), (3, .int (iI a2))] := hl
  have J10 : ∀ (st : St) (H : Heap) (locs : List Loc) (ls : Array Slot), Iv vC G st H → va_S G.2.2.2.1 s.heap H locs → lv_has ls 4 [] → f8_needRange_j10 Q X st → W p l e (headSpec wsX8_needRange ({ frames := 6, cells := 1, slots := 6, locals := 89 })).room s m ([.ref (G.2.2.1 8 0), .int (iI a0), .int (iI a1), .int (iI a2)] : List Value).toArray below meth c H locs 0 0 (vx_MQ below (QvM vC G Q) (XM vC G X) ([.ref (G.2.2.1 8 0), .int (iI a0), .int (iI a1), .int (iI a2)] : List Value).toArray s 1 6 G.2.2.2.1) (F0 m 10 ls []) := by
    intro st H locs ls hI hS hl h
    unfold f8_needRange_j10 at h
    exact r_throw hx hb hfl hts hown (cls := "java/lang/IllegalArgumentException") (by decide) (by decide +kernel) (by decide +kernel) (by decide +kernel) (fun w h9 => by first | exact List.mem_cons_of_mem _ (List.mem_append_right _ h9) | exact List.mem_cons_of_mem _ (List.mem_append_left _ (List.mem_append_right _ h9)) | exact List.mem_cons_of_mem _ (List.mem_append_left _ (List.mem_append_left _ (List.mem_append_right _ h9)))) (by decide +kernel) (by decide +kernel) hX hS hl.1 hml dX8_needRange_10 dX8_needRange_13 dX8_needRange_14 dX8_needRange_17 hE ⟨Nat.le_of_ble_eq_true rfl, Nat.le_of_ble_eq_true rfl, Nat.le_of_ble_eq_true rfl, Nat.le_of_ble_eq_true rfl⟩ (Nat.le_of_ble_eq_true rfl) hlocks hK hI h (by decide) (by decide)
  unfold f8_needRange at h
  refine lv_iload_n hx hb dX8_needRange_0 rfl (lv_at hl 1 rfl) ?_
  refine lv_iload_n hx hb dX8_needRange_1 rfl (lv_at hl 2 rfl) ?_
  obtain ⟨g1, h⟩ := h
  obtain ⟨g2, h⟩ := h
  refine r_icmp_lt (tgt := 10) hx hb dX8_needRange_2 (by decide) g1 g2 (fun c3 => ?_) (fun c3 => ?_)
  · replace h := h.1 c3
    exact J10 st  _ _ ls hI hS (lv_sub hl [] rfl) h
  · replace h := h.2 c3
    refine lv_iload_n hx hb dX8_needRange_5 rfl (lv_at hl 1 rfl) ?_
    refine lv_iload_n hx hb dX8_needRange_6 rfl (lv_at hl 3 rfl) ?_
    obtain ⟨g4, h⟩ := h
    obtain ⟨g5, h⟩ := h
    refine r_icmp_le (tgt := 18) hx hb dX8_needRange_7 (by decide) g4 g5 (fun c6 => ?_) (fun c6 => ?_)
    · replace h := h.1 c6
      refine W.widen (k := 1) (n := 6) (by decide) (by decide) ?_
      exact vx_ret (r_vret hx hb hr hlocks hK hI hS (Qp := Q) h dX8_needRange_18)
    · replace h := h.2 c6
      exact J10 st  _ _ ls hI hS (lv_sub hl [] rfl) h
theorem hd8_pairNumber : yX8_pairNumber.cls = RX8 ∧ yX8_pairNumber.cls ≠ "java/lang/invoke/MethodHandle" ∧ yX8_pairNumber.cls ≠ "java/lang/invoke/VarHandle" ∧ (parseMethodDescriptor yX8_pairNumber.desc).map (fun d => d.parameters.length) = some 3 := by decide +kernel
set_option maxHeartbeats 4000000 in
set_option maxRecDepth 100000 in
theorem m8_pairNumber (l : Launch) (G : WG) (hfl : l.stackTraces = false) (a0 : Int) (hv_this : vC 8 0) (hv_a0 : vC 6 a0) (Q : Int → St → Prop) (X : String → St → Prop) (st : St) (a1 : Int) (a2 : Int) (h : f8_pairNumber a0 Q X st a1 a2) : vx_Met l yX8_pairNumber wsX8_pairNumber ({ frames := 7, cells := 2, slots := 12, locals := 112 }) (PcM vC G st [.ref (G.2.2.1 8 0), .ref (G.2.2.1 6 a0), .int (iI a1), .int (iI a2)]) (QiM vC G Q) (XM vC G X) 2 12 G.2.2.2.1 := by
  refine vx_ofW (cc := cX8_pairNumber) (maxL := 4) (ret := (some .int)) (by decide) rfl ?_
  intro p e s m args below meth c s₁ B hml hE hvv
  obtain ⟨rfl, hA, hI, hK, hX⟩ := hvv
  have hx := B.exec
  have hb := B.bytes
  have hr := B.returns
  have hts := atoms_spec (ws := wsX8_pairNumber) B.pre
  have hown : s.vm.findClass RX8 = some m.cls := findClass_of_methodNamed B.named
  have hlocks := B.notSynchronized
  have hS : va_S G.2.2.2.1 s.heap s.heap [] := va_S.rf
  have hl := lv_entry ([.ref (G.2.2.1 8 0), .ref (G.2.2.1 6 a0), .int (iI a1), .int (iI a2)]) (n := 4) (Nat.le_of_ble_eq_true rfl)
  rw [lg_entry_eq]
  generalize (lg_sl ([.ref (G.2.2.1 8 0), .ref (G.2.2.1 6 a0), .int (iI a1), .int (iI a2)]) ++ List.replicate (4 - (lg_sl ([.ref (G.2.2.1 8 0), .ref (G.2.2.1 6 a0), .int (iI a1), .int (iI a2)])).length) Slot.unset).toArray = ls at hl ⊢
  have hl : lv_has ls 4 [(0, .ref (G.2.2.1 8 0)), (1, .ref (G.2.2.1 6 a0)), (2, .int (iI a1)), (3, .int (iI a2))] := hl
  unfold f8_pairNumber at h
  refine lv_aload_n hx hb dX8_pairNumber_0 rfl (lv_at hl 0 rfl) ?_
  refine lv_aload_n hx hb dX8_pairNumber_1 rfl (lv_at hl 1 rfl) ?_
  refine lv_iload_n hx hb dX8_pairNumber_2 rfl (lv_at hl 2 rfl) ?_
  refine r_xcallv (vx_runV (As := [.ref (G.2.2.1 6 a0), .int (iI a1)]) (rest := []) ⟨hx, hb, hml, hown, hts⟩ (m8_needNumber l G hfl a0 hv_this hv_a0 _ _ st a1 h) (cwV 2 hts gX8_pairNumber_X8_needNumber rfl rfl rfl hd8_needNumber ⟨Nat.le_of_ble_eq_true rfl, Nat.le_of_ble_eq_true rfl⟩) (pre_V hK hX hI hA hS hv_this rfl rfl [.ref (G.2.2.1 6 a0), .int (iI a1)]) rfl rfl hl.1 rfl (lv_room (Nat.le_of_ble_eq_true rfl)) dX8_pairNumber_3 ⟨Nat.le_of_ble_eq_true rfl, Nat.le_of_ble_eq_true rfl⟩) hS hE hlocks hK (by decide) (by decide) (fun st2 h H locs hI hS => ?_)
  refine lv_aload_n hx hb dX8_pairNumber_6 rfl (lv_at hl 0 rfl) ?_
  refine lv_iload_n hx hb dX8_pairNumber_7 rfl (lv_at hl 3 rfl) ?_
  refine r_iconst (n := 0) hx hb dX8_pairNumber_8 ?_
  refine r_iconst (n := 1) hx hb dX8_pairNumber_9 ?_
  refine r_xcallv (vx_runV (As := [.int (iI a2), .int (iI 0), .int (iI 1)]) (rest := []) ⟨hx, hb, hml, hown, hts⟩ (m8_needRange l G hfl hv_this _ _ st2 a2 0 1 h) (cwV 3 hts gX8_pairNumber_X8_needRange rfl rfl rfl hd8_needRange ⟨Nat.le_of_ble_eq_true rfl, Nat.le_of_ble_eq_true rfl⟩) (pre_V hK hX hI hA hS hv_this rfl rfl [.int (iI a2), .int (iI 0), .int (iI 1)]) rfl rfl hl.1 rfl (lv_room (Nat.le_of_ble_eq_true rfl)) dX8_pairNumber_10 ⟨Nat.le_of_ble_eq_true rfl, Nat.le_of_ble_eq_true rfl⟩) hS hE hlocks hK (by decide) (by decide) (fun st4 h H locs hI hS => ?_)
  refine lv_iload_n hx hb dX8_pairNumber_13 rfl (lv_at hl 3 rfl) ?_
  obtain ⟨g5, h⟩ := h
  refine r_if_ne (tgt := 25) hx hb dX8_pairNumber_14 (by decide) g5 (fun c6 => ?_) (fun c6 => ?_)
  · replace h := h.2 c6
    refine lv_aload_n hx hb dX8_pairNumber_25 rfl (lv_at hl 1 rfl) ?_
    refine lv_iload_n hx hb dX8_pairNumber_26 rfl (lv_at hl 2 rfl) ?_
    refine r_calli (va_runV (As := [.int (iI a1)]) (rest := []) ⟨hx, hb, hml, hown, hts⟩ (m6_second l G a0 hv_a0 _ st4 a1 h) (cwV 1 hts gX8_pairNumber_X6_second rfl rfl rfl hd6_second ⟨Nat.le_of_ble_eq_true rfl, Nat.le_of_ble_eq_true rfl⟩) (pre_V hK hX hI hA hS hv_a0 rfl rfl [.int (iI a1)]) rfl rfl hl.1 rfl (lv_room (Nat.le_of_ble_eq_true rfl)) dX8_pairNumber_27 ⟨Nat.le_of_ble_eq_true rfl, Nat.le_of_ble_eq_true rfl⟩) hS (fun z7 st8 h H locs hI hS => ?_)
    refine W.widen (k := 2) (n := 12) (by decide) (by decide) ?_
    exact vx_ret (r_iret hx hb hr hlocks hK hI hS (Qp := Q) h dX8_pairNumber_30)
  · replace h := h.1 c6
    refine lv_aload_n hx hb dX8_pairNumber_17 rfl (lv_at hl 1 rfl) ?_
    refine lv_iload_n hx hb dX8_pairNumber_18 rfl (lv_at hl 2 rfl) ?_
    refine r_calli (va_runV (As := [.int (iI a1)]) (rest := []) ⟨hx, hb, hml, hown, hts⟩ (m6_first l G a0 hv_a0 _ st4 a1 h) (cwV 1 hts gX8_pairNumber_X6_first rfl rfl rfl hd6_first ⟨Nat.le_of_ble_eq_true rfl, Nat.le_of_ble_eq_true rfl⟩) (pre_V hK hX hI hA hS hv_a0 rfl rfl [.int (iI a1)]) rfl rfl hl.1 rfl (lv_room (Nat.le_of_ble_eq_true rfl)) dX8_pairNumber_19 ⟨Nat.le_of_ble_eq_true rfl, Nat.le_of_ble_eq_true rfl⟩) hS (fun z9 st10 h H locs hI hS => ?_)
    refine lv_goto (tgt := 30) hx hb dX8_pairNumber_22 (by decide) ?_
    refine W.widen (k := 2) (n := 12) (by decide) (by decide) ?_
    exact vx_ret (r_iret hx hb hr hlocks hK hI hS (Qp := Q) h dX8_pairNumber_30)
theorem hd8_support : yX8_support.cls = RX8 ∧ yX8_support.cls ≠ "java/lang/invoke/MethodHandle" ∧ yX8_support.cls ≠ "java/lang/invoke/VarHandle" ∧ (parseMethodDescriptor yX8_support.desc).map (fun d => d.parameters.length) = some 2 := by decide +kernel
set_option maxHeartbeats 4000000 in
set_option maxRecDepth 100000 in
theorem m8_support (l : Launch) (G : WG) (hfl : l.stackTraces = false)  (hv_this : vC 8 0) (Q : Int → St → Prop) (X : String → St → Prop) (st : St) (a0 : Int) (a1 : Int) (h : f8_support Q X st a0 a1) : vx_Met l yX8_support wsX8_support ({ frames := 8, cells := 2, slots := 12, locals := 135 }) (PcM vC G st [.ref (G.2.2.1 8 0), .int (iI a0), .int (iI a1)]) (QiM vC G Q) (XM vC G X) 2 12 G.2.2.2.1 := by
  refine vx_ofW (cc := cX8_support) (maxL := 3) (ret := (some .int)) (by decide) rfl ?_
  intro p e s m args below meth c s₁ B hml hE hvv
  obtain ⟨rfl, hA, hI, hK, hX⟩ := hvv
  have hx := B.exec
  have hb := B.bytes
  have hr := B.returns
  have hts := atoms_spec (ws := wsX8_support) B.pre
  have hown : s.vm.findClass RX8 = some m.cls := findClass_of_methodNamed B.named
  have hlocks := B.notSynchronized
  have hS : va_S G.2.2.2.1 s.heap s.heap [] := va_S.rf
  have in0 : ∀ w ∈ wsX00, w ∈ wsX8_support := by decide +kernel
  have in8 : ∀ w ∈ wsX80, w ∈ wsX8_support := by decide +kernel
  have lk_23 := hts (.fieldLink RX8 23 "BeamLines" "present" "LBeamLines$Beam;") (by decide +kernel)
  have lk_85 := hts (.fieldLink RX8 85 "BeamLines$Beam" "supports" "LBeamLines$Row;") (by decide +kernel)
  have hl := lv_entry ([.ref (G.2.2.1 8 0), .int (iI a0), .int (iI a1)]) (n := 3) (Nat.le_of_ble_eq_true rfl)
  rw [lg_entry_eq]
  generalize (lg_sl ([.ref (G.2.2.1 8 0), .int (iI a0), .int (iI a1)]) ++ List.replicate (3 - (lg_sl ([.ref (G.2.2.1 8 0), .int (iI a0), .int (iI a1)])).length) Slot.unset).toArray = ls at hl ⊢
  have hl : lv_has ls 3 [(0, .ref (G.2.2.1 8 0)), (1, .int (iI a0)), (2, .int (iI a1))] := hl
  unfold f8_support at h
  refine lv_aload_n hx hb dX8_support_0 rfl (lv_at hl 0 rfl) ?_
  refine lv_aload_n hx hb dX8_support_1 rfl (lv_at hl 0 rfl) ?_
  refine gg_8_2 hx hb hts in8 hown hK hI hv_this lk_23 dX8_support_2 ?_
  refine gg_0_2 hx hb hts in0 hown hK hI (vrC_8_2 hv_this) lk_85 dX8_support_5 ?_
  refine lv_iload_n hx hb dX8_support_8 rfl (lv_at hl 1 rfl) ?_
  refine lv_iload_n hx hb dX8_support_9 rfl (lv_at hl 2 rfl) ?_
  refine r_xcalli (vx_runV (As := [.ref (G.2.2.1 6 (4 * 0)), .int (iI a0), .int (iI a1)]) (rest := []) ⟨hx, hb, hml, hown, hts⟩ (m8_pairNumber l G hfl (4 * 0) hv_this (vrC_0_2 (vrC_8_2 hv_this)) _ _ st a0 a1 h) (cwV 3 hts gX8_support_X8_pairNumber rfl rfl rfl hd8_pairNumber ⟨Nat.le_of_ble_eq_true rfl, Nat.le_of_ble_eq_true rfl⟩) (pre_V hK hX hI hA hS hv_this rfl rfl [.ref (G.2.2.1 6 (4 * 0)), .int (iI a0), .int (iI a1)]) rfl rfl hl.1 rfl (lv_room (Nat.le_of_ble_eq_true rfl)) dX8_support_10 ⟨Nat.le_of_ble_eq_true rfl, Nat.le_of_ble_eq_true rfl⟩) hS hE hlocks hK (by decide) (by decide) (fun z1 st2 h H locs hI hS => ?_)
  refine W.widen (k := 2) (n := 12) (by decide) (by decide) ?_
  exact vx_ret (r_iret hx hb hr hlocks hK hI hS (Qp := Q) h dX8_support_13)
theorem hd8_hinge : yX8_hinge.cls = RX8 ∧ yX8_hinge.cls ≠ "java/lang/invoke/MethodHandle" ∧ yX8_hinge.cls ≠ "java/lang/invoke/VarHandle" ∧ (parseMethodDescriptor yX8_hinge.desc).map (fun d => d.parameters.length) = some 1 := by decide +kernel
set_option maxHeartbeats 4000000 in
set_option maxRecDepth 100000 in
theorem m8_hinge (l : Launch) (G : WG) (hfl : l.stackTraces = false)  (hv_this : vC 8 0) (Q : Int → St → Prop) (X : String → St → Prop) (st : St) (a0 : Int) (h : f8_hinge Q X st a0) : vx_Met l yX8_hinge wsX8_hinge ({ frames := 8, cells := 2, slots := 12, locals := 135 }) (PcM vC G st [.ref (G.2.2.1 8 0), .int (iI a0)]) (QiM vC G Q) (XM vC G X) 2 12 G.2.2.2.1 := by
  refine vx_ofW (cc := cX8_hinge) (maxL := 2) (ret := (some .int)) (by decide) rfl ?_
  intro p e s m args below meth c s₁ B hml hE hvv
  obtain ⟨rfl, hA, hI, hK, hX⟩ := hvv
  have hx := B.exec
  have hb := B.bytes
  have hr := B.returns
  have hts := atoms_spec (ws := wsX8_hinge) B.pre
  have hown : s.vm.findClass RX8 = some m.cls := findClass_of_methodNamed B.named
  have hlocks := B.notSynchronized
  have hS : va_S G.2.2.2.1 s.heap s.heap [] := va_S.rf
  have in0 : ∀ w ∈ wsX00, w ∈ wsX8_hinge := by decide +kernel
  have in8 : ∀ w ∈ wsX80, w ∈ wsX8_hinge := by decide +kernel
  have lk_23 := hts (.fieldLink RX8 23 "BeamLines" "present" "LBeamLines$Beam;") (by decide +kernel)
  have lk_138 := hts (.fieldLink RX8 138 "BeamLines$Beam" "hinges" "LBeamLines$Row;") (by decide +kernel)
  have hl := lv_entry ([.ref (G.2.2.1 8 0), .int (iI a0)]) (n := 2) (Nat.le_of_ble_eq_true rfl)
  rw [lg_entry_eq]
  generalize (lg_sl ([.ref (G.2.2.1 8 0), .int (iI a0)]) ++ List.replicate (2 - (lg_sl ([.ref (G.2.2.1 8 0), .int (iI a0)])).length) Slot.unset).toArray = ls at hl ⊢
  have hl : lv_has ls 2 [(0, .ref (G.2.2.1 8 0)), (1, .int (iI a0))] := hl
  unfold f8_hinge at h
  refine lv_aload_n hx hb dX8_hinge_0 rfl (lv_at hl 0 rfl) ?_
  refine lv_aload_n hx hb dX8_hinge_1 rfl (lv_at hl 0 rfl) ?_
  refine gg_8_2 hx hb hts in8 hown hK hI hv_this lk_23 dX8_hinge_2 ?_
  refine gg_0_3 hx hb hts in0 hown hK hI (vrC_8_2 hv_this) lk_138 dX8_hinge_5 ?_
  refine lv_iload_n hx hb dX8_hinge_8 rfl (lv_at hl 1 rfl) ?_
  refine r_iconst (n := 0) hx hb dX8_hinge_9 ?_
  refine r_xcalli (vx_runV (As := [.ref (G.2.2.1 6 (4 * 0 + 1)), .int (iI a0), .int (iI 0)]) (rest := []) ⟨hx, hb, hml, hown, hts⟩ (m8_pairNumber l G hfl (4 * 0 + 1) hv_this (vrC_0_3 (vrC_8_2 hv_this)) _ _ st a0 0 h) (cwV 3 hts gX8_hinge_X8_pairNumber rfl rfl rfl hd8_pairNumber ⟨Nat.le_of_ble_eq_true rfl, Nat.le_of_ble_eq_true rfl⟩) (pre_V hK hX hI hA hS hv_this rfl rfl [.ref (G.2.2.1 6 (4 * 0 + 1)), .int (iI a0), .int (iI 0)]) rfl rfl hl.1 rfl (lv_room (Nat.le_of_ble_eq_true rfl)) dX8_hinge_10 ⟨Nat.le_of_ble_eq_true rfl, Nat.le_of_ble_eq_true rfl⟩) hS hE hlocks hK (by decide) (by decide) (fun z1 st2 h H locs hI hS => ?_)
  refine W.widen (k := 2) (n := 12) (by decide) (by decide) ?_
  exact vx_ret (r_iret hx hb hr hlocks hK hI hS (Qp := Q) h dX8_hinge_13)
theorem hd8_weight : yX8_weight.cls = RX8 ∧ yX8_weight.cls ≠ "java/lang/invoke/MethodHandle" ∧ yX8_weight.cls ≠ "java/lang/invoke/VarHandle" ∧ (parseMethodDescriptor yX8_weight.desc).map (fun d => d.parameters.length) = some 2 := by decide +kernel
set_option maxHeartbeats 4000000 in
set_option maxRecDepth 100000 in
theorem m8_weight (l : Launch) (G : WG) (hfl : l.stackTraces = false)  (hv_this : vC 8 0) (Q : Int → St → Prop) (X : String → St → Prop) (st : St) (a0 : Int) (a1 : Int) (h : f8_weight Q X st a0 a1) : vx_Met l yX8_weight wsX8_weight ({ frames := 8, cells := 2, slots := 12, locals := 135 }) (PcM vC G st [.ref (G.2.2.1 8 0), .int (iI a0), .int (iI a1)]) (QiM vC G Q) (XM vC G X) 2 12 G.2.2.2.1 := by
  refine vx_ofW (cc := cX8_weight) (maxL := 3) (ret := (some .int)) (by decide) rfl ?_
  intro p e s m args below meth c s₁ B hml hE hvv
  obtain ⟨rfl, hA, hI, hK, hX⟩ := hvv
  have hx := B.exec
  have hb := B.bytes
  have hr := B.returns
  have hts := atoms_spec (ws := wsX8_weight) B.pre
  have hown : s.vm.findClass RX8 = some m.cls := findClass_of_methodNamed B.named
  have hlocks := B.notSynchronized
  have hS : va_S G.2.2.2.1 s.heap s.heap [] := va_S.rf
  have in0 : ∀ w ∈ wsX00, w ∈ wsX8_weight := by decide +kernel
  have in8 : ∀ w ∈ wsX80, w ∈ wsX8_weight := by decide +kernel
  have lk_23 := hts (.fieldLink RX8 23 "BeamLines" "present" "LBeamLines$Beam;") (by decide +kernel)
  have lk_141 := hts (.fieldLink RX8 141 "BeamLines$Beam" "loads" "LBeamLines$Row;") (by decide +kernel)
  have hl := lv_entry ([.ref (G.2.2.1 8 0), .int (iI a0), .int (iI a1)]) (n := 3) (Nat.le_of_ble_eq_true rfl)
  rw [lg_entry_eq]
  generalize (lg_sl ([.ref (G.2.2.1 8 0), .int (iI a0), .int (iI a1)]) ++ List.replicate (3 - (lg_sl ([.ref (G.2.2.1 8 0), .int (iI a0), .int (iI a1)])).length) Slot.unset).toArray = ls at hl ⊢
  have hl : lv_has ls 3 [(0, .ref (G.2.2.1 8 0)), (1, .int (iI a0)), (2, .int (iI a1))] := hl
  unfold f8_weight at h
  refine lv_aload_n hx hb dX8_weight_0 rfl (lv_at hl 0 rfl) ?_
  refine lv_aload_n hx hb dX8_weight_1 rfl (lv_at hl 0 rfl) ?_
  refine gg_8_2 hx hb hts in8 hown hK hI hv_this lk_23 dX8_weight_2 ?_
  refine gg_0_4 hx hb hts in0 hown hK hI (vrC_8_2 hv_this) lk_141 dX8_weight_5 ?_
  refine lv_iload_n hx hb dX8_weight_8 rfl (lv_at hl 1 rfl) ?_
  refine lv_iload_n hx hb dX8_weight_9 rfl (lv_at hl 2 rfl) ?_
  refine r_xcalli (vx_runV (As := [.ref (G.2.2.1 6 (4 * 0 + 2)), .int (iI a0), .int (iI a1)]) (rest := []) ⟨hx, hb, hml, hown, hts⟩ (m8_pairNumber l G hfl (4 * 0 + 2) hv_this (vrC_0_4 (vrC_8_2 hv_this)) _ _ st a0 a1 h) (cwV 3 hts gX8_weight_X8_pairNumber rfl rfl rfl hd8_pairNumber ⟨Nat.le_of_ble_eq_true rfl, Nat.le_of_ble_eq_true rfl⟩) (pre_V hK hX hI hA hS hv_this rfl rfl [.ref (G.2.2.1 6 (4 * 0 + 2)), .int (iI a0), .int (iI a1)]) rfl rfl hl.1 rfl (lv_room (Nat.le_of_ble_eq_true rfl)) dX8_weight_10 ⟨Nat.le_of_ble_eq_true rfl, Nat.le_of_ble_eq_true rfl⟩) hS hE hlocks hK (by decide) (by decide) (fun z1 st2 h H locs hI hS => ?_)
  refine W.widen (k := 2) (n := 12) (by decide) (by decide) ?_
  exact vx_ret (r_iret hx hb hr hlocks hK hI hS (Qp := Q) h dX8_weight_13)
theorem hd8_axle : yX8_axle.cls = RX8 ∧ yX8_axle.cls ≠ "java/lang/invoke/MethodHandle" ∧ yX8_axle.cls ≠ "java/lang/invoke/VarHandle" ∧ (parseMethodDescriptor yX8_axle.desc).map (fun d => d.parameters.length) = some 2 := by decide +kernel
set_option maxHeartbeats 4000000 in
set_option maxRecDepth 100000 in
theorem m8_axle (l : Launch) (G : WG) (hfl : l.stackTraces = false)  (hv_this : vC 8 0) (Q : Int → St → Prop) (X : String → St → Prop) (st : St) (a0 : Int) (a1 : Int) (h : f8_axle Q X st a0 a1) : vx_Met l yX8_axle wsX8_axle ({ frames := 8, cells := 2, slots := 12, locals := 135 }) (PcM vC G st [.ref (G.2.2.1 8 0), .int (iI a0), .int (iI a1)]) (QiM vC G Q) (XM vC G X) 2 12 G.2.2.2.1 := by
  refine vx_ofW (cc := cX8_axle) (maxL := 3) (ret := (some .int)) (by decide) rfl ?_
  intro p e s m args below meth c s₁ B hml hE hvv
  obtain ⟨rfl, hA, hI, hK, hX⟩ := hvv
  have hx := B.exec
  have hb := B.bytes
  have hr := B.returns
  have hts := atoms_spec (ws := wsX8_axle) B.pre
  have hown : s.vm.findClass RX8 = some m.cls := findClass_of_methodNamed B.named
  have hlocks := B.notSynchronized
  have hS : va_S G.2.2.2.1 s.heap s.heap [] := va_S.rf
  have in0 : ∀ w ∈ wsX00, w ∈ wsX8_axle := by decide +kernel
  have in8 : ∀ w ∈ wsX80, w ∈ wsX8_axle := by decide +kernel
  have lk_23 := hts (.fieldLink RX8 23 "BeamLines" "present" "LBeamLines$Beam;") (by decide +kernel)
  have lk_144 := hts (.fieldLink RX8 144 "BeamLines$Beam" "axles" "LBeamLines$Row;") (by decide +kernel)
  have hl := lv_entry ([.ref (G.2.2.1 8 0), .int (iI a0), .int (iI a1)]) (n := 3) (Nat.le_of_ble_eq_true rfl)
  rw [lg_entry_eq]
  generalize (lg_sl ([.ref (G.2.2.1 8 0), .int (iI a0), .int (iI a1)]) ++ List.replicate (3 - (lg_sl ([.ref (G.2.2.1 8 0), .int (iI a0), .int (iI a1)])).length) Slot.unset).toArray = ls at hl ⊢
  have hl : lv_has ls 3 [(0, .ref (G.2.2.1 8 0)), (1, .int (iI a0)), (2, .int (iI a1))] := hl
  unfold f8_axle at h
  refine lv_aload_n hx hb dX8_axle_0 rfl (lv_at hl 0 rfl) ?_
  refine lv_aload_n hx hb dX8_axle_1 rfl (lv_at hl 0 rfl) ?_
  refine gg_8_2 hx hb hts in8 hown hK hI hv_this lk_23 dX8_axle_2 ?_
  refine gg_0_5 hx hb hts in0 hown hK hI (vrC_8_2 hv_this) lk_144 dX8_axle_5 ?_
  refine lv_iload_n hx hb dX8_axle_8 rfl (lv_at hl 1 rfl) ?_
  refine lv_iload_n hx hb dX8_axle_9 rfl (lv_at hl 2 rfl) ?_
  refine r_xcalli (vx_runV (As := [.ref (G.2.2.1 6 (4 * 0 + 3)), .int (iI a0), .int (iI a1)]) (rest := []) ⟨hx, hb, hml, hown, hts⟩ (m8_pairNumber l G hfl (4 * 0 + 3) hv_this (vrC_0_5 (vrC_8_2 hv_this)) _ _ st a0 a1 h) (cwV 3 hts gX8_axle_X8_pairNumber rfl rfl rfl hd8_pairNumber ⟨Nat.le_of_ble_eq_true rfl, Nat.le_of_ble_eq_true rfl⟩) (pre_V hK hX hI hA hS hv_this rfl rfl [.ref (G.2.2.1 6 (4 * 0 + 3)), .int (iI a0), .int (iI a1)]) rfl rfl hl.1 rfl (lv_room (Nat.le_of_ble_eq_true rfl)) dX8_axle_10 ⟨Nat.le_of_ble_eq_true rfl, Nat.le_of_ble_eq_true rfl⟩) hS hE hlocks hK (by decide) (by decide) (fun z1 st2 h H locs hI hS => ?_)
  refine W.widen (k := 2) (n := 12) (by decide) (by decide) ?_
  exact vx_ret (r_iret hx hb hr hlocks hK hI hS (Qp := Q) h dX8_axle_13)
theorem hd8_needPlace : yX8_needPlace.cls = RX8 ∧ yX8_needPlace.cls ≠ "java/lang/invoke/MethodHandle" ∧ yX8_needPlace.cls ≠ "java/lang/invoke/VarHandle" ∧ (parseMethodDescriptor yX8_needPlace.desc).map (fun d => d.parameters.length) = some 1 := by decide +kernel
set_option maxHeartbeats 4000000 in
set_option maxRecDepth 100000 in
theorem m8_needPlace (l : Launch) (G : WG) (hfl : l.stackTraces = false)  (hv_this : vC 8 0) (Q : St → Prop) (X : String → St → Prop) (st : St) (a0 : Int) (h : f8_needPlace Q X st a0) : vx_Met l yX8_needPlace wsX8_needPlace ({ frames := 6, cells := 1, slots := 6, locals := 89 }) (PcM vC G st [.ref (G.2.2.1 8 0), .int (iI a0)]) (QvM vC G Q) (XM vC G X) 1 6 G.2.2.2.1 := by
  refine vx_ofW (cc := cX8_needPlace) (maxL := 2) (ret := none) (by decide) rfl ?_
  intro p e s m args below meth c s₁ B hml hE hvv
  obtain ⟨rfl, hA, hI, hK, hX⟩ := hvv
  have hx := B.exec
  have hb := B.bytes
  have hr := B.returns
  have hts := atoms_spec (ws := wsX8_needPlace) B.pre
  have hown : s.vm.findClass RX8 = some m.cls := findClass_of_methodNamed B.named
  have hlocks := B.notSynchronized
  have hS : va_S G.2.2.2.1 s.heap s.heap [] := va_S.rf
  have in8 : ∀ w ∈ wsX80, w ∈ wsX8_needPlace := by decide +kernel
  have lk_23 := hts (.fieldLink RX8 23 "BeamLines" "present" "LBeamLines$Beam;") (by decide +kernel)
  have hl := lv_entry ([.ref (G.2.2.1 8 0), .int (iI a0)]) (n := 2) (Nat.le_of_ble_eq_true rfl)
  rw [lg_entry_eq]
  generalize (lg_sl ([.ref (G.2.2.1 8 0), .int (iI a0)]) ++ List.replicate (2 - (lg_sl ([.ref (G.2.2.1 8 0), .int (iI a0)])).length) Slot.unset).toArray = ls at hl ⊢
  have hl : lv_has ls 2 [(0, .ref (G.2.2.1 8 0)), (1, .int (iI a0))] := hl
  unfold f8_needPlace at h
  refine lv_aload_n hx hb dX8_needPlace_0 rfl (lv_at hl 0 rfl) ?_
  refine gg_8_2 hx hb hts in8 hown hK hI hv_this lk_23 dX8_needPlace_1 ?_
  refine lv_iload_n hx hb dX8_needPlace_4 rfl (lv_at hl 1 rfl) ?_
  refine r_calli (va_runV (As := [.int (iI a0)]) (rest := []) ⟨hx, hb, hml, hown, hts⟩ (m0_hasPlace l G 0 (vrC_8_2 hv_this) _ st a0 h) (cwV 1 hts gX8_needPlace_X0_hasPlace rfl rfl rfl hd0_hasPlace ⟨Nat.le_of_ble_eq_true rfl, Nat.le_of_ble_eq_true rfl⟩) (pre_V hK hX hI hA hS (vrC_8_2 hv_this) rfl rfl [.int (iI a0)]) rfl rfl hl.1 rfl (lv_room (Nat.le_of_ble_eq_true rfl)) dX8_needPlace_5 ⟨Nat.le_of_ble_eq_true rfl, Nat.le_of_ble_eq_true rfl⟩) hS (fun z1 st2 h H locs hI hS => ?_)
  obtain ⟨g3, h⟩ := h
  refine r_if_ne (tgt := 19) hx hb dX8_needPlace_8 (by decide) g3 (fun c4 => ?_) (fun c4 => ?_)
  · replace h := h.2 c4
    refine W.widen (k := 1) (n := 6) (by decide) (by decide) ?_
    exact vx_ret (r_vret hx hb hr hlocks hK hI hS (Qp := Q) h dX8_needPlace_19)
  · replace h := h.1 c4
    exact r_throw hx hb hfl hts hown (cls := "java/lang/IndexOutOfBoundsException") (by decide) (by decide +kernel) (by decide +kernel) (by decide +kernel) (fun w h9 => by first | exact List.mem_cons_of_mem _ (List.mem_append_right _ h9) | exact List.mem_cons_of_mem _ (List.mem_append_left _ (List.mem_append_right _ h9)) | exact List.mem_cons_of_mem _ (List.mem_append_left _ (List.mem_append_left _ (List.mem_append_right _ h9)))) (by decide +kernel) (by decide +kernel) hX hS hl.1 hml dX8_needPlace_11 dX8_needPlace_14 dX8_needPlace_15 dX8_needPlace_18 hE ⟨Nat.le_of_ble_eq_true rfl, Nat.le_of_ble_eq_true rfl, Nat.le_of_ble_eq_true rfl, Nat.le_of_ble_eq_true rfl⟩ (Nat.le_of_ble_eq_true rfl) hlocks hK hI h (by decide) (by decide)
theorem hd8_part : yX8_part.cls = RX8 ∧ yX8_part.cls ≠ "java/lang/invoke/MethodHandle" ∧ yX8_part.cls ≠ "java/lang/invoke/VarHandle" ∧ (parseMethodDescriptor yX8_part.desc).map (fun d => d.parameters.length) = some 1 := by decide +kernel
set_option maxHeartbeats 4000000 in
set_option maxRecDepth 100000 in
theorem m8_part (l : Launch) (G : WG) (hfl : l.stackTraces = false)  (hv_this : vC 8 0) (Q : Int → St → Prop) (X : String → St → Prop) (st : St) (a0 : Int) (h : f8_part Q X st a0) : vx_Met l yX8_part wsX8_part ({ frames := 7, cells := 1, slots := 6, locals := 110 }) (PcM vC G st [.ref (G.2.2.1 8 0), .int (iI a0)]) (QiM vC G Q) (XM vC G X) 1 6 G.2.2.2.1 := by
  refine vx_ofW (cc := cX8_part) (maxL := 2) (ret := (some .int)) (by decide) rfl ?_
  intro p e s m args below meth c s₁ B hml hE hvv
  obtain ⟨rfl, hA, hI, hK, hX⟩ := hvv
  have hx := B.exec
  have hb := B.bytes
  have hr := B.returns
  have hts := atoms_spec (ws := wsX8_part) B.pre
  have hown : s.vm.findClass RX8 = some m.cls := findClass_of_methodNamed B.named
  have hlocks := B.notSynchronized
  have hS : va_S G.2.2.2.1 s.heap s.heap [] := va_S.rf
  have in0 : ∀ w ∈ wsX00, w ∈ wsX8_part := by decide +kernel
  have in8 : ∀ w ∈ wsX80, w ∈ wsX8_part := by decide +kernel
  have lk_23 := hts (.fieldLink RX8 23 "BeamLines" "present" "LBeamLines$Beam;") (by decide +kernel)
  have lk_138 := hts (.fieldLink RX8 138 "BeamLines$Beam" "hinges" "LBeamLines$Row;") (by decide +kernel)
  have hl := lv_entry ([.ref (G.2.2.1 8 0), .int (iI a0)]) (n := 2) (Nat.le_of_ble_eq_true rfl)
  rw [lg_entry_eq]
  generalize (lg_sl ([.ref (G.2.2.1 8 0), .int (iI a0)]) ++ List.replicate (2 - (lg_sl ([.ref (G.2.2.1 8 0), .int (iI a0)])).length) Slot.unset).toArray = ls at hl ⊢
  have hl : lv_has ls 2 [(0, .ref (G.2.2.1 8 0)), (1, .int (iI a0))] := hl
  unfold f8_part at h
  refine lv_aload_n hx hb dX8_part_0 rfl (lv_at hl 0 rfl) ?_
  refine lv_iload_n hx hb dX8_part_1 rfl (lv_at hl 1 rfl) ?_
  refine r_xcallv (vx_runV (As := [.int (iI a0)]) (rest := []) ⟨hx, hb, hml, hown, hts⟩ (m8_needPlace l G hfl hv_this _ _ st a0 h) (cwV 1 hts gX8_part_X8_needPlace rfl rfl rfl hd8_needPlace ⟨Nat.le_of_ble_eq_true rfl, Nat.le_of_ble_eq_true rfl⟩) (pre_V hK hX hI hA hS hv_this rfl rfl [.int (iI a0)]) rfl rfl hl.1 rfl (lv_room (Nat.le_of_ble_eq_true rfl)) dX8_part_2 ⟨Nat.le_of_ble_eq_true rfl, Nat.le_of_ble_eq_true rfl⟩) hS hE hlocks hK (by decide) (by decide) (fun st2 h H locs hI hS => ?_)
  refine lv_aload_n hx hb dX8_part_5 rfl (lv_at hl 0 rfl) ?_
  refine gg_8_2 hx hb hts in8 hown hK hI hv_this lk_23 dX8_part_6 ?_
  refine gg_0_3 hx hb hts in0 hown hK hI (vrC_8_2 hv_this) lk_138 dX8_part_9 ?_
  refine lv_iload_n hx hb dX8_part_12 rfl (lv_at hl 1 rfl) ?_
  refine r_calli (va_runV (As := [.int (iI a0)]) (rest := []) ⟨hx, hb, hml, hown, hts⟩ (m6_countUpTo l G (4 * 0 + 1) (vrC_0_3 (vrC_8_2 hv_this)) _ st2 a0 h) (cwV 1 hts gX8_part_X6_countUpTo rfl rfl rfl hd6_countUpTo ⟨Nat.le_of_ble_eq_true rfl, Nat.le_of_ble_eq_true rfl⟩) (pre_V hK hX hI hA hS (vrC_0_3 (vrC_8_2 hv_this)) rfl rfl [.int (iI a0)]) rfl rfl hl.1 rfl (lv_room (Nat.le_of_ble_eq_true rfl)) dX8_part_13 ⟨Nat.le_of_ble_eq_true rfl, Nat.le_of_ble_eq_true rfl⟩) hS (fun z3 st4 h H locs hI hS => ?_)
  refine W.widen (k := 1) (n := 6) (by decide) (by decide) ?_
  exact vx_ret (r_iret hx hb hr hlocks hK hI hS (Qp := Q) h dX8_part_16)
theorem hd8_reactionLine : yX8_reactionLine.cls = RX8 ∧ yX8_reactionLine.cls ≠ "java/lang/invoke/MethodHandle" ∧ yX8_reactionLine.cls ≠ "java/lang/invoke/VarHandle" ∧ (parseMethodDescriptor yX8_reactionLine.desc).map (fun d => d.parameters.length) = some 2 := by decide +kernel
set_option maxHeartbeats 4000000 in
set_option maxRecDepth 100000 in
theorem m8_reactionLine (l : Launch) (G : WG) (hfl : l.stackTraces = false)  (hv_this : vC 8 0) (Q : Int → St → Prop) (X : String → St → Prop) (st : St) (a0 : Int) (a1 : Int) (h : f8_reactionLine Q X st a0 a1) : vx_Met l yX8_reactionLine wsX8_reactionLine ({ frames := 7, cells := 2, slots := 12, locals := 111 }) (PcM vC G st [.ref (G.2.2.1 8 0), .int (iI a0), .int (iI a1)]) (QlM vC G Q) (XM vC G X) 2 12 G.2.2.2.1 := by
  refine vx_ofW (cc := cX8_reactionLine) (maxL := 3) (ret := (some .long)) (by decide) rfl ?_
  intro p e s m args below meth c s₁ B hml hE hvv
  obtain ⟨rfl, hA, hI, hK, hX⟩ := hvv
  have hx := B.exec
  have hb := B.bytes
  have hr := B.returns
  have hts := atoms_spec (ws := wsX8_reactionLine) B.pre
  have hown : s.vm.findClass RX8 = some m.cls := findClass_of_methodNamed B.named
  have hlocks := B.notSynchronized
  have hS : va_S G.2.2.2.1 s.heap s.heap [] := va_S.rf
  have in0 : ∀ w ∈ wsX00, w ∈ wsX8_reactionLine := by decide +kernel
  have in8 : ∀ w ∈ wsX80, w ∈ wsX8_reactionLine := by decide +kernel
  have lk_23 := hts (.fieldLink RX8 23 "BeamLines" "present" "LBeamLines$Beam;") (by decide +kernel)
  have lk_30 := hts (.fieldLink RX8 30 "BeamLines" "lines" "LBeamLines$Lines;") (by decide +kernel)
  have lk_85 := hts (.fieldLink RX8 85 "BeamLines$Beam" "supports" "LBeamLines$Row;") (by decide +kernel)
  have hl := lv_entry ([.ref (G.2.2.1 8 0), .int (iI a0), .int (iI a1)]) (n := 3) (Nat.le_of_ble_eq_true rfl)
  rw [lg_entry_eq]
  generalize (lg_sl ([.ref (G.2.2.1 8 0), .int (iI a0), .int (iI a1)]) ++ List.replicate (3 - (lg_sl ([.ref (G.2.2.1 8 0), .int (iI a0), .int (iI a1)])).length) Slot.unset).toArray = ls at hl ⊢
  have hl : lv_has ls 3 [(0, .ref (G.2.2.1 8 0)), (1, .int (iI a0)), (2, .int (iI a1))] := hl
  unfold f8_reactionLine at h
  refine lv_aload_n hx hb dX8_reactionLine_0 rfl (lv_at hl 0 rfl) ?_
  refine lv_aload_n hx hb dX8_reactionLine_1 rfl (lv_at hl 0 rfl) ?_
  refine gg_8_2 hx hb hts in8 hown hK hI hv_this lk_23 dX8_reactionLine_2 ?_
  refine gg_0_2 hx hb hts in0 hown hK hI (vrC_8_2 hv_this) lk_85 dX8_reactionLine_5 ?_
  refine lv_iload_n hx hb dX8_reactionLine_8 rfl (lv_at hl 1 rfl) ?_
  refine r_xcallv (vx_runV (As := [.ref (G.2.2.1 6 (4 * 0)), .int (iI a0)]) (rest := []) ⟨hx, hb, hml, hown, hts⟩ (m8_needNumber l G hfl (4 * 0) hv_this (vrC_0_2 (vrC_8_2 hv_this)) _ _ st a0 h) (cwV 2 hts gX8_reactionLine_X8_needNumber rfl rfl rfl hd8_needNumber ⟨Nat.le_of_ble_eq_true rfl, Nat.le_of_ble_eq_true rfl⟩) (pre_V hK hX hI hA hS hv_this rfl rfl [.ref (G.2.2.1 6 (4 * 0)), .int (iI a0)]) rfl rfl hl.1 rfl (lv_room (Nat.le_of_ble_eq_true rfl)) dX8_reactionLine_9 ⟨Nat.le_of_ble_eq_true rfl, Nat.le_of_ble_eq_true rfl⟩) hS hE hlocks hK (by decide) (by decide) (fun st2 h H locs hI hS => ?_)
  refine lv_aload_n hx hb dX8_reactionLine_12 rfl (lv_at hl 0 rfl) ?_
  refine lv_iload_n hx hb dX8_reactionLine_13 rfl (lv_at hl 2 rfl) ?_
  refine r_xcallv (vx_runV (As := [.int (iI a1)]) (rest := []) ⟨hx, hb, hml, hown, hts⟩ (m8_needPlace l G hfl hv_this _ _ st2 a1 h) (cwV 1 hts gX8_reactionLine_X8_needPlace rfl rfl rfl hd8_needPlace ⟨Nat.le_of_ble_eq_true rfl, Nat.le_of_ble_eq_true rfl⟩) (pre_V hK hX hI hA hS hv_this rfl rfl [.int (iI a1)]) rfl rfl hl.1 rfl (lv_room (Nat.le_of_ble_eq_true rfl)) dX8_reactionLine_14 ⟨Nat.le_of_ble_eq_true rfl, Nat.le_of_ble_eq_true rfl⟩) hS hE hlocks hK (by decide) (by decide) (fun st4 h H locs hI hS => ?_)
  refine lv_aload_n hx hb dX8_reactionLine_17 rfl (lv_at hl 0 rfl) ?_
  refine gg_8_3 hx hb hts in8 hown hK hI hv_this lk_30 dX8_reactionLine_18 ?_
  refine lv_iload_n hx hb dX8_reactionLine_21 rfl (lv_at hl 1 rfl) ?_
  refine lv_iload_n hx hb dX8_reactionLine_22 rfl (lv_at hl 2 rfl) ?_
  refine r_calll (va_runV (As := [.int (iI a0), .int (iI a1)]) (rest := []) ⟨hx, hb, hml, hown, hts⟩ (m3_at l G 0 (vrC_8_3 hv_this) _ st4 a0 a1 h) (cwV 2 hts gX8_reactionLine_X3_at rfl rfl rfl hd3_at ⟨Nat.le_of_ble_eq_true rfl, Nat.le_of_ble_eq_true rfl⟩) (pre_V hK hX hI hA hS (vrC_8_3 hv_this) rfl rfl [.int (iI a0), .int (iI a1)]) rfl rfl hl.1 rfl (lv_room (Nat.le_of_ble_eq_true rfl)) dX8_reactionLine_23 ⟨Nat.le_of_ble_eq_true rfl, Nat.le_of_ble_eq_true rfl⟩) hS (fun z5 st6 h H locs hI hS => ?_)
  refine W.widen (k := 2) (n := 12) (by decide) (by decide) ?_
  exact vx_ret (r_lret hx hb hr hlocks hK hI hS (Qp := Q) h dX8_reactionLine_26)
theorem hd8_needField : yX8_needField.cls = RX8 ∧ yX8_needField.cls ≠ "java/lang/invoke/MethodHandle" ∧ yX8_needField.cls ≠ "java/lang/invoke/VarHandle" ∧ (parseMethodDescriptor yX8_needField.desc).map (fun d => d.parameters.length) = some 1 := by decide +kernel
set_option maxHeartbeats 4000000 in
set_option maxRecDepth 100000 in
theorem m8_needField (l : Launch) (G : WG) (hfl : l.stackTraces = false)  (hv_this : vC 8 0) (Q : St → Prop) (X : String → St → Prop) (st : St) (a0 : Int) (h : f8_needField Q X st a0) : vx_Met l yX8_needField wsX8_needField ({ frames := 6, cells := 1, slots := 6, locals := 89 }) (PcM vC G st [.ref (G.2.2.1 8 0), .int (iI a0)]) (QvM vC G Q) (XM vC G X) 1 6 G.2.2.2.1 := by
  refine vx_ofW (cc := cX8_needField) (maxL := 2) (ret := none) (by decide) rfl ?_
  intro p e s m args below meth c s₁ B hml hE hvv
  obtain ⟨rfl, hA, hI, hK, hX⟩ := hvv
  have hx := B.exec
  have hb := B.bytes
  have hr := B.returns
  have hts := atoms_spec (ws := wsX8_needField) B.pre
  have hown : s.vm.findClass RX8 = some m.cls := findClass_of_methodNamed B.named
  have hlocks := B.notSynchronized
  have hS : va_S G.2.2.2.1 s.heap s.heap [] := va_S.rf
  have in0 : ∀ w ∈ wsX00, w ∈ wsX8_needField := by decide +kernel
  have in8 : ∀ w ∈ wsX80, w ∈ wsX8_needField := by decide +kernel
  have lk_23 := hts (.fieldLink RX8 23 "BeamLines" "present" "LBeamLines$Beam;") (by decide +kernel)
  have lk_79 := hts (.fieldLink RX8 79 "BeamLines$Beam" "length" "I") (by decide +kernel)
  have hl := lv_entry ([.ref (G.2.2.1 8 0), .int (iI a0)]) (n := 2) (Nat.le_of_ble_eq_true rfl)
  rw [lg_entry_eq]
  generalize (lg_sl ([.ref (G.2.2.1 8 0), .int (iI a0)]) ++ List.replicate (2 - (lg_sl ([.ref (G.2.2.1 8 0), .int (iI a0)])).length) Slot.unset).toArray = ls at hl ⊢
  have hl : lv_has ls 2 [(0, .ref (G.2.2.1 8 0)), (1, .int (iI a0))] := hl
  have J15 : ∀ (st : St) (H : Heap) (locs : List Loc) (ls : Array Slot), Iv vC G st H → va_S G.2.2.2.1 s.heap H locs → lv_has ls 2 [] → f8_needField_j15 Q X st → W p l e (headSpec wsX8_needField ({ frames := 6, cells := 1, slots := 6, locals := 89 })).room s m ([.ref (G.2.2.1 8 0), .int (iI a0)] : List Value).toArray below meth c H locs 0 0 (vx_MQ below (QvM vC G Q) (XM vC G X) ([.ref (G.2.2.1 8 0), .int (iI a0)] : List Value).toArray s 1 6 G.2.2.2.1) (F0 m 15 ls []) := by
    intro st H locs ls hI hS hl h
    unfold f8_needField_j15 at h
    exact r_throw hx hb hfl hts hown (cls := "java/lang/IndexOutOfBoundsException") (by decide) (by decide +kernel) (by decide +kernel) (by decide +kernel) (fun w h9 => by first | exact List.mem_cons_of_mem _ (List.mem_append_right _ h9) | exact List.mem_cons_of_mem _ (List.mem_append_left _ (List.mem_append_right _ h9)) | exact List.mem_cons_of_mem _ (List.mem_append_left _ (List.mem_append_left _ (List.mem_append_right _ h9)))) (by decide +kernel) (by decide +kernel) hX hS hl.1 hml dX8_needField_15 dX8_needField_18 dX8_needField_19 dX8_needField_22 hE ⟨Nat.le_of_ble_eq_true rfl, Nat.le_of_ble_eq_true rfl, Nat.le_of_ble_eq_true rfl, Nat.le_of_ble_eq_true rfl⟩ (Nat.le_of_ble_eq_true rfl) hlocks hK hI h (by decide) (by decide)
  unfold f8_needField at h
  refine lv_iload_n hx hb dX8_needField_0 rfl (lv_at hl 1 rfl) ?_
  obtain ⟨g1, h⟩ := h
  refine r_if_lt (tgt := 15) hx hb dX8_needField_1 (by decide) g1 (fun c2 => ?_) (fun c2 => ?_)
  · replace h := h.1 c2
    exact J15 st  _ _ ls hI hS (lv_sub hl [] rfl) h
  · replace h := h.2 c2
    refine lv_iload_n hx hb dX8_needField_4 rfl (lv_at hl 1 rfl) ?_
    refine lv_aload_n hx hb dX8_needField_5 rfl (lv_at hl 0 rfl) ?_
    refine gg_8_2 hx hb hts in8 hown hK hI hv_this lk_23 dX8_needField_6 ?_
    refine gg_0_0 hx hb hts in0 hown hK hI (vrC_8_2 hv_this) lk_79 dX8_needField_9 ?_
    obtain ⟨g3, h⟩ := h
    obtain ⟨g4, h⟩ := h
    refine r_icmp_lt (tgt := 23) hx hb dX8_needField_12 (by decide) g3 g4 (fun c5 => ?_) (fun c5 => ?_)
    · replace h := h.1 c5
      refine W.widen (k := 1) (n := 6) (by decide) (by decide) ?_
      exact vx_ret (r_vret hx hb hr hlocks hK hI hS (Qp := Q) h dX8_needField_23)
    · replace h := h.2 c5
      exact J15 st  _ _ ls hI hS (lv_sub hl [] rfl) h
theorem hd8_shearLine : yX8_shearLine.cls = RX8 ∧ yX8_shearLine.cls ≠ "java/lang/invoke/MethodHandle" ∧ yX8_shearLine.cls ≠ "java/lang/invoke/VarHandle" ∧ (parseMethodDescriptor yX8_shearLine.desc).map (fun d => d.parameters.length) = some 2 := by decide +kernel
set_option maxHeartbeats 4000000 in
set_option maxRecDepth 100000 in
theorem m8_shearLine (l : Launch) (G : WG) (hfl : l.stackTraces = false)  (hv_this : vC 8 0) (Q : Int → St → Prop) (X : String → St → Prop) (st : St) (a0 : Int) (a1 : Int) (h : f8_shearLine Q X st a0 a1) : vx_Met l yX8_shearLine wsX8_shearLine ({ frames := 7, cells := 2, slots := 12, locals := 117 }) (PcM vC G st [.ref (G.2.2.1 8 0), .int (iI a0), .int (iI a1)]) (QlM vC G Q) (XM vC G X) 2 12 G.2.2.2.1 := by
  refine vx_ofW (cc := cX8_shearLine) (maxL := 3) (ret := (some .long)) (by decide) rfl ?_
  intro p e s m args below meth c s₁ B hml hE hvv
  obtain ⟨rfl, hA, hI, hK, hX⟩ := hvv
  have hx := B.exec
  have hb := B.bytes
  have hr := B.returns
  have hts := atoms_spec (ws := wsX8_shearLine) B.pre
  have hown : s.vm.findClass RX8 = some m.cls := findClass_of_methodNamed B.named
  have hlocks := B.notSynchronized
  have hS : va_S G.2.2.2.1 s.heap s.heap [] := va_S.rf
  have in8 : ∀ w ∈ wsX80, w ∈ wsX8_shearLine := by decide +kernel
  have lk_23 := hts (.fieldLink RX8 23 "BeamLines" "present" "LBeamLines$Beam;") (by decide +kernel)
  have lk_30 := hts (.fieldLink RX8 30 "BeamLines" "lines" "LBeamLines$Lines;") (by decide +kernel)
  have lk_43 := hts (.fieldLink RX8 43 "BeamLines" "forces" "LBeamLines$Forces;") (by decide +kernel)
  have hl := lv_entry ([.ref (G.2.2.1 8 0), .int (iI a0), .int (iI a1)]) (n := 3) (Nat.le_of_ble_eq_true rfl)
  rw [lg_entry_eq]
  generalize (lg_sl ([.ref (G.2.2.1 8 0), .int (iI a0), .int (iI a1)]) ++ List.replicate (3 - (lg_sl ([.ref (G.2.2.1 8 0), .int (iI a0), .int (iI a1)])).length) Slot.unset).toArray = ls at hl ⊢
  have hl : lv_has ls 3 [(0, .ref (G.2.2.1 8 0)), (1, .int (iI a0)), (2, .int (iI a1))] := hl
  unfold f8_shearLine at h
  refine lv_aload_n hx hb dX8_shearLine_0 rfl (lv_at hl 0 rfl) ?_
  refine lv_iload_n hx hb dX8_shearLine_1 rfl (lv_at hl 1 rfl) ?_
  refine r_xcallv (vx_runV (As := [.int (iI a0)]) (rest := []) ⟨hx, hb, hml, hown, hts⟩ (m8_needField l G hfl hv_this _ _ st a0 h) (cwV 1 hts gX8_shearLine_X8_needField rfl rfl rfl hd8_needField ⟨Nat.le_of_ble_eq_true rfl, Nat.le_of_ble_eq_true rfl⟩) (pre_V hK hX hI hA hS hv_this rfl rfl [.int (iI a0)]) rfl rfl hl.1 rfl (lv_room (Nat.le_of_ble_eq_true rfl)) dX8_shearLine_2 ⟨Nat.le_of_ble_eq_true rfl, Nat.le_of_ble_eq_true rfl⟩) hS hE hlocks hK (by decide) (by decide) (fun st2 h H locs hI hS => ?_)
  refine lv_aload_n hx hb dX8_shearLine_5 rfl (lv_at hl 0 rfl) ?_
  refine lv_iload_n hx hb dX8_shearLine_6 rfl (lv_at hl 2 rfl) ?_
  refine r_xcallv (vx_runV (As := [.int (iI a1)]) (rest := []) ⟨hx, hb, hml, hown, hts⟩ (m8_needPlace l G hfl hv_this _ _ st2 a1 h) (cwV 1 hts gX8_shearLine_X8_needPlace rfl rfl rfl hd8_needPlace ⟨Nat.le_of_ble_eq_true rfl, Nat.le_of_ble_eq_true rfl⟩) (pre_V hK hX hI hA hS hv_this rfl rfl [.int (iI a1)]) rfl rfl hl.1 rfl (lv_room (Nat.le_of_ble_eq_true rfl)) dX8_shearLine_7 ⟨Nat.le_of_ble_eq_true rfl, Nat.le_of_ble_eq_true rfl⟩) hS hE hlocks hK (by decide) (by decide) (fun st4 h H locs hI hS => ?_)
  refine lv_aload_n hx hb dX8_shearLine_10 rfl (lv_at hl 0 rfl) ?_
  refine gg_8_6 hx hb hts in8 hown hK hI hv_this lk_43 dX8_shearLine_11 ?_
  refine lv_aload_n hx hb dX8_shearLine_14 rfl (lv_at hl 0 rfl) ?_
  refine gg_8_2 hx hb hts in8 hown hK hI hv_this lk_23 dX8_shearLine_15 ?_
  refine lv_aload_n hx hb dX8_shearLine_18 rfl (lv_at hl 0 rfl) ?_
  refine gg_8_3 hx hb hts in8 hown hK hI hv_this lk_30 dX8_shearLine_19 ?_
  refine lv_iload_n hx hb dX8_shearLine_22 rfl (lv_at hl 2 rfl) ?_
  refine r_callv (va_runV (As := [.ref (G.2.2.1 0 0), .ref (G.2.2.1 3 0), .int (iI a1)]) (rest := []) ⟨hx, hb, hml, hown, hts⟩ (m1_underOne l G 0 0 0 (vrC_8_6 hv_this) (vrC_8_2 hv_this) (vrC_8_3 hv_this) _ st4 a1 h) (cwV 3 hts gX8_shearLine_X1_underOne rfl rfl rfl hd1_underOne ⟨Nat.le_of_ble_eq_true rfl, Nat.le_of_ble_eq_true rfl⟩) (pre_V hK hX hI hA hS (vrC_8_6 hv_this) rfl rfl [.ref (G.2.2.1 0 0), .ref (G.2.2.1 3 0), .int (iI a1)]) rfl rfl hl.1 rfl (lv_room (Nat.le_of_ble_eq_true rfl)) dX8_shearLine_23 ⟨Nat.le_of_ble_eq_true rfl, Nat.le_of_ble_eq_true rfl⟩) hS (fun st6 h H locs hI hS => ?_)
  refine lv_aload_n hx hb dX8_shearLine_26 rfl (lv_at hl 0 rfl) ?_
  refine gg_8_6 hx hb hts in8 hown hK hI hv_this lk_43 dX8_shearLine_27 ?_
  refine lv_iload_n hx hb dX8_shearLine_30 rfl (lv_at hl 1 rfl) ?_
  refine r_calll (va_runV (As := [.int (iI a0)]) (rest := []) ⟨hx, hb, hml, hown, hts⟩ (m1_shearIn l G 0 (vrC_8_6 hv_this) _ st6 a0 h) (cwV 1 hts gX8_shearLine_X1_shearIn rfl rfl rfl hd1_shearIn ⟨Nat.le_of_ble_eq_true rfl, Nat.le_of_ble_eq_true rfl⟩) (pre_V hK hX hI hA hS (vrC_8_6 hv_this) rfl rfl [.int (iI a0)]) rfl rfl hl.1 rfl (lv_room (Nat.le_of_ble_eq_true rfl)) dX8_shearLine_31 ⟨Nat.le_of_ble_eq_true rfl, Nat.le_of_ble_eq_true rfl⟩) hS (fun z7 st8 h H locs hI hS => ?_)
  refine W.widen (k := 2) (n := 12) (by decide) (by decide) ?_
  exact vx_ret (r_lret hx hb hr hlocks hK hI hS (Qp := Q) h dX8_shearLine_34)
theorem hd8_influenceOnMoment : yX8_influenceOnMoment.cls = RX8 ∧ yX8_influenceOnMoment.cls ≠ "java/lang/invoke/MethodHandle" ∧ yX8_influenceOnMoment.cls ≠ "java/lang/invoke/VarHandle" ∧ (parseMethodDescriptor yX8_influenceOnMoment.desc).map (fun d => d.parameters.length) = some 2 := by decide +kernel
set_option maxHeartbeats 4000000 in
set_option maxRecDepth 100000 in
theorem m8_influenceOnMoment (l : Launch) (G : WG)   (hv_this : vC 8 0) (Q : Int → St → Prop) (st : St) (a0 : Int) (a1 : Int) (h : f8_influenceOnMoment Q st a0 a1) : Met l yX8_influenceOnMoment wsX8_influenceOnMoment ({ frames := 5, cells := 0, slots := 0, locals := 117 }) (PcM vC G st [.ref (G.2.2.1 8 0), .int (iI a0), .int (iI a1)]) (QlM vC G Q) 0 0 G.2.2.2.1 := by
  refine Met.ofW (cc := cX8_influenceOnMoment) (maxL := 3) (ret := (some .long)) (by decide) rfl ?_
  intro p e s m args below meth c s₁ B hml hvv
  obtain ⟨rfl, hA, hI, hK, hX⟩ := hvv
  have hx := B.exec
  have hb := B.bytes
  have hr := B.returns
  have hts := atoms_spec (ws := wsX8_influenceOnMoment) B.pre
  have hown : s.vm.findClass RX8 = some m.cls := findClass_of_methodNamed B.named
  have hlocks := B.notSynchronized
  have hS : va_S G.2.2.2.1 s.heap s.heap [] := va_S.rf
  have in8 : ∀ w ∈ wsX80, w ∈ wsX8_influenceOnMoment := by decide +kernel
  have lk_23 := hts (.fieldLink RX8 23 "BeamLines" "present" "LBeamLines$Beam;") (by decide +kernel)
  have lk_30 := hts (.fieldLink RX8 30 "BeamLines" "lines" "LBeamLines$Lines;") (by decide +kernel)
  have lk_43 := hts (.fieldLink RX8 43 "BeamLines" "forces" "LBeamLines$Forces;") (by decide +kernel)
  have hl := lv_entry ([.ref (G.2.2.1 8 0), .int (iI a0), .int (iI a1)]) (n := 3) (Nat.le_of_ble_eq_true rfl)
  rw [lg_entry_eq]
  generalize (lg_sl ([.ref (G.2.2.1 8 0), .int (iI a0), .int (iI a1)]) ++ List.replicate (3 - (lg_sl ([.ref (G.2.2.1 8 0), .int (iI a0), .int (iI a1)])).length) Slot.unset).toArray = ls at hl ⊢
  have hl : lv_has ls 3 [(0, .ref (G.2.2.1 8 0)), (1, .int (iI a0)), (2, .int (iI a1))] := hl
  unfold f8_influenceOnMoment at h
  refine lv_aload_n hx hb dX8_influenceOnMoment_0 rfl (lv_at hl 0 rfl) ?_
  refine gg_8_6 hx hb hts in8 hown hK hI hv_this lk_43 dX8_influenceOnMoment_1 ?_
  refine lv_aload_n hx hb dX8_influenceOnMoment_4 rfl (lv_at hl 0 rfl) ?_
  refine gg_8_2 hx hb hts in8 hown hK hI hv_this lk_23 dX8_influenceOnMoment_5 ?_
  refine lv_aload_n hx hb dX8_influenceOnMoment_8 rfl (lv_at hl 0 rfl) ?_
  refine gg_8_3 hx hb hts in8 hown hK hI hv_this lk_30 dX8_influenceOnMoment_9 ?_
  refine lv_iload_n hx hb dX8_influenceOnMoment_12 rfl (lv_at hl 2 rfl) ?_
  refine r_callv (va_runV (As := [.ref (G.2.2.1 0 0), .ref (G.2.2.1 3 0), .int (iI a1)]) (rest := []) ⟨hx, hb, hml, hown, hts⟩ (m1_underOne l G 0 0 0 (vrC_8_6 hv_this) (vrC_8_2 hv_this) (vrC_8_3 hv_this) _ st a1 h) (cwV 3 hts gX8_influenceOnMoment_X1_underOne rfl rfl rfl hd1_underOne ⟨Nat.le_of_ble_eq_true rfl, Nat.le_of_ble_eq_true rfl⟩) (pre_V hK hX hI hA hS (vrC_8_6 hv_this) rfl rfl [.ref (G.2.2.1 0 0), .ref (G.2.2.1 3 0), .int (iI a1)]) rfl rfl hl.1 rfl (lv_room (Nat.le_of_ble_eq_true rfl)) dX8_influenceOnMoment_13 ⟨Nat.le_of_ble_eq_true rfl, Nat.le_of_ble_eq_true rfl⟩) hS (fun st2 h H locs hI hS => ?_)
  refine lv_aload_n hx hb dX8_influenceOnMoment_16 rfl (lv_at hl 0 rfl) ?_
  refine gg_8_6 hx hb hts in8 hown hK hI hv_this lk_43 dX8_influenceOnMoment_17 ?_
  refine lv_iload_n hx hb dX8_influenceOnMoment_20 rfl (lv_at hl 1 rfl) ?_
  refine r_calll (va_runV (As := [.int (iI a0)]) (rest := []) ⟨hx, hb, hml, hown, hts⟩ (m1_momentAt l G 0 (vrC_8_6 hv_this) _ st2 a0 h) (cwV 1 hts gX8_influenceOnMoment_X1_momentAt rfl rfl rfl hd1_momentAt ⟨Nat.le_of_ble_eq_true rfl, Nat.le_of_ble_eq_true rfl⟩) (pre_V hK hX hI hA hS (vrC_8_6 hv_this) rfl rfl [.int (iI a0)]) rfl rfl hl.1 rfl (lv_room (Nat.le_of_ble_eq_true rfl)) dX8_influenceOnMoment_21 ⟨Nat.le_of_ble_eq_true rfl, Nat.le_of_ble_eq_true rfl⟩) hS (fun z3 st4 h H locs hI hS => ?_)
  exact r_lret hx hb hr hlocks hK hI hS (Qp := Q) h dX8_influenceOnMoment_24
theorem hd8_momentLine : yX8_momentLine.cls = RX8 ∧ yX8_momentLine.cls ≠ "java/lang/invoke/MethodHandle" ∧ yX8_momentLine.cls ≠ "java/lang/invoke/VarHandle" ∧ (parseMethodDescriptor yX8_momentLine.desc).map (fun d => d.parameters.length) = some 2 := by decide +kernel
set_option maxHeartbeats 4000000 in
set_option maxRecDepth 100000 in
theorem m8_momentLine (l : Launch) (G : WG) (hfl : l.stackTraces = false)  (hv_this : vC 8 0) (Q : Int → St → Prop) (X : String → St → Prop) (st : St) (a0 : Int) (a1 : Int) (h : f8_momentLine Q X st a0 a1) : vx_Met l yX8_momentLine wsX8_momentLine ({ frames := 7, cells := 2, slots := 12, locals := 139 }) (PcM vC G st [.ref (G.2.2.1 8 0), .int (iI a0), .int (iI a1)]) (QlM vC G Q) (XM vC G X) 2 12 G.2.2.2.1 := by
  refine vx_ofW (cc := cX8_momentLine) (maxL := 3) (ret := (some .long)) (by decide) rfl ?_
  intro p e s m args below meth c s₁ B hml hE hvv
  obtain ⟨rfl, hA, hI, hK, hX⟩ := hvv
  have hx := B.exec
  have hb := B.bytes
  have hr := B.returns
  have hts := atoms_spec (ws := wsX8_momentLine) B.pre
  have hown : s.vm.findClass RX8 = some m.cls := findClass_of_methodNamed B.named
  have hlocks := B.notSynchronized
  have hS : va_S G.2.2.2.1 s.heap s.heap [] := va_S.rf
  have hl := lv_entry ([.ref (G.2.2.1 8 0), .int (iI a0), .int (iI a1)]) (n := 3) (Nat.le_of_ble_eq_true rfl)
  rw [lg_entry_eq]
  generalize (lg_sl ([.ref (G.2.2.1 8 0), .int (iI a0), .int (iI a1)]) ++ List.replicate (3 - (lg_sl ([.ref (G.2.2.1 8 0), .int (iI a0), .int (iI a1)])).length) Slot.unset).toArray = ls at hl ⊢
  have hl : lv_has ls 3 [(0, .ref (G.2.2.1 8 0)), (1, .int (iI a0)), (2, .int (iI a1))] := hl
  unfold f8_momentLine at h
  refine lv_aload_n hx hb dX8_momentLine_0 rfl (lv_at hl 0 rfl) ?_
  refine lv_iload_n hx hb dX8_momentLine_1 rfl (lv_at hl 1 rfl) ?_
  refine r_xcallv (vx_runV (As := [.int (iI a0)]) (rest := []) ⟨hx, hb, hml, hown, hts⟩ (m8_needPlace l G hfl hv_this _ _ st a0 h) (cwV 1 hts gX8_momentLine_X8_needPlace rfl rfl rfl hd8_needPlace ⟨Nat.le_of_ble_eq_true rfl, Nat.le_of_ble_eq_true rfl⟩) (pre_V hK hX hI hA hS hv_this rfl rfl [.int (iI a0)]) rfl rfl hl.1 rfl (lv_room (Nat.le_of_ble_eq_true rfl)) dX8_momentLine_2 ⟨Nat.le_of_ble_eq_true rfl, Nat.le_of_ble_eq_true rfl⟩) hS hE hlocks hK (by decide) (by decide) (fun st2 h H locs hI hS => ?_)
  refine lv_aload_n hx hb dX8_momentLine_5 rfl (lv_at hl 0 rfl) ?_
  refine lv_iload_n hx hb dX8_momentLine_6 rfl (lv_at hl 2 rfl) ?_
  refine r_xcallv (vx_runV (As := [.int (iI a1)]) (rest := []) ⟨hx, hb, hml, hown, hts⟩ (m8_needPlace l G hfl hv_this _ _ st2 a1 h) (cwV 1 hts gX8_momentLine_X8_needPlace rfl rfl rfl hd8_needPlace ⟨Nat.le_of_ble_eq_true rfl, Nat.le_of_ble_eq_true rfl⟩) (pre_V hK hX hI hA hS hv_this rfl rfl [.int (iI a1)]) rfl rfl hl.1 rfl (lv_room (Nat.le_of_ble_eq_true rfl)) dX8_momentLine_7 ⟨Nat.le_of_ble_eq_true rfl, Nat.le_of_ble_eq_true rfl⟩) hS hE hlocks hK (by decide) (by decide) (fun st4 h H locs hI hS => ?_)
  refine lv_aload_n hx hb dX8_momentLine_10 rfl (lv_at hl 0 rfl) ?_
  refine lv_iload_n hx hb dX8_momentLine_11 rfl (lv_at hl 1 rfl) ?_
  refine lv_iload_n hx hb dX8_momentLine_12 rfl (lv_at hl 2 rfl) ?_
  refine r_calll (va_runV (As := [.int (iI a0), .int (iI a1)]) (rest := []) ⟨hx, hb, hml, hown, hts⟩ (m8_influenceOnMoment l G hv_this _ st4 a0 a1 h) (cwV 2 hts gX8_momentLine_X8_influenceOnMoment rfl rfl rfl hd8_influenceOnMoment ⟨Nat.le_of_ble_eq_true rfl, Nat.le_of_ble_eq_true rfl⟩) (pre_V hK hX hI hA hS hv_this rfl rfl [.int (iI a0), .int (iI a1)]) rfl rfl hl.1 rfl (lv_room (Nat.le_of_ble_eq_true rfl)) dX8_momentLine_13 ⟨Nat.le_of_ble_eq_true rfl, Nat.le_of_ble_eq_true rfl⟩) hS (fun z5 st6 h H locs hI hS => ?_)
  refine W.widen (k := 2) (n := 12) (by decide) (by decide) ?_
  exact vx_ret (r_lret hx hb hr hlocks hK hI hS (Qp := Q) h dX8_momentLine_16)
theorem hd8_area : yX8_area.cls = RX8 ∧ yX8_area.cls ≠ "java/lang/invoke/MethodHandle" ∧ yX8_area.cls ≠ "java/lang/invoke/VarHandle" ∧ (parseMethodDescriptor yX8_area.desc).map (fun d => d.parameters.length) = some 1 := by decide +kernel
set_option maxHeartbeats 4000000 in
set_option maxRecDepth 100000 in
theorem m8_area (l : Launch) (G : WG) (hfl : l.stackTraces = false)  (hv_this : vC 8 0) (Q : Int → St → Prop) (X : String → St → Prop) (st : St) (a0 : Int) (h : f8_area Q X st a0) : vx_Met l yX8_area wsX8_area ({ frames := 7, cells := 1, slots := 6, locals := 139 }) (PcM vC G st [.ref (G.2.2.1 8 0), .int (iI a0)]) (QlM vC G Q) (XM vC G X) 1 6 G.2.2.2.1 := by
  refine vx_ofW (cc := cX8_area) (maxL := 5) (ret := (some .long)) (by decide) rfl ?_
  intro p e s m args below meth c s₁ B hml hE hvv
  obtain ⟨rfl, hA, hI, hK, hX⟩ := hvv
  have hx := B.exec
  have hb := B.bytes
  have hr := B.returns
  have hts := atoms_spec (ws := wsX8_area) B.pre
  have hown : s.vm.findClass RX8 = some m.cls := findClass_of_methodNamed B.named
  have hlocks := B.notSynchronized
  have hS : va_S G.2.2.2.1 s.heap s.heap [] := va_S.rf
  have in0 : ∀ w ∈ wsX00, w ∈ wsX8_area := by decide +kernel
  have in8 : ∀ w ∈ wsX80, w ∈ wsX8_area := by decide +kernel
  have lk_23 := hts (.fieldLink RX8 23 "BeamLines" "present" "LBeamLines$Beam;") (by decide +kernel)
  have lk_79 := hts (.fieldLink RX8 79 "BeamLines$Beam" "length" "I") (by decide +kernel)
  have hl := lv_entry ([.ref (G.2.2.1 8 0), .int (iI a0)]) (n := 5) (Nat.le_of_ble_eq_true rfl)
  rw [lg_entry_eq]
  generalize (lg_sl ([.ref (G.2.2.1 8 0), .int (iI a0)]) ++ List.replicate (5 - (lg_sl ([.ref (G.2.2.1 8 0), .int (iI a0)])).length) Slot.unset).toArray = ls at hl ⊢
  have hl : lv_has ls 5 [(0, .ref (G.2.2.1 8 0)), (1, .int (iI a0))] := hl
  have L10 : ∀ (n10 : Nat), ∀ (st : St) (v2x10 : Int) (v4x10 : Int) (H : Heap) (locs : List Loc) (ls : Array Slot), Iv vC G st H → va_S G.2.2.2.1 s.heap H locs → lv_has ls 5 [(0, .ref (G.2.2.1 8 0)), (1, .int (iI a0)), (2, .long (lI v2x10)), (4, .int (iI v4x10))] → f8_area_l10 Q X a0 n10 st v2x10 v4x10 → W p l e (headSpec wsX8_area ({ frames := 7, cells := 1, slots := 6, locals := 139 })).room s m ([.ref (G.2.2.1 8 0), .int (iI a0)] : List Value).toArray below meth c H locs 1 6 (vx_MQ below (QlM vC G Q) (XM vC G X) ([.ref (G.2.2.1 8 0), .int (iI a0)] : List Value).toArray s 1 6 G.2.2.2.1) (F0 m 10 ls []) := by
    intro n10
    induction n10 with
    | zero =>
      intro st v2x10 v4x10 H locs ls hI hS hl h
      exact h.elim
    | succ n10 ih10 =>
      intro st v2x10 v4x10 H locs ls hI hS hl h
      unfold f8_area_l10 at h
      refine lv_iload hx hb dX8_area_10 (lv_at hl 3 rfl) ?_
      refine lv_aload_n hx hb dX8_area_12 rfl (lv_at hl 0 rfl) ?_
      refine gg_8_2 hx hb hts in8 hown hK hI hv_this lk_23 dX8_area_13 ?_
      refine gg_0_0 hx hb hts in0 hown hK hI (vrC_8_2 hv_this) lk_79 dX8_area_16 ?_
      obtain ⟨g3, h⟩ := h
      obtain ⟨g4, h⟩ := h
      refine r_icmp_gt (tgt := 38) hx hb dX8_area_19 (by decide) g3 g4 (fun c5 => ?_) (fun c5 => ?_)
      · replace h := h.1 c5
        refine lv_lload_n hx hb dX8_area_38 rfl (lv_at hl 2 rfl) ?_
        refine W.widen (k := 1) (n := 6) (by decide) (by decide) ?_
        exact vx_ret (r_lret hx hb hr hlocks hK hI hS (Qp := Q) h dX8_area_39)
      · replace h := h.2 c5
        refine lv_lload_n hx hb dX8_area_22 rfl (lv_at hl 2 rfl) ?_
        refine lv_aload_n hx hb dX8_area_23 rfl (lv_at hl 0 rfl) ?_
        refine lv_iload_n hx hb dX8_area_24 rfl (lv_at hl 1 rfl) ?_
        refine lv_iload hx hb dX8_area_25 (lv_at hl 3 rfl) ?_
        refine r_calll (va_runV (As := [.int (iI a0), .int (iI v4x10)]) (rest := [.long (lI v2x10)]) ⟨hx, hb, hml, hown, hts⟩ (m8_influenceOnMoment l G hv_this _ st a0 v4x10 h) (cwV 2 hts gX8_area_X8_influenceOnMoment rfl rfl rfl hd8_influenceOnMoment ⟨Nat.le_of_ble_eq_true rfl, Nat.le_of_ble_eq_true rfl⟩) (pre_V hK hX hI hA hS hv_this rfl rfl [.int (iI a0), .int (iI v4x10)]) rfl rfl hl.1 rfl (lv_room (Nat.le_of_ble_eq_true rfl)) dX8_area_27 ⟨Nat.le_of_ble_eq_true rfl, Nat.le_of_ble_eq_true rfl⟩) hS (fun z6 st7 h H locs hI hS => ?_)
        refine r_ladd hx hb dX8_area_30 ?_
        refine r_topl (fun x8 hx8 => ?_)
        replace h := h x8 hx8
        refine lv_lstore_n (lv' := [(2, .long (lI x8)), (0, .ref (G.2.2.1 8 0)), (1, .int (iI a0)), (4, .int (iI v4x10))]) hx hb dX8_area_31 rfl hl (by decide) rfl (fun ls hl => ?_)
        obtain ⟨x9, hx9⟩ : ∃ z : Int, z = v4x10 + 1 := ⟨_, rfl⟩
        replace h := h x9 hx9
        refine lv_iinc (v := iI x9) (lv' := [(4, .int (iI x9)), (2, .long (lI x8)), (0, .ref (G.2.2.1 8 0)), (1, .int (iI a0))]) hx hb dX8_area_32 hl (k := 3) rfl (by rw [hx9]; exact iI_add _ _) (by decide) rfl (fun ls hl => ?_)
        refine lv_goto (tgt := 10) hx hb dX8_area_35 (by decide) ?_
        exact ih10 st7 x8 x9 _ _ ls hI hS (lv_sub hl [2, 3, 1, 0] rfl) h
  unfold f8_area at h
  refine lv_aload_n hx hb dX8_area_0 rfl (lv_at hl 0 rfl) ?_
  refine lv_iload_n hx hb dX8_area_1 rfl (lv_at hl 1 rfl) ?_
  refine r_xcallv (vx_runV (As := [.int (iI a0)]) (rest := []) ⟨hx, hb, hml, hown, hts⟩ (m8_needPlace l G hfl hv_this _ _ st a0 h) (cwV 1 hts gX8_area_X8_needPlace rfl rfl rfl hd8_needPlace ⟨Nat.le_of_ble_eq_true rfl, Nat.le_of_ble_eq_true rfl⟩) (pre_V hK hX hI hA hS hv_this rfl rfl [.int (iI a0)]) rfl rfl hl.1 rfl (lv_room (Nat.le_of_ble_eq_true rfl)) dX8_area_2 ⟨Nat.le_of_ble_eq_true rfl, Nat.le_of_ble_eq_true rfl⟩) hS hE hlocks hK (by decide) (by decide) (fun st2 h H locs hI hS => ?_)
  refine r_lconst (z := 0) hx hb dX8_area_5 rfl ?_
  refine lv_lstore_n (lv' := [(2, .long (lI 0)), (0, .ref (G.2.2.1 8 0)), (1, .int (iI a0))]) hx hb dX8_area_6 rfl hl (by decide) rfl (fun ls hl => ?_)
  refine r_iconst (n := 0) hx hb dX8_area_7 ?_
  refine lv_istore (lv' := [(4, .int (iI 0)), (2, .long (lI 0)), (0, .ref (G.2.2.1 8 0)), (1, .int (iI a0))]) hx hb dX8_area_8 hl (by decide) rfl (fun ls hl => ?_)
  obtain ⟨kk, h⟩ := h
  exact L10 kk st2 0 0 _ _ ls hI hS (lv_sub hl [2, 3, 1, 0] rfl) h
theorem hd8_still : yX8_still.cls = RX8 ∧ yX8_still.cls ≠ "java/lang/invoke/MethodHandle" ∧ yX8_still.cls ≠ "java/lang/invoke/VarHandle" ∧ (parseMethodDescriptor yX8_still.desc).map (fun d => d.parameters.length) = some 1 := by decide +kernel
set_option maxHeartbeats 4000000 in
set_option maxRecDepth 100000 in
theorem m8_still (l : Launch) (G : WG) (hfl : l.stackTraces = false)  (hv_this : vC 8 0) (Q : Int → St → Prop) (X : String → St → Prop) (st : St) (a0 : Int) (h : f8_still Q X st a0) : vx_Met l yX8_still wsX8_still ({ frames := 7, cells := 1, slots := 6, locals := 139 }) (PcM vC G st [.ref (G.2.2.1 8 0), .int (iI a0)]) (QiM vC G Q) (XM vC G X) 1 6 G.2.2.2.1 := by
  refine vx_ofW (cc := cX8_still) (maxL := 4) (ret := (some .int)) (by decide) rfl ?_
  intro p e s m args below meth c s₁ B hml hE hvv
  obtain ⟨rfl, hA, hI, hK, hX⟩ := hvv
  have hx := B.exec
  have hb := B.bytes
  have hr := B.returns
  have hts := atoms_spec (ws := wsX8_still) B.pre
  have hown : s.vm.findClass RX8 = some m.cls := findClass_of_methodNamed B.named
  have hlocks := B.notSynchronized
  have hS : va_S G.2.2.2.1 s.heap s.heap [] := va_S.rf
  have in0 : ∀ w ∈ wsX00, w ∈ wsX8_still := by decide +kernel
  have in8 : ∀ w ∈ wsX80, w ∈ wsX8_still := by decide +kernel
  have lk_23 := hts (.fieldLink RX8 23 "BeamLines" "present" "LBeamLines$Beam;") (by decide +kernel)
  have lk_79 := hts (.fieldLink RX8 79 "BeamLines$Beam" "length" "I") (by decide +kernel)
  have hl := lv_entry ([.ref (G.2.2.1 8 0), .int (iI a0)]) (n := 4) (Nat.le_of_ble_eq_true rfl)
  rw [lg_entry_eq]
  generalize (lg_sl ([.ref (G.2.2.1 8 0), .int (iI a0)]) ++ List.replicate (4 - (lg_sl ([.ref (G.2.2.1 8 0), .int (iI a0)])).length) Slot.unset).toArray = ls at hl ⊢
  have hl : lv_has ls 4 [(0, .ref (G.2.2.1 8 0)), (1, .int (iI a0))] := hl
  have L9 : ∀ (n9 : Nat), ∀ (st : St) (v2x9 : Int) (v3x9 : Int) (H : Heap) (locs : List Loc) (ls : Array Slot), Iv vC G st H → va_S G.2.2.2.1 s.heap H locs → lv_has ls 4 [(0, .ref (G.2.2.1 8 0)), (1, .int (iI a0)), (2, .int (iI v2x9)), (3, .int (iI v3x9))] → f8_still_l9 Q X a0 n9 st v2x9 v3x9 → W p l e (headSpec wsX8_still ({ frames := 7, cells := 1, slots := 6, locals := 139 })).room s m ([.ref (G.2.2.1 8 0), .int (iI a0)] : List Value).toArray below meth c H locs 1 6 (vx_MQ below (QiM vC G Q) (XM vC G X) ([.ref (G.2.2.1 8 0), .int (iI a0)] : List Value).toArray s 1 6 G.2.2.2.1) (F0 m 9 ls []) := by
    intro n9
    induction n9 with
    | zero =>
      intro st v2x9 v3x9 H locs ls hI hS hl h
      exact h.elim
    | succ n9 ih9 =>
      have J37 : ∀ (st : St) (v2x37 : Int) (v3x37 : Int) (H : Heap) (locs : List Loc) (ls : Array Slot), Iv vC G st H → va_S G.2.2.2.1 s.heap H locs → lv_has ls 4 [(0, .ref (G.2.2.1 8 0)), (1, .int (iI a0)), (2, .int (iI v2x37)), (3, .int (iI v3x37))] → f8_still_j37 (fun st v2x9 v3x9 => f8_still_l9 Q X a0 n9 st v2x9 v3x9) Q X a0 st v2x37 v3x37 → W p l e (headSpec wsX8_still ({ frames := 7, cells := 1, slots := 6, locals := 139 })).room s m ([.ref (G.2.2.1 8 0), .int (iI a0)] : List Value).toArray below meth c H locs 1 6 (vx_MQ below (QiM vC G Q) (XM vC G X) ([.ref (G.2.2.1 8 0), .int (iI a0)] : List Value).toArray s 1 6 G.2.2.2.1) (F0 m 37 ls []) := by
        intro st v2x37 v3x37 H locs ls hI hS hl h
        unfold f8_still_j37 at h
        obtain ⟨x11, hx11⟩ : ∃ z : Int, z = v3x37 + 1 := ⟨_, rfl⟩
        replace h := h x11 hx11
        refine lv_iinc (v := iI x11) (lv' := [(3, .int (iI x11)), (0, .ref (G.2.2.1 8 0)), (1, .int (iI a0)), (2, .int (iI v2x37))]) hx hb dX8_still_37 hl (k := 3) rfl (by rw [hx11]; exact iI_add _ _) (by decide) rfl (fun ls hl => ?_)
        refine lv_goto (tgt := 9) hx hb dX8_still_40 (by decide) ?_
        exact ih9 st v2x37 x11 _ _ ls hI hS (lv_sub hl [1, 2, 3, 0] rfl) h
      intro st v2x9 v3x9 H locs ls hI hS hl h
      unfold f8_still_l9 at h
      refine lv_iload_n hx hb dX8_still_9 rfl (lv_at hl 3 rfl) ?_
      refine lv_aload_n hx hb dX8_still_10 rfl (lv_at hl 0 rfl) ?_
      refine gg_8_2 hx hb hts in8 hown hK hI hv_this lk_23 dX8_still_11 ?_
      refine gg_0_0 hx hb hts in0 hown hK hI (vrC_8_2 hv_this) lk_79 dX8_still_14 ?_
      obtain ⟨g3, h⟩ := h
      obtain ⟨g4, h⟩ := h
      refine r_icmp_gt (tgt := 43) hx hb dX8_still_17 (by decide) g3 g4 (fun c5 => ?_) (fun c5 => ?_)
      · replace h := h.1 c5
        refine lv_iload_n hx hb dX8_still_43 rfl (lv_at hl 2 rfl) ?_
        refine W.widen (k := 1) (n := 6) (by decide) (by decide) ?_
        exact vx_ret (r_iret hx hb hr hlocks hK hI hS (Qp := Q) h dX8_still_44)
      · replace h := h.2 c5
        refine lv_aload_n hx hb dX8_still_20 rfl (lv_at hl 0 rfl) ?_
        refine lv_iload_n hx hb dX8_still_21 rfl (lv_at hl 1 rfl) ?_
        refine lv_iload_n hx hb dX8_still_22 rfl (lv_at hl 3 rfl) ?_
        refine r_calll (va_runV (As := [.int (iI a0), .int (iI v3x9)]) (rest := []) ⟨hx, hb, hml, hown, hts⟩ (m8_influenceOnMoment l G hv_this _ st a0 v3x9 h) (cwV 2 hts gX8_still_X8_influenceOnMoment rfl rfl rfl hd8_influenceOnMoment ⟨Nat.le_of_ble_eq_true rfl, Nat.le_of_ble_eq_true rfl⟩) (pre_V hK hX hI hA hS hv_this rfl rfl [.int (iI a0), .int (iI v3x9)]) rfl rfl hl.1 rfl (lv_room (Nat.le_of_ble_eq_true rfl)) dX8_still_23 ⟨Nat.le_of_ble_eq_true rfl, Nat.le_of_ble_eq_true rfl⟩) hS (fun z6 st7 h H locs hI hS => ?_)
        refine r_lconst (z := 0) hx hb dX8_still_26 rfl ?_
        obtain ⟨g8, h⟩ := h
        refine r_lcmp_ne (tgt := 37) hx hb dX8_still_27 dX8_still_28 (by decide) g8 (inL_mk rfl) (fun c9 => ?_) (fun c9 => ?_)
        · replace h := h.2 c9
          exact J37 st7 v2x9 v3x9 _ _ ls hI hS (lv_sub hl [0, 1, 2, 3] rfl) h
        · replace h := h.1 c9
          refine lv_iload_n hx hb dX8_still_31 rfl (lv_at hl 2 rfl) ?_
          refine r_iconst (n := 1) hx hb dX8_still_32 ?_
          refine lv_iload_n hx hb dX8_still_33 rfl (lv_at hl 3 rfl) ?_
          refine r_ishl hx hb dX8_still_34 ?_
          refine r_ior hx hb dX8_still_35 ?_
          refine r_topi (fun x10 hx10 => ?_)
          replace h := h x10 hx10
          refine lv_istore_n (lv' := [(2, .int (iI x10)), (0, .ref (G.2.2.1 8 0)), (1, .int (iI a0)), (3, .int (iI v3x9))]) hx hb dX8_still_36 rfl hl (by decide) rfl (fun ls hl => ?_)
          exact J37 st7 x10 v3x9 _ _ ls hI hS (lv_sub hl [1, 2, 0, 3] rfl) h
  unfold f8_still at h
  refine lv_aload_n hx hb dX8_still_0 rfl (lv_at hl 0 rfl) ?_
  refine lv_iload_n hx hb dX8_still_1 rfl (lv_at hl 1 rfl) ?_
  refine r_xcallv (vx_runV (As := [.int (iI a0)]) (rest := []) ⟨hx, hb, hml, hown, hts⟩ (m8_needPlace l G hfl hv_this _ _ st a0 h) (cwV 1 hts gX8_still_X8_needPlace rfl rfl rfl hd8_needPlace ⟨Nat.le_of_ble_eq_true rfl, Nat.le_of_ble_eq_true rfl⟩) (pre_V hK hX hI hA hS hv_this rfl rfl [.int (iI a0)]) rfl rfl hl.1 rfl (lv_room (Nat.le_of_ble_eq_true rfl)) dX8_still_2 ⟨Nat.le_of_ble_eq_true rfl, Nat.le_of_ble_eq_true rfl⟩) hS hE hlocks hK (by decide) (by decide) (fun st2 h H locs hI hS => ?_)
  refine r_iconst (n := 0) hx hb dX8_still_5 ?_
  refine lv_istore_n (lv' := [(2, .int (iI 0)), (0, .ref (G.2.2.1 8 0)), (1, .int (iI a0))]) hx hb dX8_still_6 rfl hl (by decide) rfl (fun ls hl => ?_)
  refine r_iconst (n := 0) hx hb dX8_still_7 ?_
  refine lv_istore_n (lv' := [(3, .int (iI 0)), (2, .int (iI 0)), (0, .ref (G.2.2.1 8 0)), (1, .int (iI a0))]) hx hb dX8_still_8 rfl hl (by decide) rfl (fun ls hl => ?_)
  obtain ⟨kk, h⟩ := h
  exact L9 kk st2 0 0 _ _ ls hI hS (lv_sub hl [2, 3, 1, 0] rfl) h
theorem hd8_influenceFromRight : yX8_influenceFromRight.cls = RX8 ∧ yX8_influenceFromRight.cls ≠ "java/lang/invoke/MethodHandle" ∧ yX8_influenceFromRight.cls ≠ "java/lang/invoke/VarHandle" ∧ (parseMethodDescriptor yX8_influenceFromRight.desc).map (fun d => d.parameters.length) = some 2 := by decide +kernel
set_option maxHeartbeats 4000000 in
set_option maxRecDepth 100000 in
theorem m8_influenceFromRight (l : Launch) (G : WG)   (hv_this : vC 8 0) (Q : Int → St → Prop) (st : St) (a0 : Int) (a1 : Int) (h : f8_influenceFromRight Q st a0 a1) : Met l yX8_influenceFromRight wsX8_influenceFromRight ({ frames := 2, cells := 0, slots := 0, locals := 42 }) (PcM vC G st [.ref (G.2.2.1 8 0), .int (iI a0), .int (iI a1)]) (QlM vC G Q) 0 0 G.2.2.2.1 := by
  refine Met.ofW (cc := cX8_influenceFromRight) (maxL := 7) (ret := (some .long)) (by decide) rfl ?_
  intro p e s m args below meth c s₁ B hml hvv
  obtain ⟨rfl, hA, hI, hK, hX⟩ := hvv
  have hx := B.exec
  have hb := B.bytes
  have hr := B.returns
  have hts := atoms_spec (ws := wsX8_influenceFromRight) B.pre
  have hown : s.vm.findClass RX8 = some m.cls := findClass_of_methodNamed B.named
  have hlocks := B.notSynchronized
  have hS : va_S G.2.2.2.1 s.heap s.heap [] := va_S.rf
  have in0 : ∀ w ∈ wsX00, w ∈ wsX8_influenceFromRight := by decide +kernel
  have in3 : ∀ w ∈ wsX30, w ∈ wsX8_influenceFromRight := by decide +kernel
  have in6 : ∀ w ∈ wsX60, w ∈ wsX8_influenceFromRight := by decide +kernel
  have in8 : ∀ w ∈ wsX80, w ∈ wsX8_influenceFromRight := by decide +kernel
  have lk_23 := hts (.fieldLink RX8 23 "BeamLines" "present" "LBeamLines$Beam;") (by decide +kernel)
  have lk_30 := hts (.fieldLink RX8 30 "BeamLines" "lines" "LBeamLines$Lines;") (by decide +kernel)
  have lk_85 := hts (.fieldLink RX8 85 "BeamLines$Beam" "supports" "LBeamLines$Row;") (by decide +kernel)
  have lk_135 := hts (.fieldLink RX8 135 "BeamLines$Row" "size" "I") (by decide +kernel)
  have lk_157 := hts (.fieldLink RX8 157 "BeamLines$Lines" "common" "J") (by decide +kernel)
  have hl := lv_entry ([.ref (G.2.2.1 8 0), .int (iI a0), .int (iI a1)]) (n := 7) (Nat.le_of_ble_eq_true rfl)
  rw [lg_entry_eq]
  generalize (lg_sl ([.ref (G.2.2.1 8 0), .int (iI a0), .int (iI a1)]) ++ List.replicate (7 - (lg_sl ([.ref (G.2.2.1 8 0), .int (iI a0), .int (iI a1)])).length) Slot.unset).toArray = ls at hl ⊢
  have hl : lv_has ls 7 [(0, .ref (G.2.2.1 8 0)), (1, .int (iI a0)), (2, .int (iI a1))] := hl
  have L5 : ∀ (n5 : Nat), ∀ (st : St) (v3x5 : Int) (v5x5 : Int) (H : Heap) (locs : List Loc) (ls : Array Slot), Iv vC G st H → va_S G.2.2.2.1 s.heap H locs → lv_has ls 7 [(0, .ref (G.2.2.1 8 0)), (1, .int (iI a0)), (2, .int (iI a1)), (3, .long (lI v3x5)), (5, .int (iI v5x5))] → f8_influenceFromRight_l5 Q a0 a1 n5 st v3x5 v5x5 → W p l e (headSpec wsX8_influenceFromRight ({ frames := 2, cells := 0, slots := 0, locals := 42 })).room s m ([.ref (G.2.2.1 8 0), .int (iI a0), .int (iI a1)] : List Value).toArray below meth c H locs 0 0 (MQ below (QlM vC G Q) ([.ref (G.2.2.1 8 0), .int (iI a0), .int (iI a1)] : List Value).toArray s 0 0 G.2.2.2.1) (F0 m 5 ls []) := by
    intro n5
    induction n5 with
    | zero =>
      intro st v3x5 v5x5 H locs ls hI hS hl h
      exact h.elim
    | succ n5 ih5 =>
      have J58 : ∀ (st : St) (v3x58 : Int) (v5x58 : Int) (H : Heap) (locs : List Loc) (ls : Array Slot), Iv vC G st H → va_S G.2.2.2.1 s.heap H locs → lv_has ls 7 [(0, .ref (G.2.2.1 8 0)), (1, .int (iI a0)), (2, .int (iI a1)), (3, .long (lI v3x58)), (5, .int (iI v5x58))] → f8_influenceFromRight_j58 (fun st v3x5 v5x5 => f8_influenceFromRight_l5 Q a0 a1 n5 st v3x5 v5x5) Q a0 a1 st v3x58 v5x58 → W p l e (headSpec wsX8_influenceFromRight ({ frames := 2, cells := 0, slots := 0, locals := 42 })).room s m ([.ref (G.2.2.1 8 0), .int (iI a0), .int (iI a1)] : List Value).toArray below meth c H locs 0 0 (MQ below (QlM vC G Q) ([.ref (G.2.2.1 8 0), .int (iI a0), .int (iI a1)] : List Value).toArray s 0 0 G.2.2.2.1) (F0 m 58 ls []) := by
        intro st v3x58 v5x58 H locs ls hI hS hl h
        unfold f8_influenceFromRight_j58 at h
        obtain ⟨x18, hx18⟩ : ∃ z : Int, z = v5x58 + 1 := ⟨_, rfl⟩
        replace h := h x18 hx18
        refine lv_iinc (v := iI x18) (lv' := [(5, .int (iI x18)), (0, .ref (G.2.2.1 8 0)), (1, .int (iI a0)), (2, .int (iI a1)), (3, .long (lI v3x58))]) hx hb dX8_influenceFromRight_58 hl (k := 4) rfl (by rw [hx18]; exact iI_add _ _) (by decide) rfl (fun ls hl => ?_)
        refine lv_goto (tgt := 5) hx hb dX8_influenceFromRight_61 (by decide) ?_
        exact ih5 st v3x58 x18 _ _ ls hI hS (lv_sub hl [1, 2, 3, 4, 0] rfl) h
      intro st v3x5 v5x5 H locs ls hI hS hl h
      unfold f8_influenceFromRight_l5 at h
      refine lv_iload hx hb dX8_influenceFromRight_5 (lv_at hl 4 rfl) ?_
      refine lv_aload_n hx hb dX8_influenceFromRight_7 rfl (lv_at hl 0 rfl) ?_
      refine gg_8_2 hx hb hts in8 hown hK hI hv_this lk_23 dX8_influenceFromRight_8 ?_
      refine gg_0_2 hx hb hts in0 hown hK hI (vrC_8_2 hv_this) lk_85 dX8_influenceFromRight_11 ?_
      refine gg_6_2 hx hb hts in6 hown hK hI (vrC_0_2 (vrC_8_2 hv_this)) lk_135 dX8_influenceFromRight_14 ?_
      obtain ⟨g1, h⟩ := h
      obtain ⟨g2, h⟩ := h
      refine r_icmp_ge (tgt := 64) hx hb dX8_influenceFromRight_17 (by decide) g1 g2 (fun c3 => ?_) (fun c3 => ?_)
      · replace h := h.1 c3
        refine lv_iload_n hx hb dX8_influenceFromRight_64 rfl (lv_at hl 2 rfl) ?_
        refine lv_iload_n hx hb dX8_influenceFromRight_65 rfl (lv_at hl 1 rfl) ?_
        obtain ⟨g4, h⟩ := h
        obtain ⟨g5, h⟩ := h
        refine r_icmp_le (tgt := 84) hx hb dX8_influenceFromRight_66 (by decide) g4 g5 (fun c6 => ?_) (fun c6 => ?_)
        · replace h := h.1 c6
          refine lv_lload_n hx hb dX8_influenceFromRight_84 rfl (lv_at hl 3 rfl) ?_
          exact r_lret hx hb hr hlocks hK hI hS (Qp := Q) h dX8_influenceFromRight_85
        · replace h := h.2 c6
          refine lv_lload_n hx hb dX8_influenceFromRight_69 rfl (lv_at hl 3 rfl) ?_
          refine lv_aload_n hx hb dX8_influenceFromRight_70 rfl (lv_at hl 0 rfl) ?_
          refine gg_8_3 hx hb hts in8 hown hK hI hv_this lk_30 dX8_influenceFromRight_71 ?_
          refine gg_3_4 hx hb hts in3 hown hK hI (vrC_8_3 hv_this) lk_157 dX8_influenceFromRight_74 ?_
          refine lv_iload_n hx hb dX8_influenceFromRight_77 rfl (lv_at hl 2 rfl) ?_
          refine lv_iload_n hx hb dX8_influenceFromRight_78 rfl (lv_at hl 1 rfl) ?_
          refine r_isub hx hb dX8_influenceFromRight_79 ?_
          obtain ⟨g7, h⟩ := h
          refine r_i2l hx hb dX8_influenceFromRight_80 g7 ?_
          refine r_lmul hx hb dX8_influenceFromRight_81 ?_
          refine r_lsub hx hb dX8_influenceFromRight_82 ?_
          refine r_topl (fun x8 hx8 => ?_)
          replace h := h x8 hx8
          refine lv_lstore_n (lv' := [(3, .long (lI x8)), (0, .ref (G.2.2.1 8 0)), (1, .int (iI a0)), (2, .int (iI a1)), (5, .int (iI v5x5))]) hx hb dX8_influenceFromRight_83 rfl hl (by decide) rfl (fun ls hl => ?_)
          refine lv_lload_n hx hb dX8_influenceFromRight_84 rfl (lv_at hl 0 rfl) ?_
          exact r_lret hx hb hr hlocks hK hI hS (Qp := Q) h dX8_influenceFromRight_85
      · replace h := h.2 c3
        refine lv_aload_n hx hb dX8_influenceFromRight_20 rfl (lv_at hl 0 rfl) ?_
        refine gg_8_2 hx hb hts in8 hown hK hI hv_this lk_23 dX8_influenceFromRight_21 ?_
        refine gg_0_2 hx hb hts in0 hown hK hI (vrC_8_2 hv_this) lk_85 dX8_influenceFromRight_24 ?_
        refine lv_iload hx hb dX8_influenceFromRight_27 (lv_at hl 4 rfl) ?_
        refine r_calli (va_runV (As := [.int (iI v5x5)]) (rest := []) ⟨hx, hb, hml, hown, hts⟩ (m6_first l G (4 * 0) (vrC_0_2 (vrC_8_2 hv_this)) _ st v5x5 h) (cwV 1 hts gX8_influenceFromRight_X6_first rfl rfl rfl hd6_first ⟨Nat.le_of_ble_eq_true rfl, Nat.le_of_ble_eq_true rfl⟩) (pre_V hK hX hI hA hS (vrC_0_2 (vrC_8_2 hv_this)) rfl rfl [.int (iI v5x5)]) rfl rfl hl.1 rfl (lv_room (Nat.le_of_ble_eq_true rfl)) dX8_influenceFromRight_29 ⟨Nat.le_of_ble_eq_true rfl, Nat.le_of_ble_eq_true rfl⟩) hS (fun z9 st10 h H locs hI hS => ?_)
        refine lv_iload_n hx hb dX8_influenceFromRight_32 rfl (lv_at hl 1 rfl) ?_
        refine r_isub hx hb dX8_influenceFromRight_33 ?_
        refine r_topi (fun x11 hx11 => ?_)
        replace h := h x11 hx11
        refine lv_istore (lv' := [(6, .int (iI x11)), (0, .ref (G.2.2.1 8 0)), (1, .int (iI a0)), (2, .int (iI a1)), (3, .long (lI v3x5)), (5, .int (iI v5x5))]) hx hb dX8_influenceFromRight_34 hl (by decide) rfl (fun ls hl => ?_)
        refine lv_iload hx hb dX8_influenceFromRight_36 (lv_at hl 0 rfl) ?_
        obtain ⟨g12, h⟩ := h
        refine r_if_le (tgt := 58) hx hb dX8_influenceFromRight_38 (by decide) g12 (fun c13 => ?_) (fun c13 => ?_)
        · replace h := h.1 c13
          exact J58 st10 v3x5 v5x5 _ _ ls hI hS (lv_sub hl [1, 2, 3, 4, 5] rfl) h
        · replace h := h.2 c13
          refine lv_lload_n hx hb dX8_influenceFromRight_41 rfl (lv_at hl 4 rfl) ?_
          refine lv_aload_n hx hb dX8_influenceFromRight_42 rfl (lv_at hl 1 rfl) ?_
          refine gg_8_3 hx hb hts in8 hown hK hI hv_this lk_30 dX8_influenceFromRight_43 ?_
          refine lv_iload hx hb dX8_influenceFromRight_46 (lv_at hl 5 rfl) ?_
          refine lv_iload_n hx hb dX8_influenceFromRight_48 rfl (lv_at hl 3 rfl) ?_
          refine r_calll (va_runV (As := [.int (iI v5x5), .int (iI a1)]) (rest := [.long (lI v3x5)]) ⟨hx, hb, hml, hown, hts⟩ (m3_at l G 0 (vrC_8_3 hv_this) _ st10 v5x5 a1 h) (cwV 2 hts gX8_influenceFromRight_X3_at rfl rfl rfl hd3_at ⟨Nat.le_of_ble_eq_true rfl, Nat.le_of_ble_eq_true rfl⟩) (pre_V hK hX hI hA hS (vrC_8_3 hv_this) rfl rfl [.int (iI v5x5), .int (iI a1)]) rfl rfl hl.1 rfl (lv_room (Nat.le_of_ble_eq_true rfl)) dX8_influenceFromRight_49 ⟨Nat.le_of_ble_eq_true rfl, Nat.le_of_ble_eq_true rfl⟩) hS (fun z14 st15 h H locs hI hS => ?_)
          refine lv_iload hx hb dX8_influenceFromRight_52 (lv_at hl 0 rfl) ?_
          obtain ⟨g16, h⟩ := h
          refine r_i2l hx hb dX8_influenceFromRight_54 g16 ?_
          refine r_lmul hx hb dX8_influenceFromRight_55 ?_
          refine r_ladd hx hb dX8_influenceFromRight_56 ?_
          refine r_topl (fun x17 hx17 => ?_)
          replace h := h x17 hx17
          refine lv_lstore_n (lv' := [(3, .long (lI x17)), (6, .int (iI x11)), (0, .ref (G.2.2.1 8 0)), (1, .int (iI a0)), (2, .int (iI a1)), (5, .int (iI v5x5))]) hx hb dX8_influenceFromRight_57 rfl hl (by decide) rfl (fun ls hl => ?_)
          exact J58 st15 x17 v5x5 _ _ ls hI hS (lv_sub hl [2, 3, 4, 0, 5] rfl) h
  unfold f8_influenceFromRight at h
  refine r_lconst (z := 0) hx hb dX8_influenceFromRight_0 rfl ?_
  refine lv_lstore_n (lv' := [(3, .long (lI 0)), (0, .ref (G.2.2.1 8 0)), (1, .int (iI a0)), (2, .int (iI a1))]) hx hb dX8_influenceFromRight_1 rfl hl (by decide) rfl (fun ls hl => ?_)
  refine r_iconst (n := 0) hx hb dX8_influenceFromRight_2 ?_
  refine lv_istore (lv' := [(5, .int (iI 0)), (3, .long (lI 0)), (0, .ref (G.2.2.1 8 0)), (1, .int (iI a0)), (2, .int (iI a1))]) hx hb dX8_influenceFromRight_3 hl (by decide) rfl (fun ls hl => ?_)
  obtain ⟨kk, h⟩ := h
  exact L5 kk st 0 0 _ _ ls hI hS (lv_sub hl [2, 3, 4, 1, 0] rfl) h
theorem hd8_gap : yX8_gap.cls = RX8 ∧ yX8_gap.cls ≠ "java/lang/invoke/MethodHandle" ∧ yX8_gap.cls ≠ "java/lang/invoke/VarHandle" ∧ (parseMethodDescriptor yX8_gap.desc).map (fun d => d.parameters.length) = some 2 := by decide +kernel
set_option maxHeartbeats 4000000 in
set_option maxRecDepth 100000 in
theorem m8_gap (l : Launch) (G : WG) (hfl : l.stackTraces = false)  (hv_this : vC 8 0) (Q : Int → St → Prop) (X : String → St → Prop) (st : St) (a0 : Int) (a1 : Int) (h : f8_gap Q X st a0 a1) : vx_Met l yX8_gap wsX8_gap ({ frames := 7, cells := 2, slots := 12, locals := 139 }) (PcM vC G st [.ref (G.2.2.1 8 0), .int (iI a0), .int (iI a1)]) (QlM vC G Q) (XM vC G X) 2 12 G.2.2.2.1 := by
  refine vx_ofW (cc := cX8_gap) (maxL := 3) (ret := (some .long)) (by decide) rfl ?_
  intro p e s m args below meth c s₁ B hml hE hvv
  obtain ⟨rfl, hA, hI, hK, hX⟩ := hvv
  have hx := B.exec
  have hb := B.bytes
  have hr := B.returns
  have hts := atoms_spec (ws := wsX8_gap) B.pre
  have hown : s.vm.findClass RX8 = some m.cls := findClass_of_methodNamed B.named
  have hlocks := B.notSynchronized
  have hS : va_S G.2.2.2.1 s.heap s.heap [] := va_S.rf
  have hl := lv_entry ([.ref (G.2.2.1 8 0), .int (iI a0), .int (iI a1)]) (n := 3) (Nat.le_of_ble_eq_true rfl)
  rw [lg_entry_eq]
  generalize (lg_sl ([.ref (G.2.2.1 8 0), .int (iI a0), .int (iI a1)]) ++ List.replicate (3 - (lg_sl ([.ref (G.2.2.1 8 0), .int (iI a0), .int (iI a1)])).length) Slot.unset).toArray = ls at hl ⊢
  have hl : lv_has ls 3 [(0, .ref (G.2.2.1 8 0)), (1, .int (iI a0)), (2, .int (iI a1))] := hl
  unfold f8_gap at h
  refine lv_aload_n hx hb dX8_gap_0 rfl (lv_at hl 0 rfl) ?_
  refine lv_iload_n hx hb dX8_gap_1 rfl (lv_at hl 1 rfl) ?_
  refine r_xcallv (vx_runV (As := [.int (iI a0)]) (rest := []) ⟨hx, hb, hml, hown, hts⟩ (m8_needPlace l G hfl hv_this _ _ st a0 h) (cwV 1 hts gX8_gap_X8_needPlace rfl rfl rfl hd8_needPlace ⟨Nat.le_of_ble_eq_true rfl, Nat.le_of_ble_eq_true rfl⟩) (pre_V hK hX hI hA hS hv_this rfl rfl [.int (iI a0)]) rfl rfl hl.1 rfl (lv_room (Nat.le_of_ble_eq_true rfl)) dX8_gap_2 ⟨Nat.le_of_ble_eq_true rfl, Nat.le_of_ble_eq_true rfl⟩) hS hE hlocks hK (by decide) (by decide) (fun st2 h H locs hI hS => ?_)
  refine lv_aload_n hx hb dX8_gap_5 rfl (lv_at hl 0 rfl) ?_
  refine lv_iload_n hx hb dX8_gap_6 rfl (lv_at hl 2 rfl) ?_
  refine r_xcallv (vx_runV (As := [.int (iI a1)]) (rest := []) ⟨hx, hb, hml, hown, hts⟩ (m8_needPlace l G hfl hv_this _ _ st2 a1 h) (cwV 1 hts gX8_gap_X8_needPlace rfl rfl rfl hd8_needPlace ⟨Nat.le_of_ble_eq_true rfl, Nat.le_of_ble_eq_true rfl⟩) (pre_V hK hX hI hA hS hv_this rfl rfl [.int (iI a1)]) rfl rfl hl.1 rfl (lv_room (Nat.le_of_ble_eq_true rfl)) dX8_gap_7 ⟨Nat.le_of_ble_eq_true rfl, Nat.le_of_ble_eq_true rfl⟩) hS hE hlocks hK (by decide) (by decide) (fun st4 h H locs hI hS => ?_)
  refine lv_aload_n hx hb dX8_gap_10 rfl (lv_at hl 0 rfl) ?_
  refine lv_iload_n hx hb dX8_gap_11 rfl (lv_at hl 1 rfl) ?_
  refine lv_iload_n hx hb dX8_gap_12 rfl (lv_at hl 2 rfl) ?_
  refine r_calll (va_runV (As := [.int (iI a0), .int (iI a1)]) (rest := []) ⟨hx, hb, hml, hown, hts⟩ (m8_influenceOnMoment l G hv_this _ st4 a0 a1 h) (cwV 2 hts gX8_gap_X8_influenceOnMoment rfl rfl rfl hd8_influenceOnMoment ⟨Nat.le_of_ble_eq_true rfl, Nat.le_of_ble_eq_true rfl⟩) (pre_V hK hX hI hA hS hv_this rfl rfl [.int (iI a0), .int (iI a1)]) rfl rfl hl.1 rfl (lv_room (Nat.le_of_ble_eq_true rfl)) dX8_gap_13 ⟨Nat.le_of_ble_eq_true rfl, Nat.le_of_ble_eq_true rfl⟩) hS (fun z5 st6 h H locs hI hS => ?_)
  refine lv_aload_n hx hb dX8_gap_16 rfl (lv_at hl 0 rfl) ?_
  refine lv_iload_n hx hb dX8_gap_17 rfl (lv_at hl 1 rfl) ?_
  refine lv_iload_n hx hb dX8_gap_18 rfl (lv_at hl 2 rfl) ?_
  refine r_calll (va_runV (As := [.int (iI a0), .int (iI a1)]) (rest := [.long (lI z5)]) ⟨hx, hb, hml, hown, hts⟩ (m8_influenceFromRight l G hv_this _ st6 a0 a1 h) (cwV 2 hts gX8_gap_X8_influenceFromRight rfl rfl rfl hd8_influenceFromRight ⟨Nat.le_of_ble_eq_true rfl, Nat.le_of_ble_eq_true rfl⟩) (pre_V hK hX hI hA hS hv_this rfl rfl [.int (iI a0), .int (iI a1)]) rfl rfl hl.1 rfl (lv_room (Nat.le_of_ble_eq_true rfl)) dX8_gap_19 ⟨Nat.le_of_ble_eq_true rfl, Nat.le_of_ble_eq_true rfl⟩) hS (fun z7 st8 h H locs hI hS => ?_)
  refine r_lsub hx hb dX8_gap_22 ?_
  refine W.widen (k := 2) (n := 12) (by decide) (by decide) ?_
  exact vx_ret (r_lret hx hb hr hlocks hK hI hS (Qp := Q) h dX8_gap_23)
theorem hd8_needHead : yX8_needHead.cls = RX8 ∧ yX8_needHead.cls ≠ "java/lang/invoke/MethodHandle" ∧ yX8_needHead.cls ≠ "java/lang/invoke/VarHandle" ∧ (parseMethodDescriptor yX8_needHead.desc).map (fun d => d.parameters.length) = some 1 := by decide +kernel
set_option maxHeartbeats 4000000 in
set_option maxRecDepth 100000 in
theorem m8_needHead (l : Launch) (G : WG) (hfl : l.stackTraces = false)  (hv_this : vC 8 0) (Q : St → Prop) (X : String → St → Prop) (st : St) (a0 : Int) (h : f8_needHead Q X st a0) : vx_Met l yX8_needHead wsX8_needHead ({ frames := 7, cells := 1, slots := 6, locals := 112 }) (PcM vC G st [.ref (G.2.2.1 8 0), .int (iI a0)]) (QvM vC G Q) (XM vC G X) 1 6 G.2.2.2.1 := by
  refine vx_ofW (cc := cX8_needHead) (maxL := 2) (ret := none) (by decide) rfl ?_
  intro p e s m args below meth c s₁ B hml hE hvv
  obtain ⟨rfl, hA, hI, hK, hX⟩ := hvv
  have hx := B.exec
  have hb := B.bytes
  have hr := B.returns
  have hts := atoms_spec (ws := wsX8_needHead) B.pre
  have hown : s.vm.findClass RX8 = some m.cls := findClass_of_methodNamed B.named
  have hlocks := B.notSynchronized
  have hS : va_S G.2.2.2.1 s.heap s.heap [] := va_S.rf
  have in8 : ∀ w ∈ wsX80, w ∈ wsX8_needHead := by decide +kernel
  have lk_23 := hts (.fieldLink RX8 23 "BeamLines" "present" "LBeamLines$Beam;") (by decide +kernel)
  have hl := lv_entry ([.ref (G.2.2.1 8 0), .int (iI a0)]) (n := 2) (Nat.le_of_ble_eq_true rfl)
  rw [lg_entry_eq]
  generalize (lg_sl ([.ref (G.2.2.1 8 0), .int (iI a0)]) ++ List.replicate (2 - (lg_sl ([.ref (G.2.2.1 8 0), .int (iI a0)])).length) Slot.unset).toArray = ls at hl ⊢
  have hl : lv_has ls 2 [(0, .ref (G.2.2.1 8 0)), (1, .int (iI a0))] := hl
  unfold f8_needHead at h
  refine lv_aload_n hx hb dX8_needHead_0 rfl (lv_at hl 0 rfl) ?_
  refine lv_iload_n hx hb dX8_needHead_1 rfl (lv_at hl 1 rfl) ?_
  refine r_iconst (n := (-1)) hx hb dX8_needHead_2 ?_
  refine lv_aload_n hx hb dX8_needHead_3 rfl (lv_at hl 0 rfl) ?_
  refine gg_8_2 hx hb hts in8 hown hK hI hv_this lk_23 dX8_needHead_4 ?_
  refine r_calli (va_runV (As := []) (rest := [.int (iI (-1)), .int (iI a0), .ref (G.2.2.1 8 0)]) ⟨hx, hb, hml, hown, hts⟩ (m0_lastHead l G 0 (vrC_8_2 hv_this) _ st h) (cwV 0 hts gX8_needHead_X0_lastHead rfl rfl rfl hd0_lastHead ⟨Nat.le_of_ble_eq_true rfl, Nat.le_of_ble_eq_true rfl⟩) (pre_V hK hX hI hA hS (vrC_8_2 hv_this) rfl rfl []) rfl rfl hl.1 rfl (lv_room (Nat.le_of_ble_eq_true rfl)) dX8_needHead_7 ⟨Nat.le_of_ble_eq_true rfl, Nat.le_of_ble_eq_true rfl⟩) hS (fun z1 st2 h H locs hI hS => ?_)
  refine r_xcallv (vx_runV (As := [.int (iI a0), .int (iI (-1)), .int (iI z1)]) (rest := []) ⟨hx, hb, hml, hown, hts⟩ (m8_needRange l G hfl hv_this _ _ st2 a0 (-1) z1 h) (cwV 3 hts gX8_needHead_X8_needRange rfl rfl rfl hd8_needRange ⟨Nat.le_of_ble_eq_true rfl, Nat.le_of_ble_eq_true rfl⟩) (pre_V hK hX hI hA hS hv_this rfl rfl [.int (iI a0), .int (iI (-1)), .int (iI z1)]) rfl rfl hl.1 rfl (lv_room (Nat.le_of_ble_eq_true rfl)) dX8_needHead_10 ⟨Nat.le_of_ble_eq_true rfl, Nat.le_of_ble_eq_true rfl⟩) hS hE hlocks hK (by decide) (by decide) (fun st4 h H locs hI hS => ?_)
  refine W.widen (k := 1) (n := 6) (by decide) (by decide) ?_
  exact vx_ret (r_vret hx hb hr hlocks hK hI hS (Qp := Q) h dX8_needHead_13)
theorem hd8_reaction : yX8_reaction.cls = RX8 ∧ yX8_reaction.cls ≠ "java/lang/invoke/MethodHandle" ∧ yX8_reaction.cls ≠ "java/lang/invoke/VarHandle" ∧ (parseMethodDescriptor yX8_reaction.desc).map (fun d => d.parameters.length) = some 2 := by decide +kernel
set_option maxHeartbeats 4000000 in
set_option maxRecDepth 100000 in
theorem m8_reaction (l : Launch) (G : WG) (hfl : l.stackTraces = false)  (hv_this : vC 8 0) (Q : Int → St → Prop) (X : String → St → Prop) (st : St) (a0 : Int) (a1 : Int) (h : f8_reaction Q X st a0 a1) : vx_Met l yX8_reaction wsX8_reaction ({ frames := 8, cells := 2, slots := 12, locals := 133 }) (PcM vC G st [.ref (G.2.2.1 8 0), .int (iI a0), .int (iI a1)]) (QlM vC G Q) (XM vC G X) 2 12 G.2.2.2.1 := by
  refine vx_ofW (cc := cX8_reaction) (maxL := 3) (ret := (some .long)) (by decide) rfl ?_
  intro p e s m args below meth c s₁ B hml hE hvv
  obtain ⟨rfl, hA, hI, hK, hX⟩ := hvv
  have hx := B.exec
  have hb := B.bytes
  have hr := B.returns
  have hts := atoms_spec (ws := wsX8_reaction) B.pre
  have hown : s.vm.findClass RX8 = some m.cls := findClass_of_methodNamed B.named
  have hlocks := B.notSynchronized
  have hS : va_S G.2.2.2.1 s.heap s.heap [] := va_S.rf
  have in0 : ∀ w ∈ wsX00, w ∈ wsX8_reaction := by decide +kernel
  have in8 : ∀ w ∈ wsX80, w ∈ wsX8_reaction := by decide +kernel
  have lk_23 := hts (.fieldLink RX8 23 "BeamLines" "present" "LBeamLines$Beam;") (by decide +kernel)
  have lk_30 := hts (.fieldLink RX8 30 "BeamLines" "lines" "LBeamLines$Lines;") (by decide +kernel)
  have lk_43 := hts (.fieldLink RX8 43 "BeamLines" "forces" "LBeamLines$Forces;") (by decide +kernel)
  have lk_85 := hts (.fieldLink RX8 85 "BeamLines$Beam" "supports" "LBeamLines$Row;") (by decide +kernel)
  have hl := lv_entry ([.ref (G.2.2.1 8 0), .int (iI a0), .int (iI a1)]) (n := 3) (Nat.le_of_ble_eq_true rfl)
  rw [lg_entry_eq]
  generalize (lg_sl ([.ref (G.2.2.1 8 0), .int (iI a0), .int (iI a1)]) ++ List.replicate (3 - (lg_sl ([.ref (G.2.2.1 8 0), .int (iI a0), .int (iI a1)])).length) Slot.unset).toArray = ls at hl ⊢
  have hl : lv_has ls 3 [(0, .ref (G.2.2.1 8 0)), (1, .int (iI a0)), (2, .int (iI a1))] := hl
  unfold f8_reaction at h
  refine lv_aload_n hx hb dX8_reaction_0 rfl (lv_at hl 0 rfl) ?_
  refine lv_aload_n hx hb dX8_reaction_1 rfl (lv_at hl 0 rfl) ?_
  refine gg_8_2 hx hb hts in8 hown hK hI hv_this lk_23 dX8_reaction_2 ?_
  refine gg_0_2 hx hb hts in0 hown hK hI (vrC_8_2 hv_this) lk_85 dX8_reaction_5 ?_
  refine lv_iload_n hx hb dX8_reaction_8 rfl (lv_at hl 1 rfl) ?_
  refine r_xcallv (vx_runV (As := [.ref (G.2.2.1 6 (4 * 0)), .int (iI a0)]) (rest := []) ⟨hx, hb, hml, hown, hts⟩ (m8_needNumber l G hfl (4 * 0) hv_this (vrC_0_2 (vrC_8_2 hv_this)) _ _ st a0 h) (cwV 2 hts gX8_reaction_X8_needNumber rfl rfl rfl hd8_needNumber ⟨Nat.le_of_ble_eq_true rfl, Nat.le_of_ble_eq_true rfl⟩) (pre_V hK hX hI hA hS hv_this rfl rfl [.ref (G.2.2.1 6 (4 * 0)), .int (iI a0)]) rfl rfl hl.1 rfl (lv_room (Nat.le_of_ble_eq_true rfl)) dX8_reaction_9 ⟨Nat.le_of_ble_eq_true rfl, Nat.le_of_ble_eq_true rfl⟩) hS hE hlocks hK (by decide) (by decide) (fun st2 h H locs hI hS => ?_)
  refine lv_aload_n hx hb dX8_reaction_12 rfl (lv_at hl 0 rfl) ?_
  refine lv_iload_n hx hb dX8_reaction_13 rfl (lv_at hl 2 rfl) ?_
  refine r_xcallv (vx_runV (As := [.int (iI a1)]) (rest := []) ⟨hx, hb, hml, hown, hts⟩ (m8_needHead l G hfl hv_this _ _ st2 a1 h) (cwV 1 hts gX8_reaction_X8_needHead rfl rfl rfl hd8_needHead ⟨Nat.le_of_ble_eq_true rfl, Nat.le_of_ble_eq_true rfl⟩) (pre_V hK hX hI hA hS hv_this rfl rfl [.int (iI a1)]) rfl rfl hl.1 rfl (lv_room (Nat.le_of_ble_eq_true rfl)) dX8_reaction_14 ⟨Nat.le_of_ble_eq_true rfl, Nat.le_of_ble_eq_true rfl⟩) hS hE hlocks hK (by decide) (by decide) (fun st4 h H locs hI hS => ?_)
  refine lv_aload_n hx hb dX8_reaction_17 rfl (lv_at hl 0 rfl) ?_
  refine gg_8_6 hx hb hts in8 hown hK hI hv_this lk_43 dX8_reaction_18 ?_
  refine lv_aload_n hx hb dX8_reaction_21 rfl (lv_at hl 0 rfl) ?_
  refine gg_8_2 hx hb hts in8 hown hK hI hv_this lk_23 dX8_reaction_22 ?_
  refine lv_aload_n hx hb dX8_reaction_25 rfl (lv_at hl 0 rfl) ?_
  refine gg_8_3 hx hb hts in8 hown hK hI hv_this lk_30 dX8_reaction_26 ?_
  refine lv_iload_n hx hb dX8_reaction_29 rfl (lv_at hl 2 rfl) ?_
  refine r_callv (va_runV (As := [.ref (G.2.2.1 0 0), .ref (G.2.2.1 3 0), .int (iI a1)]) (rest := []) ⟨hx, hb, hml, hown, hts⟩ (m1_underAll l G 0 0 0 (vrC_8_6 hv_this) (vrC_8_2 hv_this) (vrC_8_3 hv_this) _ st4 a1 h) (cwV 3 hts gX8_reaction_X1_underAll rfl rfl rfl hd1_underAll ⟨Nat.le_of_ble_eq_true rfl, Nat.le_of_ble_eq_true rfl⟩) (pre_V hK hX hI hA hS (vrC_8_6 hv_this) rfl rfl [.ref (G.2.2.1 0 0), .ref (G.2.2.1 3 0), .int (iI a1)]) rfl rfl hl.1 rfl (lv_room (Nat.le_of_ble_eq_true rfl)) dX8_reaction_30 ⟨Nat.le_of_ble_eq_true rfl, Nat.le_of_ble_eq_true rfl⟩) hS (fun st6 h H locs hI hS => ?_)
  refine lv_aload_n hx hb dX8_reaction_33 rfl (lv_at hl 0 rfl) ?_
  refine gg_8_6 hx hb hts in8 hown hK hI hv_this lk_43 dX8_reaction_34 ?_
  refine lv_iload_n hx hb dX8_reaction_37 rfl (lv_at hl 1 rfl) ?_
  refine r_calll (va_runV (As := [.int (iI a0)]) (rest := []) ⟨hx, hb, hml, hown, hts⟩ (m1_reactionOf l G 0 (vrC_8_6 hv_this) _ st6 a0 h) (cwV 1 hts gX8_reaction_X1_reactionOf rfl rfl rfl hd1_reactionOf ⟨Nat.le_of_ble_eq_true rfl, Nat.le_of_ble_eq_true rfl⟩) (pre_V hK hX hI hA hS (vrC_8_6 hv_this) rfl rfl [.int (iI a0)]) rfl rfl hl.1 rfl (lv_room (Nat.le_of_ble_eq_true rfl)) dX8_reaction_38 ⟨Nat.le_of_ble_eq_true rfl, Nat.le_of_ble_eq_true rfl⟩) hS (fun z7 st8 h H locs hI hS => ?_)
  refine W.widen (k := 2) (n := 12) (by decide) (by decide) ?_
  exact vx_ret (r_lret hx hb hr hlocks hK hI hS (Qp := Q) h dX8_reaction_41)
theorem hd8_shear : yX8_shear.cls = RX8 ∧ yX8_shear.cls ≠ "java/lang/invoke/MethodHandle" ∧ yX8_shear.cls ≠ "java/lang/invoke/VarHandle" ∧ (parseMethodDescriptor yX8_shear.desc).map (fun d => d.parameters.length) = some 2 := by decide +kernel
set_option maxHeartbeats 4000000 in
set_option maxRecDepth 100000 in
theorem m8_shear (l : Launch) (G : WG) (hfl : l.stackTraces = false)  (hv_this : vC 8 0) (Q : Int → St → Prop) (X : String → St → Prop) (st : St) (a0 : Int) (a1 : Int) (h : f8_shear Q X st a0 a1) : vx_Met l yX8_shear wsX8_shear ({ frames := 8, cells := 2, slots := 12, locals := 133 }) (PcM vC G st [.ref (G.2.2.1 8 0), .int (iI a0), .int (iI a1)]) (QlM vC G Q) (XM vC G X) 2 12 G.2.2.2.1 := by
  refine vx_ofW (cc := cX8_shear) (maxL := 3) (ret := (some .long)) (by decide) rfl ?_
  intro p e s m args below meth c s₁ B hml hE hvv
  obtain ⟨rfl, hA, hI, hK, hX⟩ := hvv
  have hx := B.exec
  have hb := B.bytes
  have hr := B.returns
  have hts := atoms_spec (ws := wsX8_shear) B.pre
  have hown : s.vm.findClass RX8 = some m.cls := findClass_of_methodNamed B.named
  have hlocks := B.notSynchronized
  have hS : va_S G.2.2.2.1 s.heap s.heap [] := va_S.rf
  have in8 : ∀ w ∈ wsX80, w ∈ wsX8_shear := by decide +kernel
  have lk_23 := hts (.fieldLink RX8 23 "BeamLines" "present" "LBeamLines$Beam;") (by decide +kernel)
  have lk_30 := hts (.fieldLink RX8 30 "BeamLines" "lines" "LBeamLines$Lines;") (by decide +kernel)
  have lk_43 := hts (.fieldLink RX8 43 "BeamLines" "forces" "LBeamLines$Forces;") (by decide +kernel)
  have hl := lv_entry ([.ref (G.2.2.1 8 0), .int (iI a0), .int (iI a1)]) (n := 3) (Nat.le_of_ble_eq_true rfl)
  rw [lg_entry_eq]
  generalize (lg_sl ([.ref (G.2.2.1 8 0), .int (iI a0), .int (iI a1)]) ++ List.replicate (3 - (lg_sl ([.ref (G.2.2.1 8 0), .int (iI a0), .int (iI a1)])).length) Slot.unset).toArray = ls at hl ⊢
  have hl : lv_has ls 3 [(0, .ref (G.2.2.1 8 0)), (1, .int (iI a0)), (2, .int (iI a1))] := hl
  unfold f8_shear at h
  refine lv_aload_n hx hb dX8_shear_0 rfl (lv_at hl 0 rfl) ?_
  refine lv_iload_n hx hb dX8_shear_1 rfl (lv_at hl 1 rfl) ?_
  refine r_xcallv (vx_runV (As := [.int (iI a0)]) (rest := []) ⟨hx, hb, hml, hown, hts⟩ (m8_needField l G hfl hv_this _ _ st a0 h) (cwV 1 hts gX8_shear_X8_needField rfl rfl rfl hd8_needField ⟨Nat.le_of_ble_eq_true rfl, Nat.le_of_ble_eq_true rfl⟩) (pre_V hK hX hI hA hS hv_this rfl rfl [.int (iI a0)]) rfl rfl hl.1 rfl (lv_room (Nat.le_of_ble_eq_true rfl)) dX8_shear_2 ⟨Nat.le_of_ble_eq_true rfl, Nat.le_of_ble_eq_true rfl⟩) hS hE hlocks hK (by decide) (by decide) (fun st2 h H locs hI hS => ?_)
  refine lv_aload_n hx hb dX8_shear_5 rfl (lv_at hl 0 rfl) ?_
  refine lv_iload_n hx hb dX8_shear_6 rfl (lv_at hl 2 rfl) ?_
  refine r_xcallv (vx_runV (As := [.int (iI a1)]) (rest := []) ⟨hx, hb, hml, hown, hts⟩ (m8_needHead l G hfl hv_this _ _ st2 a1 h) (cwV 1 hts gX8_shear_X8_needHead rfl rfl rfl hd8_needHead ⟨Nat.le_of_ble_eq_true rfl, Nat.le_of_ble_eq_true rfl⟩) (pre_V hK hX hI hA hS hv_this rfl rfl [.int (iI a1)]) rfl rfl hl.1 rfl (lv_room (Nat.le_of_ble_eq_true rfl)) dX8_shear_7 ⟨Nat.le_of_ble_eq_true rfl, Nat.le_of_ble_eq_true rfl⟩) hS hE hlocks hK (by decide) (by decide) (fun st4 h H locs hI hS => ?_)
  refine lv_aload_n hx hb dX8_shear_10 rfl (lv_at hl 0 rfl) ?_
  refine gg_8_6 hx hb hts in8 hown hK hI hv_this lk_43 dX8_shear_11 ?_
  refine lv_aload_n hx hb dX8_shear_14 rfl (lv_at hl 0 rfl) ?_
  refine gg_8_2 hx hb hts in8 hown hK hI hv_this lk_23 dX8_shear_15 ?_
  refine lv_aload_n hx hb dX8_shear_18 rfl (lv_at hl 0 rfl) ?_
  refine gg_8_3 hx hb hts in8 hown hK hI hv_this lk_30 dX8_shear_19 ?_
  refine lv_iload_n hx hb dX8_shear_22 rfl (lv_at hl 2 rfl) ?_
  refine r_callv (va_runV (As := [.ref (G.2.2.1 0 0), .ref (G.2.2.1 3 0), .int (iI a1)]) (rest := []) ⟨hx, hb, hml, hown, hts⟩ (m1_underAll l G 0 0 0 (vrC_8_6 hv_this) (vrC_8_2 hv_this) (vrC_8_3 hv_this) _ st4 a1 h) (cwV 3 hts gX8_shear_X1_underAll rfl rfl rfl hd1_underAll ⟨Nat.le_of_ble_eq_true rfl, Nat.le_of_ble_eq_true rfl⟩) (pre_V hK hX hI hA hS (vrC_8_6 hv_this) rfl rfl [.ref (G.2.2.1 0 0), .ref (G.2.2.1 3 0), .int (iI a1)]) rfl rfl hl.1 rfl (lv_room (Nat.le_of_ble_eq_true rfl)) dX8_shear_23 ⟨Nat.le_of_ble_eq_true rfl, Nat.le_of_ble_eq_true rfl⟩) hS (fun st6 h H locs hI hS => ?_)
  refine lv_aload_n hx hb dX8_shear_26 rfl (lv_at hl 0 rfl) ?_
  refine gg_8_6 hx hb hts in8 hown hK hI hv_this lk_43 dX8_shear_27 ?_
  refine lv_iload_n hx hb dX8_shear_30 rfl (lv_at hl 1 rfl) ?_
  refine r_calll (va_runV (As := [.int (iI a0)]) (rest := []) ⟨hx, hb, hml, hown, hts⟩ (m1_shearIn l G 0 (vrC_8_6 hv_this) _ st6 a0 h) (cwV 1 hts gX8_shear_X1_shearIn rfl rfl rfl hd1_shearIn ⟨Nat.le_of_ble_eq_true rfl, Nat.le_of_ble_eq_true rfl⟩) (pre_V hK hX hI hA hS (vrC_8_6 hv_this) rfl rfl [.int (iI a0)]) rfl rfl hl.1 rfl (lv_room (Nat.le_of_ble_eq_true rfl)) dX8_shear_31 ⟨Nat.le_of_ble_eq_true rfl, Nat.le_of_ble_eq_true rfl⟩) hS (fun z7 st8 h H locs hI hS => ?_)
  refine W.widen (k := 2) (n := 12) (by decide) (by decide) ?_
  exact vx_ret (r_lret hx hb hr hlocks hK hI hS (Qp := Q) h dX8_shear_34)
theorem hd8_moment : yX8_moment.cls = RX8 ∧ yX8_moment.cls ≠ "java/lang/invoke/MethodHandle" ∧ yX8_moment.cls ≠ "java/lang/invoke/VarHandle" ∧ (parseMethodDescriptor yX8_moment.desc).map (fun d => d.parameters.length) = some 2 := by decide +kernel
set_option maxHeartbeats 4000000 in
set_option maxRecDepth 100000 in
theorem m8_moment (l : Launch) (G : WG) (hfl : l.stackTraces = false)  (hv_this : vC 8 0) (Q : Int → St → Prop) (X : String → St → Prop) (st : St) (a0 : Int) (a1 : Int) (h : f8_moment Q X st a0 a1) : vx_Met l yX8_moment wsX8_moment ({ frames := 8, cells := 2, slots := 12, locals := 133 }) (PcM vC G st [.ref (G.2.2.1 8 0), .int (iI a0), .int (iI a1)]) (QlM vC G Q) (XM vC G X) 2 12 G.2.2.2.1 := by
  refine vx_ofW (cc := cX8_moment) (maxL := 3) (ret := (some .long)) (by decide) rfl ?_
  intro p e s m args below meth c s₁ B hml hE hvv
  obtain ⟨rfl, hA, hI, hK, hX⟩ := hvv
  have hx := B.exec
  have hb := B.bytes
  have hr := B.returns
  have hts := atoms_spec (ws := wsX8_moment) B.pre
  have hown : s.vm.findClass RX8 = some m.cls := findClass_of_methodNamed B.named
  have hlocks := B.notSynchronized
  have hS : va_S G.2.2.2.1 s.heap s.heap [] := va_S.rf
  have in8 : ∀ w ∈ wsX80, w ∈ wsX8_moment := by decide +kernel
  have lk_23 := hts (.fieldLink RX8 23 "BeamLines" "present" "LBeamLines$Beam;") (by decide +kernel)
  have lk_30 := hts (.fieldLink RX8 30 "BeamLines" "lines" "LBeamLines$Lines;") (by decide +kernel)
  have lk_43 := hts (.fieldLink RX8 43 "BeamLines" "forces" "LBeamLines$Forces;") (by decide +kernel)
  have hl := lv_entry ([.ref (G.2.2.1 8 0), .int (iI a0), .int (iI a1)]) (n := 3) (Nat.le_of_ble_eq_true rfl)
  rw [lg_entry_eq]
  generalize (lg_sl ([.ref (G.2.2.1 8 0), .int (iI a0), .int (iI a1)]) ++ List.replicate (3 - (lg_sl ([.ref (G.2.2.1 8 0), .int (iI a0), .int (iI a1)])).length) Slot.unset).toArray = ls at hl ⊢
  have hl : lv_has ls 3 [(0, .ref (G.2.2.1 8 0)), (1, .int (iI a0)), (2, .int (iI a1))] := hl
  unfold f8_moment at h
  refine lv_aload_n hx hb dX8_moment_0 rfl (lv_at hl 0 rfl) ?_
  refine lv_iload_n hx hb dX8_moment_1 rfl (lv_at hl 1 rfl) ?_
  refine r_xcallv (vx_runV (As := [.int (iI a0)]) (rest := []) ⟨hx, hb, hml, hown, hts⟩ (m8_needPlace l G hfl hv_this _ _ st a0 h) (cwV 1 hts gX8_moment_X8_needPlace rfl rfl rfl hd8_needPlace ⟨Nat.le_of_ble_eq_true rfl, Nat.le_of_ble_eq_true rfl⟩) (pre_V hK hX hI hA hS hv_this rfl rfl [.int (iI a0)]) rfl rfl hl.1 rfl (lv_room (Nat.le_of_ble_eq_true rfl)) dX8_moment_2 ⟨Nat.le_of_ble_eq_true rfl, Nat.le_of_ble_eq_true rfl⟩) hS hE hlocks hK (by decide) (by decide) (fun st2 h H locs hI hS => ?_)
  refine lv_aload_n hx hb dX8_moment_5 rfl (lv_at hl 0 rfl) ?_
  refine lv_iload_n hx hb dX8_moment_6 rfl (lv_at hl 2 rfl) ?_
  refine r_xcallv (vx_runV (As := [.int (iI a1)]) (rest := []) ⟨hx, hb, hml, hown, hts⟩ (m8_needHead l G hfl hv_this _ _ st2 a1 h) (cwV 1 hts gX8_moment_X8_needHead rfl rfl rfl hd8_needHead ⟨Nat.le_of_ble_eq_true rfl, Nat.le_of_ble_eq_true rfl⟩) (pre_V hK hX hI hA hS hv_this rfl rfl [.int (iI a1)]) rfl rfl hl.1 rfl (lv_room (Nat.le_of_ble_eq_true rfl)) dX8_moment_7 ⟨Nat.le_of_ble_eq_true rfl, Nat.le_of_ble_eq_true rfl⟩) hS hE hlocks hK (by decide) (by decide) (fun st4 h H locs hI hS => ?_)
  refine lv_aload_n hx hb dX8_moment_10 rfl (lv_at hl 0 rfl) ?_
  refine gg_8_6 hx hb hts in8 hown hK hI hv_this lk_43 dX8_moment_11 ?_
  refine lv_aload_n hx hb dX8_moment_14 rfl (lv_at hl 0 rfl) ?_
  refine gg_8_2 hx hb hts in8 hown hK hI hv_this lk_23 dX8_moment_15 ?_
  refine lv_aload_n hx hb dX8_moment_18 rfl (lv_at hl 0 rfl) ?_
  refine gg_8_3 hx hb hts in8 hown hK hI hv_this lk_30 dX8_moment_19 ?_
  refine lv_iload_n hx hb dX8_moment_22 rfl (lv_at hl 2 rfl) ?_
  refine r_callv (va_runV (As := [.ref (G.2.2.1 0 0), .ref (G.2.2.1 3 0), .int (iI a1)]) (rest := []) ⟨hx, hb, hml, hown, hts⟩ (m1_underAll l G 0 0 0 (vrC_8_6 hv_this) (vrC_8_2 hv_this) (vrC_8_3 hv_this) _ st4 a1 h) (cwV 3 hts gX8_moment_X1_underAll rfl rfl rfl hd1_underAll ⟨Nat.le_of_ble_eq_true rfl, Nat.le_of_ble_eq_true rfl⟩) (pre_V hK hX hI hA hS (vrC_8_6 hv_this) rfl rfl [.ref (G.2.2.1 0 0), .ref (G.2.2.1 3 0), .int (iI a1)]) rfl rfl hl.1 rfl (lv_room (Nat.le_of_ble_eq_true rfl)) dX8_moment_23 ⟨Nat.le_of_ble_eq_true rfl, Nat.le_of_ble_eq_true rfl⟩) hS (fun st6 h H locs hI hS => ?_)
  refine lv_aload_n hx hb dX8_moment_26 rfl (lv_at hl 0 rfl) ?_
  refine gg_8_6 hx hb hts in8 hown hK hI hv_this lk_43 dX8_moment_27 ?_
  refine lv_iload_n hx hb dX8_moment_30 rfl (lv_at hl 1 rfl) ?_
  refine r_calll (va_runV (As := [.int (iI a0)]) (rest := []) ⟨hx, hb, hml, hown, hts⟩ (m1_momentAt l G 0 (vrC_8_6 hv_this) _ st6 a0 h) (cwV 1 hts gX8_moment_X1_momentAt rfl rfl rfl hd1_momentAt ⟨Nat.le_of_ble_eq_true rfl, Nat.le_of_ble_eq_true rfl⟩) (pre_V hK hX hI hA hS (vrC_8_6 hv_this) rfl rfl [.int (iI a0)]) rfl rfl hl.1 rfl (lv_room (Nat.le_of_ble_eq_true rfl)) dX8_moment_31 ⟨Nat.le_of_ble_eq_true rfl, Nat.le_of_ble_eq_true rfl⟩) hS (fun z7 st8 h H locs hI hS => ?_)
  refine W.widen (k := 2) (n := 12) (by decide) (by decide) ?_
  exact vx_ret (r_lret hx hb hr hlocks hK hI hS (Qp := Q) h dX8_moment_34)
theorem hd8_worstHead : yX8_worstHead.cls = RX8 ∧ yX8_worstHead.cls ≠ "java/lang/invoke/MethodHandle" ∧ yX8_worstHead.cls ≠ "java/lang/invoke/VarHandle" ∧ (parseMethodDescriptor yX8_worstHead.desc).map (fun d => d.parameters.length) = some 3 := by decide +kernel
set_option maxHeartbeats 4000000 in
set_option maxRecDepth 100000 in
theorem m8_worstHead (l : Launch) (G : WG)   (hv_this : vC 8 0) (Q : Int → St → Prop) (st : St) (a0 : Int) (a1 : Int) (a2 : Int) (h : f8_worstHead Q st a0 a1 a2) : Met l yX8_worstHead wsX8_worstHead ({ frames := 5, cells := 0, slots := 0, locals := 118 }) (PcM vC G st [.ref (G.2.2.1 8 0), .int (iI a0), .int (iI a1), .int (iI a2)]) (QiM vC G Q) 0 0 G.2.2.2.1 := by
  refine Met.ofW (cc := cX8_worstHead) (maxL := 12) (ret := (some .int)) (by decide) rfl ?_
  intro p e s m args below meth c s₁ B hml hvv
  obtain ⟨rfl, hA, hI, hK, hX⟩ := hvv
  have hx := B.exec
  have hb := B.bytes
  have hr := B.returns
  have hts := atoms_spec (ws := wsX8_worstHead) B.pre
  have hown : s.vm.findClass RX8 = some m.cls := findClass_of_methodNamed B.named
  have hlocks := B.notSynchronized
  have hS : va_S G.2.2.2.1 s.heap s.heap [] := va_S.rf
  have in8 : ∀ w ∈ wsX80, w ∈ wsX8_worstHead := by decide +kernel
  have lk_23 := hts (.fieldLink RX8 23 "BeamLines" "present" "LBeamLines$Beam;") (by decide +kernel)
  have lk_30 := hts (.fieldLink RX8 30 "BeamLines" "lines" "LBeamLines$Lines;") (by decide +kernel)
  have lk_43 := hts (.fieldLink RX8 43 "BeamLines" "forces" "LBeamLines$Forces;") (by decide +kernel)
  have hl := lv_entry ([.ref (G.2.2.1 8 0), .int (iI a0), .int (iI a1), .int (iI a2)]) (n := 12) (Nat.le_of_ble_eq_true rfl)
  rw [lg_entry_eq]
  generalize (lg_sl ([.ref (G.2.2.1 8 0), .int (iI a0), .int (iI a1), .int (iI a2)]) ++ List.replicate (12 - (lg_sl ([.ref (G.2.2.1 8 0), .int (iI a0), .int (iI a1), .int (iI a2)])).length) Slot.unset).toArray = ls at hl ⊢
  have hl : lv_has ls 12 [(0, .ref (G.2.2.1 8 0)), (1, .int (iI a0)), (2, .int (iI a1)), (3, .int (iI a2))] := hl
  have L18 : ∀ (v7x18 : Int) (n18 : Nat), ∀ (st : St) (v4x18 : Int) (v5x18 : Int) (v8x18 : Int) (H : Heap) (locs : List Loc) (ls : Array Slot), Iv vC G st H → va_S G.2.2.2.1 s.heap H locs → lv_has ls 12 [(0, .ref (G.2.2.1 8 0)), (1, .int (iI a0)), (2, .int (iI a1)), (3, .int (iI a2)), (4, .int (iI v4x18)), (5, .long (lI v5x18)), (7, .int (iI v7x18)), (8, .int (iI v8x18))] → f8_worstHead_l18 Q a0 a1 a2 v7x18 n18 st v4x18 v5x18 v8x18 → W p l e (headSpec wsX8_worstHead ({ frames := 5, cells := 0, slots := 0, locals := 118 })).room s m ([.ref (G.2.2.1 8 0), .int (iI a0), .int (iI a1), .int (iI a2)] : List Value).toArray below meth c H locs 0 0 (MQ below (QiM vC G Q) ([.ref (G.2.2.1 8 0), .int (iI a0), .int (iI a1), .int (iI a2)] : List Value).toArray s 0 0 G.2.2.2.1) (F0 m 18 ls []) := by
    intro v7x18 n18
    induction n18 with
    | zero =>
      intro st v4x18 v5x18 v8x18 H locs ls hI hS hl h
      exact h.elim
    | succ n18 ih18 =>
      have J106 : ∀ (st : St) (v4x106 : Int) (v5x106 : Int) (v8x106 : Int) (H : Heap) (locs : List Loc) (ls : Array Slot), Iv vC G st H → va_S G.2.2.2.1 s.heap H locs → lv_has ls 12 [(0, .ref (G.2.2.1 8 0)), (1, .int (iI a0)), (2, .int (iI a1)), (3, .int (iI a2)), (4, .int (iI v4x106)), (5, .long (lI v5x106)), (7, .int (iI v7x18)), (8, .int (iI v8x106))] → f8_worstHead_j106 (fun st v4x18 v5x18 v8x18 => f8_worstHead_l18 Q a0 a1 a2 v7x18 n18 st v4x18 v5x18 v8x18) Q a0 a1 a2 v7x18 st v4x106 v5x106 v8x106 → W p l e (headSpec wsX8_worstHead ({ frames := 5, cells := 0, slots := 0, locals := 118 })).room s m ([.ref (G.2.2.1 8 0), .int (iI a0), .int (iI a1), .int (iI a2)] : List Value).toArray below meth c H locs 0 0 (MQ below (QiM vC G Q) ([.ref (G.2.2.1 8 0), .int (iI a0), .int (iI a1), .int (iI a2)] : List Value).toArray s 0 0 G.2.2.2.1) (F0 m 106 ls []) := by
        intro st v4x106 v5x106 v8x106 H locs ls hI hS hl h
        unfold f8_worstHead_j106 at h
        obtain ⟨x22, hx22⟩ : ∃ z : Int, z = v8x106 + 1 := ⟨_, rfl⟩
        replace h := h x22 hx22
        refine lv_iinc (v := iI x22) (lv' := [(8, .int (iI x22)), (0, .ref (G.2.2.1 8 0)), (1, .int (iI a0)), (2, .int (iI a1)), (3, .int (iI a2)), (4, .int (iI v4x106)), (5, .long (lI v5x106)), (7, .int (iI v7x18))]) hx hb dX8_worstHead_106 hl (k := 7) rfl (by rw [hx22]; exact iI_add _ _) (by decide) rfl (fun ls hl => ?_)
        refine lv_goto (tgt := 18) hx hb dX8_worstHead_109 (by decide) ?_
        exact ih18 st v4x106 v5x106 x22 _ _ ls hI hS (lv_sub hl [1, 2, 3, 4, 5, 6, 7, 0] rfl) h
      have J98 : ∀ (st : St) (v8x98 : Int) (v9x98 : Int) (H : Heap) (locs : List Loc) (ls : Array Slot), Iv vC G st H → va_S G.2.2.2.1 s.heap H locs → lv_has ls 12 [(0, .ref (G.2.2.1 8 0)), (1, .int (iI a0)), (2, .int (iI a1)), (3, .int (iI a2)), (7, .int (iI v7x18)), (8, .int (iI v8x98)), (9, .long (lI v9x98))] → f8_worstHead_j98 (fun st v4x18 v5x18 v8x18 => f8_worstHead_l18 Q a0 a1 a2 v7x18 n18 st v4x18 v5x18 v8x18) Q a0 a1 a2 v7x18 st v8x98 v9x98 → W p l e (headSpec wsX8_worstHead ({ frames := 5, cells := 0, slots := 0, locals := 118 })).room s m ([.ref (G.2.2.1 8 0), .int (iI a0), .int (iI a1), .int (iI a2)] : List Value).toArray below meth c H locs 0 0 (MQ below (QiM vC G Q) ([.ref (G.2.2.1 8 0), .int (iI a0), .int (iI a1), .int (iI a2)] : List Value).toArray s 0 0 G.2.2.2.1) (F0 m 98 ls []) := by
        intro st v8x98 v9x98 H locs ls hI hS hl h
        unfold f8_worstHead_j98 at h
        refine lv_iload hx hb dX8_worstHead_98 (lv_at hl 5 rfl) ?_
        refine lv_istore (lv' := [(4, .int (iI v8x98)), (0, .ref (G.2.2.1 8 0)), (1, .int (iI a0)), (2, .int (iI a1)), (3, .int (iI a2)), (7, .int (iI v7x18)), (8, .int (iI v8x98)), (9, .long (lI v9x98))]) hx hb dX8_worstHead_100 hl (by decide) rfl (fun ls hl => ?_)
        refine lv_lload hx hb dX8_worstHead_102 (lv_at hl 7 rfl) ?_
        refine lv_lstore (lv' := [(5, .long (lI v9x98)), (4, .int (iI v8x98)), (0, .ref (G.2.2.1 8 0)), (1, .int (iI a0)), (2, .int (iI a1)), (3, .int (iI a2)), (7, .int (iI v7x18)), (8, .int (iI v8x98)), (9, .long (lI v9x98))]) hx hb dX8_worstHead_104 hl (by decide) rfl (fun ls hl => ?_)
        exact J106 st v8x98 v9x98 v8x98 _ _ ls hI hS (lv_sub hl [2, 3, 4, 5, 1, 0, 6, 7] rfl) h
      have J86 : ∀ (st : St) (v4x86 : Int) (v5x86 : Int) (v8x86 : Int) (v9x86 : Int) (s0x86 : Int) (H : Heap) (locs : List Loc) (ls : Array Slot), Iv vC G st H → va_S G.2.2.2.1 s.heap H locs → lv_has ls 12 [(0, .ref (G.2.2.1 8 0)), (1, .int (iI a0)), (2, .int (iI a1)), (3, .int (iI a2)), (4, .int (iI v4x86)), (5, .long (lI v5x86)), (7, .int (iI v7x18)), (8, .int (iI v8x86)), (9, .long (lI v9x86))] → f8_worstHead_j86 (fun st v4x18 v5x18 v8x18 => f8_worstHead_l18 Q a0 a1 a2 v7x18 n18 st v4x18 v5x18 v8x18) Q a0 a1 a2 v7x18 st v4x86 v5x86 v8x86 v9x86 s0x86 → W p l e (headSpec wsX8_worstHead ({ frames := 5, cells := 0, slots := 0, locals := 118 })).room s m ([.ref (G.2.2.1 8 0), .int (iI a0), .int (iI a1), .int (iI a2)] : List Value).toArray below meth c H locs 0 0 (MQ below (QiM vC G Q) ([.ref (G.2.2.1 8 0), .int (iI a0), .int (iI a1), .int (iI a2)] : List Value).toArray s 0 0 G.2.2.2.1) (F0 m 86 ls [.int (iI s0x86)]) := by
        intro st v4x86 v5x86 v8x86 v9x86 s0x86 H locs ls hI hS hl h
        unfold f8_worstHead_j86 at h
        refine lv_istore (lv' := [(11, .int (iI s0x86)), (0, .ref (G.2.2.1 8 0)), (1, .int (iI a0)), (2, .int (iI a1)), (3, .int (iI a2)), (4, .int (iI v4x86)), (5, .long (lI v5x86)), (7, .int (iI v7x18)), (8, .int (iI v8x86)), (9, .long (lI v9x86))]) hx hb dX8_worstHead_86 hl (by decide) rfl (fun ls hl => ?_)
        refine lv_iload hx hb dX8_worstHead_88 (lv_at hl 8 rfl) ?_
        obtain ⟨g18, h⟩ := h
        refine r_if_eq (tgt := 98) hx hb dX8_worstHead_90 (by decide) g18 (fun c19 => ?_) (fun c19 => ?_)
        · replace h := h.1 c19
          exact J98 st v8x86 v9x86 _ _ ls hI hS (lv_sub hl [1, 2, 3, 4, 7, 8, 9] rfl) h
        · replace h := h.2 c19
          refine lv_iload hx hb dX8_worstHead_93 (lv_at hl 0 rfl) ?_
          obtain ⟨g20, h⟩ := h
          refine r_if_eq (tgt := 106) hx hb dX8_worstHead_95 (by decide) g20 (fun c21 => ?_) (fun c21 => ?_)
          · replace h := h.1 c21
            exact J106 st v4x86 v5x86 v8x86 _ _ ls hI hS (lv_sub hl [1, 2, 3, 4, 5, 6, 7, 8] rfl) h
          · replace h := h.2 c21
            exact J98 st v8x86 v9x86 _ _ ls hI hS (lv_sub hl [1, 2, 3, 4, 7, 8, 9] rfl) h
      intro st v4x18 v5x18 v8x18 H locs ls hI hS hl h
      unfold f8_worstHead_l18 at h
      refine lv_iload hx hb dX8_worstHead_18 (lv_at hl 7 rfl) ?_
      refine lv_iload hx hb dX8_worstHead_20 (lv_at hl 6 rfl) ?_
      obtain ⟨g3, h⟩ := h
      obtain ⟨g4, h⟩ := h
      refine r_icmp_gt (tgt := 112) hx hb dX8_worstHead_22 (by decide) g3 g4 (fun c5 => ?_) (fun c5 => ?_)
      · replace h := h.1 c5
        refine lv_iload hx hb dX8_worstHead_112 (lv_at hl 4 rfl) ?_
        exact r_iret hx hb hr hlocks hK hI hS (Qp := Q) h dX8_worstHead_114
      · replace h := h.2 c5
        refine lv_aload_n hx hb dX8_worstHead_25 rfl (lv_at hl 0 rfl) ?_
        refine gg_8_6 hx hb hts in8 hown hK hI hv_this lk_43 dX8_worstHead_26 ?_
        refine lv_aload_n hx hb dX8_worstHead_29 rfl (lv_at hl 0 rfl) ?_
        refine gg_8_2 hx hb hts in8 hown hK hI hv_this lk_23 dX8_worstHead_30 ?_
        refine lv_aload_n hx hb dX8_worstHead_33 rfl (lv_at hl 0 rfl) ?_
        refine gg_8_3 hx hb hts in8 hown hK hI hv_this lk_30 dX8_worstHead_34 ?_
        refine lv_iload hx hb dX8_worstHead_37 (lv_at hl 7 rfl) ?_
        refine r_callv (va_runV (As := [.ref (G.2.2.1 0 0), .ref (G.2.2.1 3 0), .int (iI v8x18)]) (rest := []) ⟨hx, hb, hml, hown, hts⟩ (m1_underAll l G 0 0 0 (vrC_8_6 hv_this) (vrC_8_2 hv_this) (vrC_8_3 hv_this) _ st v8x18 h) (cwV 3 hts gX8_worstHead_X1_underAll rfl rfl rfl hd1_underAll ⟨Nat.le_of_ble_eq_true rfl, Nat.le_of_ble_eq_true rfl⟩) (pre_V hK hX hI hA hS (vrC_8_6 hv_this) rfl rfl [.ref (G.2.2.1 0 0), .ref (G.2.2.1 3 0), .int (iI v8x18)]) rfl rfl hl.1 rfl (lv_room (Nat.le_of_ble_eq_true rfl)) dX8_worstHead_39 ⟨Nat.le_of_ble_eq_true rfl, Nat.le_of_ble_eq_true rfl⟩) hS (fun st7 h H locs hI hS => ?_)
        refine lv_aload_n hx hb dX8_worstHead_42 rfl (lv_at hl 0 rfl) ?_
        refine gg_8_6 hx hb hts in8 hown hK hI hv_this lk_43 dX8_worstHead_43 ?_
        refine lv_iload_n hx hb dX8_worstHead_46 rfl (lv_at hl 1 rfl) ?_
        refine lv_iload_n hx hb dX8_worstHead_47 rfl (lv_at hl 2 rfl) ?_
        refine r_calll (va_runV (As := [.int (iI a0), .int (iI a1)]) (rest := []) ⟨hx, hb, hml, hown, hts⟩ (m1_ofKind l G 0 (vrC_8_6 hv_this) _ st7 a0 a1 h) (cwV 2 hts gX8_worstHead_X1_ofKind rfl rfl rfl hd1_ofKind ⟨Nat.le_of_ble_eq_true rfl, Nat.le_of_ble_eq_true rfl⟩) (pre_V hK hX hI hA hS (vrC_8_6 hv_this) rfl rfl [.int (iI a0), .int (iI a1)]) rfl rfl hl.1 rfl (lv_room (Nat.le_of_ble_eq_true rfl)) dX8_worstHead_48 ⟨Nat.le_of_ble_eq_true rfl, Nat.le_of_ble_eq_true rfl⟩) hS (fun z8 st9 h H locs hI hS => ?_)
        refine lv_lstore (lv' := [(9, .long (lI z8)), (0, .ref (G.2.2.1 8 0)), (1, .int (iI a0)), (2, .int (iI a1)), (3, .int (iI a2)), (4, .int (iI v4x18)), (5, .long (lI v5x18)), (7, .int (iI v7x18)), (8, .int (iI v8x18))]) hx hb dX8_worstHead_51 hl (by decide) rfl (fun ls hl => ?_)
        refine lv_iload_n hx hb dX8_worstHead_53 rfl (lv_at hl 4 rfl) ?_
        obtain ⟨g10, h⟩ := h
        refine r_if_eq (tgt := 73) hx hb dX8_worstHead_54 (by decide) g10 (fun c11 => ?_) (fun c11 => ?_)
        · replace h := h.1 c11
          refine lv_lload hx hb dX8_worstHead_73 (lv_at hl 0 rfl) ?_
          refine lv_lload hx hb dX8_worstHead_75 (lv_at hl 6 rfl) ?_
          obtain ⟨g12, h⟩ := h
          obtain ⟨g13, h⟩ := h
          refine r_lcmp_ge (tgt := 85) hx hb dX8_worstHead_77 dX8_worstHead_78 (by decide) g12 g13 (fun c14 => ?_) (fun c14 => ?_)
          · replace h := h.1 c14
            refine r_iconst (n := 0) hx hb dX8_worstHead_85 ?_
            exact J86 st9 v4x18 v5x18 v8x18 z8 0 _ _ ls hI hS (lv_sub hl [1, 2, 3, 4, 5, 6, 7, 8, 0] rfl) h
          · replace h := h.2 c14
            refine r_iconst (n := 1) hx hb dX8_worstHead_81 ?_
            refine lv_goto (tgt := 86) hx hb dX8_worstHead_82 (by decide) ?_
            exact J86 st9 v4x18 v5x18 v8x18 z8 1 _ _ ls hI hS (lv_sub hl [1, 2, 3, 4, 5, 6, 7, 8, 0] rfl) h
        · replace h := h.2 c11
          refine lv_lload hx hb dX8_worstHead_57 (lv_at hl 0 rfl) ?_
          refine lv_lload hx hb dX8_worstHead_59 (lv_at hl 6 rfl) ?_
          obtain ⟨g15, h⟩ := h
          obtain ⟨g16, h⟩ := h
          refine r_lcmp_le (tgt := 69) hx hb dX8_worstHead_61 dX8_worstHead_62 (by decide) g15 g16 (fun c17 => ?_) (fun c17 => ?_)
          · replace h := h.1 c17
            refine r_iconst (n := 0) hx hb dX8_worstHead_69 ?_
            refine lv_goto (tgt := 86) hx hb dX8_worstHead_70 (by decide) ?_
            exact J86 st9 v4x18 v5x18 v8x18 z8 0 _ _ ls hI hS (lv_sub hl [1, 2, 3, 4, 5, 6, 7, 8, 0] rfl) h
          · replace h := h.2 c17
            refine r_iconst (n := 1) hx hb dX8_worstHead_65 ?_
            refine lv_goto (tgt := 86) hx hb dX8_worstHead_66 (by decide) ?_
            exact J86 st9 v4x18 v5x18 v8x18 z8 1 _ _ ls hI hS (lv_sub hl [1, 2, 3, 4, 5, 6, 7, 8, 0] rfl) h
  unfold f8_worstHead at h
  refine r_iconst (n := 0) hx hb dX8_worstHead_0 ?_
  refine lv_istore (lv' := [(4, .int (iI 0)), (0, .ref (G.2.2.1 8 0)), (1, .int (iI a0)), (2, .int (iI a1)), (3, .int (iI a2))]) hx hb dX8_worstHead_1 hl (by decide) rfl (fun ls hl => ?_)
  refine r_lconst (z := 0) hx hb dX8_worstHead_3 rfl ?_
  refine lv_lstore (lv' := [(5, .long (lI 0)), (4, .int (iI 0)), (0, .ref (G.2.2.1 8 0)), (1, .int (iI a0)), (2, .int (iI a1)), (3, .int (iI a2))]) hx hb dX8_worstHead_4 hl (by decide) rfl (fun ls hl => ?_)
  refine lv_aload_n hx hb dX8_worstHead_6 rfl (lv_at hl 2 rfl) ?_
  refine gg_8_2 hx hb hts in8 hown hK hI hv_this lk_23 dX8_worstHead_7 ?_
  refine r_calli (va_runV (As := []) (rest := []) ⟨hx, hb, hml, hown, hts⟩ (m0_lastHead l G 0 (vrC_8_2 hv_this) _ st h) (cwV 0 hts gX8_worstHead_X0_lastHead rfl rfl rfl hd0_lastHead ⟨Nat.le_of_ble_eq_true rfl, Nat.le_of_ble_eq_true rfl⟩) (pre_V hK hX hI hA hS (vrC_8_2 hv_this) rfl rfl []) rfl rfl hl.1 rfl (lv_room (Nat.le_of_ble_eq_true rfl)) dX8_worstHead_10 ⟨Nat.le_of_ble_eq_true rfl, Nat.le_of_ble_eq_true rfl⟩) hS (fun z1 st2 h H locs hI hS => ?_)
  refine lv_istore (lv' := [(7, .int (iI z1)), (5, .long (lI 0)), (4, .int (iI 0)), (0, .ref (G.2.2.1 8 0)), (1, .int (iI a0)), (2, .int (iI a1)), (3, .int (iI a2))]) hx hb dX8_worstHead_13 hl (by decide) rfl (fun ls hl => ?_)
  refine r_iconst (n := 0) hx hb dX8_worstHead_15 ?_
  refine lv_istore (lv' := [(8, .int (iI 0)), (7, .int (iI z1)), (5, .long (lI 0)), (4, .int (iI 0)), (0, .ref (G.2.2.1 8 0)), (1, .int (iI a0)), (2, .int (iI a1)), (3, .int (iI a2))]) hx hb dX8_worstHead_16 hl (by decide) rfl (fun ls hl => ?_)
  obtain ⟨kk, h⟩ := h
  exact L18 z1 kk st2 0 0 0 _ _ ls hI hS (lv_sub hl [4, 5, 6, 7, 3, 2, 1, 0] rfl) h
theorem hd8_worstForReaction : yX8_worstForReaction.cls = RX8 ∧ yX8_worstForReaction.cls ≠ "java/lang/invoke/MethodHandle" ∧ yX8_worstForReaction.cls ≠ "java/lang/invoke/VarHandle" ∧ (parseMethodDescriptor yX8_worstForReaction.desc).map (fun d => d.parameters.length) = some 2 := by decide +kernel
set_option maxHeartbeats 4000000 in
set_option maxRecDepth 100000 in
theorem m8_worstForReaction (l : Launch) (G : WG) (hfl : l.stackTraces = false)  (hv_this : vC 8 0) (Q : Int → St → Prop) (X : String → St → Prop) (st : St) (a0 : Int) (a1 : Int) (h : f8_worstForReaction Q X st a0 a1) : vx_Met l yX8_worstForReaction wsX8_worstForReaction ({ frames := 7, cells := 1, slots := 6, locals := 149 }) (PcM vC G st [.ref (G.2.2.1 8 0), .int (iI a0), .int (iI a1)]) (QiM vC G Q) (XM vC G X) 1 6 G.2.2.2.1 := by
  refine vx_ofW (cc := cX8_worstForReaction) (maxL := 3) (ret := (some .int)) (by decide) rfl ?_
  intro p e s m args below meth c s₁ B hml hE hvv
  obtain ⟨rfl, hA, hI, hK, hX⟩ := hvv
  have hx := B.exec
  have hb := B.bytes
  have hr := B.returns
  have hts := atoms_spec (ws := wsX8_worstForReaction) B.pre
  have hown : s.vm.findClass RX8 = some m.cls := findClass_of_methodNamed B.named
  have hlocks := B.notSynchronized
  have hS : va_S G.2.2.2.1 s.heap s.heap [] := va_S.rf
  have in0 : ∀ w ∈ wsX00, w ∈ wsX8_worstForReaction := by decide +kernel
  have in8 : ∀ w ∈ wsX80, w ∈ wsX8_worstForReaction := by decide +kernel
  have lk_23 := hts (.fieldLink RX8 23 "BeamLines" "present" "LBeamLines$Beam;") (by decide +kernel)
  have lk_85 := hts (.fieldLink RX8 85 "BeamLines$Beam" "supports" "LBeamLines$Row;") (by decide +kernel)
  have hl := lv_entry ([.ref (G.2.2.1 8 0), .int (iI a0), .int (iI a1)]) (n := 3) (Nat.le_of_ble_eq_true rfl)
  rw [lg_entry_eq]
  generalize (lg_sl ([.ref (G.2.2.1 8 0), .int (iI a0), .int (iI a1)]) ++ List.replicate (3 - (lg_sl ([.ref (G.2.2.1 8 0), .int (iI a0), .int (iI a1)])).length) Slot.unset).toArray = ls at hl ⊢
  have hl : lv_has ls 3 [(0, .ref (G.2.2.1 8 0)), (1, .int (iI a0)), (2, .int (iI a1))] := hl
  unfold f8_worstForReaction at h
  refine lv_aload_n hx hb dX8_worstForReaction_0 rfl (lv_at hl 0 rfl) ?_
  refine lv_aload_n hx hb dX8_worstForReaction_1 rfl (lv_at hl 0 rfl) ?_
  refine gg_8_2 hx hb hts in8 hown hK hI hv_this lk_23 dX8_worstForReaction_2 ?_
  refine gg_0_2 hx hb hts in0 hown hK hI (vrC_8_2 hv_this) lk_85 dX8_worstForReaction_5 ?_
  refine lv_iload_n hx hb dX8_worstForReaction_8 rfl (lv_at hl 1 rfl) ?_
  refine r_xcallv (vx_runV (As := [.ref (G.2.2.1 6 (4 * 0)), .int (iI a0)]) (rest := []) ⟨hx, hb, hml, hown, hts⟩ (m8_needNumber l G hfl (4 * 0) hv_this (vrC_0_2 (vrC_8_2 hv_this)) _ _ st a0 h) (cwV 2 hts gX8_worstForReaction_X8_needNumber rfl rfl rfl hd8_needNumber ⟨Nat.le_of_ble_eq_true rfl, Nat.le_of_ble_eq_true rfl⟩) (pre_V hK hX hI hA hS hv_this rfl rfl [.ref (G.2.2.1 6 (4 * 0)), .int (iI a0)]) rfl rfl hl.1 rfl (lv_room (Nat.le_of_ble_eq_true rfl)) dX8_worstForReaction_9 ⟨Nat.le_of_ble_eq_true rfl, Nat.le_of_ble_eq_true rfl⟩) hS hE hlocks hK (by decide) (by decide) (fun st2 h H locs hI hS => ?_)
  refine lv_aload_n hx hb dX8_worstForReaction_12 rfl (lv_at hl 0 rfl) ?_
  refine r_iconst (n := 0) hx hb dX8_worstForReaction_13 ?_
  refine lv_iload_n hx hb dX8_worstForReaction_14 rfl (lv_at hl 1 rfl) ?_
  refine lv_iload_n hx hb dX8_worstForReaction_15 rfl (lv_at hl 2 rfl) ?_
  refine r_calli (va_runV (As := [.int (iI 0), .int (iI a0), .int (iI a1)]) (rest := []) ⟨hx, hb, hml, hown, hts⟩ (m8_worstHead l G hv_this _ st2 0 a0 a1 h) (cwV 3 hts gX8_worstForReaction_X8_worstHead rfl rfl rfl hd8_worstHead ⟨Nat.le_of_ble_eq_true rfl, Nat.le_of_ble_eq_true rfl⟩) (pre_V hK hX hI hA hS hv_this rfl rfl [.int (iI 0), .int (iI a0), .int (iI a1)]) rfl rfl hl.1 rfl (lv_room (Nat.le_of_ble_eq_true rfl)) dX8_worstForReaction_16 ⟨Nat.le_of_ble_eq_true rfl, Nat.le_of_ble_eq_true rfl⟩) hS (fun z3 st4 h H locs hI hS => ?_)
  refine W.widen (k := 1) (n := 6) (by decide) (by decide) ?_
  exact vx_ret (r_iret hx hb hr hlocks hK hI hS (Qp := Q) h dX8_worstForReaction_19)
theorem hd8_worstForShear : yX8_worstForShear.cls = RX8 ∧ yX8_worstForShear.cls ≠ "java/lang/invoke/MethodHandle" ∧ yX8_worstForShear.cls ≠ "java/lang/invoke/VarHandle" ∧ (parseMethodDescriptor yX8_worstForShear.desc).map (fun d => d.parameters.length) = some 2 := by decide +kernel
set_option maxHeartbeats 4000000 in
set_option maxRecDepth 100000 in
theorem m8_worstForShear (l : Launch) (G : WG) (hfl : l.stackTraces = false)  (hv_this : vC 8 0) (Q : Int → St → Prop) (X : String → St → Prop) (st : St) (a0 : Int) (a1 : Int) (h : f8_worstForShear Q X st a0 a1) : vx_Met l yX8_worstForShear wsX8_worstForShear ({ frames := 7, cells := 1, slots := 6, locals := 149 }) (PcM vC G st [.ref (G.2.2.1 8 0), .int (iI a0), .int (iI a1)]) (QiM vC G Q) (XM vC G X) 1 6 G.2.2.2.1 := by
  refine vx_ofW (cc := cX8_worstForShear) (maxL := 3) (ret := (some .int)) (by decide) rfl ?_
  intro p e s m args below meth c s₁ B hml hE hvv
  obtain ⟨rfl, hA, hI, hK, hX⟩ := hvv
  have hx := B.exec
  have hb := B.bytes
  have hr := B.returns
  have hts := atoms_spec (ws := wsX8_worstForShear) B.pre
  have hown : s.vm.findClass RX8 = some m.cls := findClass_of_methodNamed B.named
  have hlocks := B.notSynchronized
  have hS : va_S G.2.2.2.1 s.heap s.heap [] := va_S.rf
  have hl := lv_entry ([.ref (G.2.2.1 8 0), .int (iI a0), .int (iI a1)]) (n := 3) (Nat.le_of_ble_eq_true rfl)
  rw [lg_entry_eq]
  generalize (lg_sl ([.ref (G.2.2.1 8 0), .int (iI a0), .int (iI a1)]) ++ List.replicate (3 - (lg_sl ([.ref (G.2.2.1 8 0), .int (iI a0), .int (iI a1)])).length) Slot.unset).toArray = ls at hl ⊢
  have hl : lv_has ls 3 [(0, .ref (G.2.2.1 8 0)), (1, .int (iI a0)), (2, .int (iI a1))] := hl
  unfold f8_worstForShear at h
  refine lv_aload_n hx hb dX8_worstForShear_0 rfl (lv_at hl 0 rfl) ?_
  refine lv_iload_n hx hb dX8_worstForShear_1 rfl (lv_at hl 1 rfl) ?_
  refine r_xcallv (vx_runV (As := [.int (iI a0)]) (rest := []) ⟨hx, hb, hml, hown, hts⟩ (m8_needField l G hfl hv_this _ _ st a0 h) (cwV 1 hts gX8_worstForShear_X8_needField rfl rfl rfl hd8_needField ⟨Nat.le_of_ble_eq_true rfl, Nat.le_of_ble_eq_true rfl⟩) (pre_V hK hX hI hA hS hv_this rfl rfl [.int (iI a0)]) rfl rfl hl.1 rfl (lv_room (Nat.le_of_ble_eq_true rfl)) dX8_worstForShear_2 ⟨Nat.le_of_ble_eq_true rfl, Nat.le_of_ble_eq_true rfl⟩) hS hE hlocks hK (by decide) (by decide) (fun st2 h H locs hI hS => ?_)
  refine lv_aload_n hx hb dX8_worstForShear_5 rfl (lv_at hl 0 rfl) ?_
  refine r_iconst (n := 1) hx hb dX8_worstForShear_6 ?_
  refine lv_iload_n hx hb dX8_worstForShear_7 rfl (lv_at hl 1 rfl) ?_
  refine lv_iload_n hx hb dX8_worstForShear_8 rfl (lv_at hl 2 rfl) ?_
  refine r_calli (va_runV (As := [.int (iI 1), .int (iI a0), .int (iI a1)]) (rest := []) ⟨hx, hb, hml, hown, hts⟩ (m8_worstHead l G hv_this _ st2 1 a0 a1 h) (cwV 3 hts gX8_worstForShear_X8_worstHead rfl rfl rfl hd8_worstHead ⟨Nat.le_of_ble_eq_true rfl, Nat.le_of_ble_eq_true rfl⟩) (pre_V hK hX hI hA hS hv_this rfl rfl [.int (iI 1), .int (iI a0), .int (iI a1)]) rfl rfl hl.1 rfl (lv_room (Nat.le_of_ble_eq_true rfl)) dX8_worstForShear_9 ⟨Nat.le_of_ble_eq_true rfl, Nat.le_of_ble_eq_true rfl⟩) hS (fun z3 st4 h H locs hI hS => ?_)
  refine W.widen (k := 1) (n := 6) (by decide) (by decide) ?_
  exact vx_ret (r_iret hx hb hr hlocks hK hI hS (Qp := Q) h dX8_worstForShear_12)
theorem hd8_worstForMoment : yX8_worstForMoment.cls = RX8 ∧ yX8_worstForMoment.cls ≠ "java/lang/invoke/MethodHandle" ∧ yX8_worstForMoment.cls ≠ "java/lang/invoke/VarHandle" ∧ (parseMethodDescriptor yX8_worstForMoment.desc).map (fun d => d.parameters.length) = some 2 := by decide +kernel
set_option maxHeartbeats 4000000 in
set_option maxRecDepth 100000 in
theorem m8_worstForMoment (l : Launch) (G : WG) (hfl : l.stackTraces = false)  (hv_this : vC 8 0) (Q : Int → St → Prop) (X : String → St → Prop) (st : St) (a0 : Int) (a1 : Int) (h : f8_worstForMoment Q X st a0 a1) : vx_Met l yX8_worstForMoment wsX8_worstForMoment ({ frames := 7, cells := 1, slots := 6, locals := 149 }) (PcM vC G st [.ref (G.2.2.1 8 0), .int (iI a0), .int (iI a1)]) (QiM vC G Q) (XM vC G X) 1 6 G.2.2.2.1 := by
  refine vx_ofW (cc := cX8_worstForMoment) (maxL := 3) (ret := (some .int)) (by decide) rfl ?_
  intro p e s m args below meth c s₁ B hml hE hvv
  obtain ⟨rfl, hA, hI, hK, hX⟩ := hvv
  have hx := B.exec
  have hb := B.bytes
  have hr := B.returns
  have hts := atoms_spec (ws := wsX8_worstForMoment) B.pre
  have hown : s.vm.findClass RX8 = some m.cls := findClass_of_methodNamed B.named
  have hlocks := B.notSynchronized
  have hS : va_S G.2.2.2.1 s.heap s.heap [] := va_S.rf
  have hl := lv_entry ([.ref (G.2.2.1 8 0), .int (iI a0), .int (iI a1)]) (n := 3) (Nat.le_of_ble_eq_true rfl)
  rw [lg_entry_eq]
  generalize (lg_sl ([.ref (G.2.2.1 8 0), .int (iI a0), .int (iI a1)]) ++ List.replicate (3 - (lg_sl ([.ref (G.2.2.1 8 0), .int (iI a0), .int (iI a1)])).length) Slot.unset).toArray = ls at hl ⊢
  have hl : lv_has ls 3 [(0, .ref (G.2.2.1 8 0)), (1, .int (iI a0)), (2, .int (iI a1))] := hl
  unfold f8_worstForMoment at h
  refine lv_aload_n hx hb dX8_worstForMoment_0 rfl (lv_at hl 0 rfl) ?_
  refine lv_iload_n hx hb dX8_worstForMoment_1 rfl (lv_at hl 1 rfl) ?_
  refine r_xcallv (vx_runV (As := [.int (iI a0)]) (rest := []) ⟨hx, hb, hml, hown, hts⟩ (m8_needPlace l G hfl hv_this _ _ st a0 h) (cwV 1 hts gX8_worstForMoment_X8_needPlace rfl rfl rfl hd8_needPlace ⟨Nat.le_of_ble_eq_true rfl, Nat.le_of_ble_eq_true rfl⟩) (pre_V hK hX hI hA hS hv_this rfl rfl [.int (iI a0)]) rfl rfl hl.1 rfl (lv_room (Nat.le_of_ble_eq_true rfl)) dX8_worstForMoment_2 ⟨Nat.le_of_ble_eq_true rfl, Nat.le_of_ble_eq_true rfl⟩) hS hE hlocks hK (by decide) (by decide) (fun st2 h H locs hI hS => ?_)
  refine lv_aload_n hx hb dX8_worstForMoment_5 rfl (lv_at hl 0 rfl) ?_
  refine r_iconst (n := 2) hx hb dX8_worstForMoment_6 ?_
  refine lv_iload_n hx hb dX8_worstForMoment_7 rfl (lv_at hl 1 rfl) ?_
  refine lv_iload_n hx hb dX8_worstForMoment_8 rfl (lv_at hl 2 rfl) ?_
  refine r_calli (va_runV (As := [.int (iI 2), .int (iI a0), .int (iI a1)]) (rest := []) ⟨hx, hb, hml, hown, hts⟩ (m8_worstHead l G hv_this _ st2 2 a0 a1 h) (cwV 3 hts gX8_worstForMoment_X8_worstHead rfl rfl rfl hd8_worstHead ⟨Nat.le_of_ble_eq_true rfl, Nat.le_of_ble_eq_true rfl⟩) (pre_V hK hX hI hA hS hv_this rfl rfl [.int (iI 2), .int (iI a0), .int (iI a1)]) rfl rfl hl.1 rfl (lv_room (Nat.le_of_ble_eq_true rfl)) dX8_worstForMoment_9 ⟨Nat.le_of_ble_eq_true rfl, Nat.le_of_ble_eq_true rfl⟩) hS (fun z3 st4 h H locs hI hS => ?_)
  refine W.widen (k := 1) (n := 6) (by decide) (by decide) ?_
  exact vx_ret (r_iret hx hb hr hlocks hK hI hS (Qp := Q) h dX8_worstForMoment_12)
theorem hd8_worstSection : yX8_worstSection.cls = RX8 ∧ yX8_worstSection.cls ≠ "java/lang/invoke/MethodHandle" ∧ yX8_worstSection.cls ≠ "java/lang/invoke/VarHandle" ∧ (parseMethodDescriptor yX8_worstSection.desc).map (fun d => d.parameters.length) = some 0 := by decide +kernel
set_option maxHeartbeats 4000000 in
set_option maxRecDepth 100000 in
theorem m8_worstSection (l : Launch) (G : WG)   (hv_this : vC 8 0) (Q : Int → St → Prop) (st : St)  (h : f8_worstSection Q st) : Met l yX8_worstSection wsX8_worstSection ({ frames := 6, cells := 0, slots := 0, locals := 144 }) (PcM vC G st [.ref (G.2.2.1 8 0)]) (QiM vC G Q) 0 0 G.2.2.2.1 := by
  refine Met.ofW (cc := cX8_worstSection) (maxL := 1) (ret := (some .int)) (by decide) rfl ?_
  intro p e s m args below meth c s₁ B hml hvv
  obtain ⟨rfl, hA, hI, hK, hX⟩ := hvv
  have hx := B.exec
  have hb := B.bytes
  have hr := B.returns
  have hts := atoms_spec (ws := wsX8_worstSection) B.pre
  have hown : s.vm.findClass RX8 = some m.cls := findClass_of_methodNamed B.named
  have hlocks := B.notSynchronized
  have hS : va_S G.2.2.2.1 s.heap s.heap [] := va_S.rf
  have in4 : ∀ w ∈ wsX40, w ∈ wsX8_worstSection := by decide +kernel
  have in8 : ∀ w ∈ wsX80, w ∈ wsX8_worstSection := by decide +kernel
  have lk_23 := hts (.fieldLink RX8 23 "BeamLines" "present" "LBeamLines$Beam;") (by decide +kernel)
  have lk_30 := hts (.fieldLink RX8 30 "BeamLines" "lines" "LBeamLines$Lines;") (by decide +kernel)
  have lk_43 := hts (.fieldLink RX8 43 "BeamLines" "forces" "LBeamLines$Forces;") (by decide +kernel)
  have lk_53 := hts (.fieldLink RX8 53 "BeamLines" "peak" "LBeamLines$Peak;") (by decide +kernel)
  have lk_216 := hts (.fieldLink RX8 216 "BeamLines$Peak" "place" "I") (by decide +kernel)
  have hl := lv_entry ([.ref (G.2.2.1 8 0)]) (n := 1) (Nat.le_of_ble_eq_true rfl)
  rw [lg_entry_eq]
  generalize (lg_sl ([.ref (G.2.2.1 8 0)]) ++ List.replicate (1 - (lg_sl ([.ref (G.2.2.1 8 0)])).length) Slot.unset).toArray = ls at hl ⊢
  have hl : lv_has ls 1 [(0, .ref (G.2.2.1 8 0))] := hl
  unfold f8_worstSection at h
  refine lv_aload_n hx hb dX8_worstSection_0 rfl (lv_at hl 0 rfl) ?_
  refine gg_8_8 hx hb hts in8 hown hK hI hv_this lk_53 dX8_worstSection_1 ?_
  refine lv_aload_n hx hb dX8_worstSection_4 rfl (lv_at hl 0 rfl) ?_
  refine gg_8_2 hx hb hts in8 hown hK hI hv_this lk_23 dX8_worstSection_5 ?_
  refine lv_aload_n hx hb dX8_worstSection_8 rfl (lv_at hl 0 rfl) ?_
  refine gg_8_3 hx hb hts in8 hown hK hI hv_this lk_30 dX8_worstSection_9 ?_
  refine lv_aload_n hx hb dX8_worstSection_12 rfl (lv_at hl 0 rfl) ?_
  refine gg_8_6 hx hb hts in8 hown hK hI hv_this lk_43 dX8_worstSection_13 ?_
  refine r_callv (va_runV (As := [.ref (G.2.2.1 0 0), .ref (G.2.2.1 3 0), .ref (G.2.2.1 1 0)]) (rest := []) ⟨hx, hb, hml, hown, hts⟩ (m4_find l G 0 0 0 (vrC_8_8 hv_this) (vrC_8_2 hv_this) (vrC_8_3 hv_this) (vrC_8_6 hv_this) _ st h) (cwV 3 hts gX8_worstSection_X4_find rfl rfl rfl hd4_find ⟨Nat.le_of_ble_eq_true rfl, Nat.le_of_ble_eq_true rfl⟩) (pre_V hK hX hI hA hS (vrC_8_8 hv_this) rfl rfl [.ref (G.2.2.1 0 0), .ref (G.2.2.1 3 0), .ref (G.2.2.1 1 0)]) rfl rfl hl.1 rfl (lv_room (Nat.le_of_ble_eq_true rfl)) dX8_worstSection_16 ⟨Nat.le_of_ble_eq_true rfl, Nat.le_of_ble_eq_true rfl⟩) hS (fun st2 h H locs hI hS => ?_)
  refine lv_aload_n hx hb dX8_worstSection_19 rfl (lv_at hl 0 rfl) ?_
  refine gg_8_8 hx hb hts in8 hown hK hI hv_this lk_53 dX8_worstSection_20 ?_
  refine gg_4_1 hx hb hts in4 hown hK hI (vrC_8_8 hv_this) lk_216 dX8_worstSection_23 ?_
  exact r_iret hx hb hr hlocks hK hI hS (Qp := Q) h dX8_worstSection_26
theorem hd8_reasonWithHead : yX8_reasonWithHead.cls = RX8 ∧ yX8_reasonWithHead.cls ≠ "java/lang/invoke/MethodHandle" ∧ yX8_reasonWithHead.cls ≠ "java/lang/invoke/VarHandle" ∧ (parseMethodDescriptor yX8_reasonWithHead.desc).map (fun d => d.parameters.length) = some 1 := by decide +kernel
set_option maxHeartbeats 4000000 in
set_option maxRecDepth 100000 in
theorem m8_reasonWithHead (l : Launch) (G : WG)   (hv_this : vC 8 0) (Q : Int → St → Prop) (st : St) (a0 : Int) (h : f8_reasonWithHead Q st a0) : Met l yX8_reasonWithHead wsX8_reasonWithHead ({ frames := 5, cells := 0, slots := 0, locals := 118 }) (PcM vC G st [.ref (G.2.2.1 8 0), .int (iI a0)]) (QiM vC G Q) 0 0 G.2.2.2.1 := by
  refine Met.ofW (cc := cX8_reasonWithHead) (maxL := 2) (ret := (some .int)) (by decide) rfl ?_
  intro p e s m args below meth c s₁ B hml hvv
  obtain ⟨rfl, hA, hI, hK, hX⟩ := hvv
  have hx := B.exec
  have hb := B.bytes
  have hr := B.returns
  have hts := atoms_spec (ws := wsX8_reasonWithHead) B.pre
  have hown : s.vm.findClass RX8 = some m.cls := findClass_of_methodNamed B.named
  have hlocks := B.notSynchronized
  have hS : va_S G.2.2.2.1 s.heap s.heap [] := va_S.rf
  have in8 : ∀ w ∈ wsX80, w ∈ wsX8_reasonWithHead := by decide +kernel
  have lk_23 := hts (.fieldLink RX8 23 "BeamLines" "present" "LBeamLines$Beam;") (by decide +kernel)
  have lk_30 := hts (.fieldLink RX8 30 "BeamLines" "lines" "LBeamLines$Lines;") (by decide +kernel)
  have lk_43 := hts (.fieldLink RX8 43 "BeamLines" "forces" "LBeamLines$Forces;") (by decide +kernel)
  have hl := lv_entry ([.ref (G.2.2.1 8 0), .int (iI a0)]) (n := 2) (Nat.le_of_ble_eq_true rfl)
  rw [lg_entry_eq]
  generalize (lg_sl ([.ref (G.2.2.1 8 0), .int (iI a0)]) ++ List.replicate (2 - (lg_sl ([.ref (G.2.2.1 8 0), .int (iI a0)])).length) Slot.unset).toArray = ls at hl ⊢
  have hl : lv_has ls 2 [(0, .ref (G.2.2.1 8 0)), (1, .int (iI a0))] := hl
  unfold f8_reasonWithHead at h
  refine lv_aload_n hx hb dX8_reasonWithHead_0 rfl (lv_at hl 0 rfl) ?_
  refine gg_8_6 hx hb hts in8 hown hK hI hv_this lk_43 dX8_reasonWithHead_1 ?_
  refine lv_aload_n hx hb dX8_reasonWithHead_4 rfl (lv_at hl 0 rfl) ?_
  refine gg_8_2 hx hb hts in8 hown hK hI hv_this lk_23 dX8_reasonWithHead_5 ?_
  refine lv_aload_n hx hb dX8_reasonWithHead_8 rfl (lv_at hl 0 rfl) ?_
  refine gg_8_3 hx hb hts in8 hown hK hI hv_this lk_30 dX8_reasonWithHead_9 ?_
  refine lv_iload_n hx hb dX8_reasonWithHead_12 rfl (lv_at hl 1 rfl) ?_
  refine r_callv (va_runV (As := [.ref (G.2.2.1 0 0), .ref (G.2.2.1 3 0), .int (iI a0)]) (rest := []) ⟨hx, hb, hml, hown, hts⟩ (m1_underAll l G 0 0 0 (vrC_8_6 hv_this) (vrC_8_2 hv_this) (vrC_8_3 hv_this) _ st a0 h) (cwV 3 hts gX8_reasonWithHead_X1_underAll rfl rfl rfl hd1_underAll ⟨Nat.le_of_ble_eq_true rfl, Nat.le_of_ble_eq_true rfl⟩) (pre_V hK hX hI hA hS (vrC_8_6 hv_this) rfl rfl [.ref (G.2.2.1 0 0), .ref (G.2.2.1 3 0), .int (iI a0)]) rfl rfl hl.1 rfl (lv_room (Nat.le_of_ble_eq_true rfl)) dX8_reasonWithHead_13 ⟨Nat.le_of_ble_eq_true rfl, Nat.le_of_ble_eq_true rfl⟩) hS (fun st2 h H locs hI hS => ?_)
  refine lv_aload_n hx hb dX8_reasonWithHead_16 rfl (lv_at hl 0 rfl) ?_
  refine gg_8_6 hx hb hts in8 hown hK hI hv_this lk_43 dX8_reasonWithHead_17 ?_
  refine lv_aload_n hx hb dX8_reasonWithHead_20 rfl (lv_at hl 0 rfl) ?_
  refine gg_8_2 hx hb hts in8 hown hK hI hv_this lk_23 dX8_reasonWithHead_21 ?_
  refine lv_aload_n hx hb dX8_reasonWithHead_24 rfl (lv_at hl 0 rfl) ?_
  refine gg_8_3 hx hb hts in8 hown hK hI hv_this lk_30 dX8_reasonWithHead_25 ?_
  refine r_calli (va_runV (As := [.ref (G.2.2.1 0 0), .ref (G.2.2.1 3 0)]) (rest := []) ⟨hx, hb, hml, hown, hts⟩ (m1_firstReason l G 0 0 0 (vrC_8_6 hv_this) (vrC_8_2 hv_this) (vrC_8_3 hv_this) _ st2 h) (cwV 2 hts gX8_reasonWithHead_X1_firstReason rfl rfl rfl hd1_firstReason ⟨Nat.le_of_ble_eq_true rfl, Nat.le_of_ble_eq_true rfl⟩) (pre_V hK hX hI hA hS (vrC_8_6 hv_this) rfl rfl [.ref (G.2.2.1 0 0), .ref (G.2.2.1 3 0)]) rfl rfl hl.1 rfl (lv_room (Nat.le_of_ble_eq_true rfl)) dX8_reasonWithHead_28 ⟨Nat.le_of_ble_eq_true rfl, Nat.le_of_ble_eq_true rfl⟩) hS (fun z3 st4 h H locs hI hS => ?_)
  exact r_iret hx hb hr hlocks hK hI hS (Qp := Q) h dX8_reasonWithHead_31
theorem hd8_danger : yX8_danger.cls = RX8 ∧ yX8_danger.cls ≠ "java/lang/invoke/MethodHandle" ∧ yX8_danger.cls ≠ "java/lang/invoke/VarHandle" ∧ (parseMethodDescriptor yX8_danger.desc).map (fun d => d.parameters.length) = some 1 := by decide +kernel
set_option maxHeartbeats 4000000 in
set_option maxRecDepth 100000 in
theorem m8_danger (l : Launch) (G : WG) (hfl : l.stackTraces = false)  (hv_this : vC 8 0) (Q : Int → St → Prop) (X : String → St → Prop) (st : St) (a0 : Int) (h : f8_danger Q X st a0) : vx_Met l yX8_danger wsX8_danger ({ frames := 8, cells := 1, slots := 6, locals := 139 }) (PcM vC G st [.ref (G.2.2.1 8 0), .int (iI a0)]) (QiM vC G Q) (XM vC G X) 1 6 G.2.2.2.1 := by
  refine vx_ofW (cc := cX8_danger) (maxL := 2) (ret := (some .int)) (by decide) rfl ?_
  intro p e s m args below meth c s₁ B hml hE hvv
  obtain ⟨rfl, hA, hI, hK, hX⟩ := hvv
  have hx := B.exec
  have hb := B.bytes
  have hr := B.returns
  have hts := atoms_spec (ws := wsX8_danger) B.pre
  have hown : s.vm.findClass RX8 = some m.cls := findClass_of_methodNamed B.named
  have hlocks := B.notSynchronized
  have hS : va_S G.2.2.2.1 s.heap s.heap [] := va_S.rf
  have hl := lv_entry ([.ref (G.2.2.1 8 0), .int (iI a0)]) (n := 2) (Nat.le_of_ble_eq_true rfl)
  rw [lg_entry_eq]
  generalize (lg_sl ([.ref (G.2.2.1 8 0), .int (iI a0)]) ++ List.replicate (2 - (lg_sl ([.ref (G.2.2.1 8 0), .int (iI a0)])).length) Slot.unset).toArray = ls at hl ⊢
  have hl : lv_has ls 2 [(0, .ref (G.2.2.1 8 0)), (1, .int (iI a0))] := hl
  unfold f8_danger at h
  refine lv_aload_n hx hb dX8_danger_0 rfl (lv_at hl 0 rfl) ?_
  refine lv_iload_n hx hb dX8_danger_1 rfl (lv_at hl 1 rfl) ?_
  refine r_xcallv (vx_runV (As := [.int (iI a0)]) (rest := []) ⟨hx, hb, hml, hown, hts⟩ (m8_needHead l G hfl hv_this _ _ st a0 h) (cwV 1 hts gX8_danger_X8_needHead rfl rfl rfl hd8_needHead ⟨Nat.le_of_ble_eq_true rfl, Nat.le_of_ble_eq_true rfl⟩) (pre_V hK hX hI hA hS hv_this rfl rfl [.int (iI a0)]) rfl rfl hl.1 rfl (lv_room (Nat.le_of_ble_eq_true rfl)) dX8_danger_2 ⟨Nat.le_of_ble_eq_true rfl, Nat.le_of_ble_eq_true rfl⟩) hS hE hlocks hK (by decide) (by decide) (fun st2 h H locs hI hS => ?_)
  refine lv_aload_n hx hb dX8_danger_5 rfl (lv_at hl 0 rfl) ?_
  refine lv_iload_n hx hb dX8_danger_6 rfl (lv_at hl 1 rfl) ?_
  refine r_calli (va_runV (As := [.int (iI a0)]) (rest := []) ⟨hx, hb, hml, hown, hts⟩ (m8_reasonWithHead l G hv_this _ st2 a0 h) (cwV 1 hts gX8_danger_X8_reasonWithHead rfl rfl rfl hd8_reasonWithHead ⟨Nat.le_of_ble_eq_true rfl, Nat.le_of_ble_eq_true rfl⟩) (pre_V hK hX hI hA hS hv_this rfl rfl [.int (iI a0)]) rfl rfl hl.1 rfl (lv_room (Nat.le_of_ble_eq_true rfl)) dX8_danger_7 ⟨Nat.le_of_ble_eq_true rfl, Nat.le_of_ble_eq_true rfl⟩) hS (fun z3 st4 h H locs hI hS => ?_)
  refine W.widen (k := 1) (n := 6) (by decide) (by decide) ?_
  exact vx_ret (r_iret hx hb hr hlocks hK hI hS (Qp := Q) h dX8_danger_10)
theorem hd8_firstDanger : yX8_firstDanger.cls = RX8 ∧ yX8_firstDanger.cls ≠ "java/lang/invoke/MethodHandle" ∧ yX8_firstDanger.cls ≠ "java/lang/invoke/VarHandle" ∧ (parseMethodDescriptor yX8_firstDanger.desc).map (fun d => d.parameters.length) = some 0 := by decide +kernel
set_option maxHeartbeats 4000000 in
set_option maxRecDepth 100000 in
theorem m8_firstDanger (l : Launch) (G : WG)   (hv_this : vC 8 0) (Q : Int → St → Prop) (st : St)  (h : f8_firstDanger Q st) : Met l yX8_firstDanger wsX8_firstDanger ({ frames := 6, cells := 0, slots := 0, locals := 139 }) (PcM vC G st [.ref (G.2.2.1 8 0)]) (QiM vC G Q) 0 0 G.2.2.2.1 := by
  refine Met.ofW (cc := cX8_firstDanger) (maxL := 3) (ret := (some .int)) (by decide) rfl ?_
  intro p e s m args below meth c s₁ B hml hvv
  obtain ⟨rfl, hA, hI, hK, hX⟩ := hvv
  have hx := B.exec
  have hb := B.bytes
  have hr := B.returns
  have hts := atoms_spec (ws := wsX8_firstDanger) B.pre
  have hown : s.vm.findClass RX8 = some m.cls := findClass_of_methodNamed B.named
  have hlocks := B.notSynchronized
  have hS : va_S G.2.2.2.1 s.heap s.heap [] := va_S.rf
  have in8 : ∀ w ∈ wsX80, w ∈ wsX8_firstDanger := by decide +kernel
  have lk_23 := hts (.fieldLink RX8 23 "BeamLines" "present" "LBeamLines$Beam;") (by decide +kernel)
  have hl := lv_entry ([.ref (G.2.2.1 8 0)]) (n := 3) (Nat.le_of_ble_eq_true rfl)
  rw [lg_entry_eq]
  generalize (lg_sl ([.ref (G.2.2.1 8 0)]) ++ List.replicate (3 - (lg_sl ([.ref (G.2.2.1 8 0)])).length) Slot.unset).toArray = ls at hl ⊢
  have hl : lv_has ls 3 [(0, .ref (G.2.2.1 8 0))] := hl
  have L10 : ∀ (v1x10 : Int) (n10 : Nat), ∀ (st : St) (v2x10 : Int) (H : Heap) (locs : List Loc) (ls : Array Slot), Iv vC G st H → va_S G.2.2.2.1 s.heap H locs → lv_has ls 3 [(0, .ref (G.2.2.1 8 0)), (1, .int (iI v1x10)), (2, .int (iI v2x10))] → f8_firstDanger_l10 Q v1x10 n10 st v2x10 → W p l e (headSpec wsX8_firstDanger ({ frames := 6, cells := 0, slots := 0, locals := 139 })).room s m ([.ref (G.2.2.1 8 0)] : List Value).toArray below meth c H locs 0 0 (MQ below (QiM vC G Q) ([.ref (G.2.2.1 8 0)] : List Value).toArray s 0 0 G.2.2.2.1) (F0 m 10 ls []) := by
    intro v1x10 n10
    induction n10 with
    | zero =>
      intro st v2x10 H locs ls hI hS hl h
      exact h.elim
    | succ n10 ih10 =>
      intro st v2x10 H locs ls hI hS hl h
      unfold f8_firstDanger_l10 at h
      refine lv_iload_n hx hb dX8_firstDanger_10 rfl (lv_at hl 2 rfl) ?_
      refine lv_iload_n hx hb dX8_firstDanger_11 rfl (lv_at hl 1 rfl) ?_
      obtain ⟨g3, h⟩ := h
      obtain ⟨g4, h⟩ := h
      refine r_icmp_gt (tgt := 31) hx hb dX8_firstDanger_12 (by decide) g3 g4 (fun c5 => ?_) (fun c5 => ?_)
      · replace h := h.1 c5
        refine r_iconst (n := (-1)) hx hb dX8_firstDanger_31 ?_
        exact r_iret hx hb hr hlocks hK hI hS (Qp := Q) h dX8_firstDanger_32
      · replace h := h.2 c5
        refine lv_aload_n hx hb dX8_firstDanger_15 rfl (lv_at hl 0 rfl) ?_
        refine lv_iload_n hx hb dX8_firstDanger_16 rfl (lv_at hl 2 rfl) ?_
        refine r_calli (va_runV (As := [.int (iI v2x10)]) (rest := []) ⟨hx, hb, hml, hown, hts⟩ (m8_reasonWithHead l G hv_this _ st v2x10 h) (cwV 1 hts gX8_firstDanger_X8_reasonWithHead rfl rfl rfl hd8_reasonWithHead ⟨Nat.le_of_ble_eq_true rfl, Nat.le_of_ble_eq_true rfl⟩) (pre_V hK hX hI hA hS hv_this rfl rfl [.int (iI v2x10)]) rfl rfl hl.1 rfl (lv_room (Nat.le_of_ble_eq_true rfl)) dX8_firstDanger_17 ⟨Nat.le_of_ble_eq_true rfl, Nat.le_of_ble_eq_true rfl⟩) hS (fun z6 st7 h H locs hI hS => ?_)
        obtain ⟨g8, h⟩ := h
        refine r_if_eq (tgt := 25) hx hb dX8_firstDanger_20 (by decide) g8 (fun c9 => ?_) (fun c9 => ?_)
        · replace h := h.1 c9
          obtain ⟨x10, hx10⟩ : ∃ z : Int, z = v2x10 + 1 := ⟨_, rfl⟩
          replace h := h x10 hx10
          refine lv_iinc (v := iI x10) (lv' := [(2, .int (iI x10)), (0, .ref (G.2.2.1 8 0)), (1, .int (iI v1x10))]) hx hb dX8_firstDanger_25 hl (k := 2) rfl (by rw [hx10]; exact iI_add _ _) (by decide) rfl (fun ls hl => ?_)
          refine lv_goto (tgt := 10) hx hb dX8_firstDanger_28 (by decide) ?_
          exact ih10 st7 x10 _ _ ls hI hS (lv_sub hl [1, 2, 0] rfl) h
        · replace h := h.2 c9
          refine lv_iload_n hx hb dX8_firstDanger_23 rfl (lv_at hl 2 rfl) ?_
          exact r_iret hx hb hr hlocks hK hI hS (Qp := Q) h dX8_firstDanger_24
  unfold f8_firstDanger at h
  refine lv_aload_n hx hb dX8_firstDanger_0 rfl (lv_at hl 0 rfl) ?_
  refine gg_8_2 hx hb hts in8 hown hK hI hv_this lk_23 dX8_firstDanger_1 ?_
  refine r_calli (va_runV (As := []) (rest := []) ⟨hx, hb, hml, hown, hts⟩ (m0_lastHead l G 0 (vrC_8_2 hv_this) _ st h) (cwV 0 hts gX8_firstDanger_X0_lastHead rfl rfl rfl hd0_lastHead ⟨Nat.le_of_ble_eq_true rfl, Nat.le_of_ble_eq_true rfl⟩) (pre_V hK hX hI hA hS (vrC_8_2 hv_this) rfl rfl []) rfl rfl hl.1 rfl (lv_room (Nat.le_of_ble_eq_true rfl)) dX8_firstDanger_4 ⟨Nat.le_of_ble_eq_true rfl, Nat.le_of_ble_eq_true rfl⟩) hS (fun z1 st2 h H locs hI hS => ?_)
  refine lv_istore_n (lv' := [(1, .int (iI z1)), (0, .ref (G.2.2.1 8 0))]) hx hb dX8_firstDanger_7 rfl hl (by decide) rfl (fun ls hl => ?_)
  refine r_iconst (n := 0) hx hb dX8_firstDanger_8 ?_
  refine lv_istore_n (lv' := [(2, .int (iI 0)), (1, .int (iI z1)), (0, .ref (G.2.2.1 8 0))]) hx hb dX8_firstDanger_9 rfl hl (by decide) rfl (fun ls hl => ?_)
  obtain ⟨kk, h⟩ := h
  exact L10 z1 kk st2 0 _ _ ls hI hS (lv_sub hl [2, 1, 0] rfl) h
theorem hd8_lifting : yX8_lifting.cls = RX8 ∧ yX8_lifting.cls ≠ "java/lang/invoke/MethodHandle" ∧ yX8_lifting.cls ≠ "java/lang/invoke/VarHandle" ∧ (parseMethodDescriptor yX8_lifting.desc).map (fun d => d.parameters.length) = some 0 := by decide +kernel
set_option maxHeartbeats 4000000 in
set_option maxRecDepth 100000 in
theorem m8_lifting (l : Launch) (G : WG)   (hv_this : vC 8 0) (Q : Int → St → Prop) (st : St)  (h : f8_lifting Q st) : Met l yX8_lifting wsX8_lifting ({ frames := 5, cells := 0, slots := 0, locals := 118 }) (PcM vC G st [.ref (G.2.2.1 8 0)]) (QiM vC G Q) 0 0 G.2.2.2.1 := by
  refine Met.ofW (cc := cX8_lifting) (maxL := 4) (ret := (some .int)) (by decide) rfl ?_
  intro p e s m args below meth c s₁ B hml hvv
  obtain ⟨rfl, hA, hI, hK, hX⟩ := hvv
  have hx := B.exec
  have hb := B.bytes
  have hr := B.returns
  have hts := atoms_spec (ws := wsX8_lifting) B.pre
  have hown : s.vm.findClass RX8 = some m.cls := findClass_of_methodNamed B.named
  have hlocks := B.notSynchronized
  have hS : va_S G.2.2.2.1 s.heap s.heap [] := va_S.rf
  have in8 : ∀ w ∈ wsX80, w ∈ wsX8_lifting := by decide +kernel
  have lk_23 := hts (.fieldLink RX8 23 "BeamLines" "present" "LBeamLines$Beam;") (by decide +kernel)
  have lk_30 := hts (.fieldLink RX8 30 "BeamLines" "lines" "LBeamLines$Lines;") (by decide +kernel)
  have lk_43 := hts (.fieldLink RX8 43 "BeamLines" "forces" "LBeamLines$Forces;") (by decide +kernel)
  have hl := lv_entry ([.ref (G.2.2.1 8 0)]) (n := 4) (Nat.le_of_ble_eq_true rfl)
  rw [lg_entry_eq]
  generalize (lg_sl ([.ref (G.2.2.1 8 0)]) ++ List.replicate (4 - (lg_sl ([.ref (G.2.2.1 8 0)])).length) Slot.unset).toArray = ls at hl ⊢
  have hl : lv_has ls 4 [(0, .ref (G.2.2.1 8 0))] := hl
  have L12 : ∀ (v2x12 : Int) (n12 : Nat), ∀ (st : St) (v1x12 : Int) (v3x12 : Int) (H : Heap) (locs : List Loc) (ls : Array Slot), Iv vC G st H → va_S G.2.2.2.1 s.heap H locs → lv_has ls 4 [(0, .ref (G.2.2.1 8 0)), (1, .int (iI v1x12)), (2, .int (iI v2x12)), (3, .int (iI v3x12))] → f8_lifting_l12 Q v2x12 n12 st v1x12 v3x12 → W p l e (headSpec wsX8_lifting ({ frames := 5, cells := 0, slots := 0, locals := 118 })).room s m ([.ref (G.2.2.1 8 0)] : List Value).toArray below meth c H locs 0 0 (MQ below (QiM vC G Q) ([.ref (G.2.2.1 8 0)] : List Value).toArray s 0 0 G.2.2.2.1) (F0 m 12 ls []) := by
    intro v2x12 n12
    induction n12 with
    | zero =>
      intro st v1x12 v3x12 H locs ls hI hS hl h
      exact h.elim
    | succ n12 ih12 =>
      intro st v1x12 v3x12 H locs ls hI hS hl h
      unfold f8_lifting_l12 at h
      refine lv_iload_n hx hb dX8_lifting_12 rfl (lv_at hl 3 rfl) ?_
      refine lv_iload_n hx hb dX8_lifting_13 rfl (lv_at hl 2 rfl) ?_
      obtain ⟨g3, h⟩ := h
      obtain ⟨g4, h⟩ := h
      refine r_icmp_gt (tgt := 49) hx hb dX8_lifting_14 (by decide) g3 g4 (fun c5 => ?_) (fun c5 => ?_)
      · replace h := h.1 c5
        refine lv_iload_n hx hb dX8_lifting_49 rfl (lv_at hl 1 rfl) ?_
        exact r_iret hx hb hr hlocks hK hI hS (Qp := Q) h dX8_lifting_50
      · replace h := h.2 c5
        refine lv_aload_n hx hb dX8_lifting_17 rfl (lv_at hl 0 rfl) ?_
        refine gg_8_6 hx hb hts in8 hown hK hI hv_this lk_43 dX8_lifting_18 ?_
        refine lv_aload_n hx hb dX8_lifting_21 rfl (lv_at hl 0 rfl) ?_
        refine gg_8_2 hx hb hts in8 hown hK hI hv_this lk_23 dX8_lifting_22 ?_
        refine lv_aload_n hx hb dX8_lifting_25 rfl (lv_at hl 0 rfl) ?_
        refine gg_8_3 hx hb hts in8 hown hK hI hv_this lk_30 dX8_lifting_26 ?_
        refine lv_iload_n hx hb dX8_lifting_29 rfl (lv_at hl 3 rfl) ?_
        refine r_callv (va_runV (As := [.ref (G.2.2.1 0 0), .ref (G.2.2.1 3 0), .int (iI v3x12)]) (rest := []) ⟨hx, hb, hml, hown, hts⟩ (m1_underAll l G 0 0 0 (vrC_8_6 hv_this) (vrC_8_2 hv_this) (vrC_8_3 hv_this) _ st v3x12 h) (cwV 3 hts gX8_lifting_X1_underAll rfl rfl rfl hd1_underAll ⟨Nat.le_of_ble_eq_true rfl, Nat.le_of_ble_eq_true rfl⟩) (pre_V hK hX hI hA hS (vrC_8_6 hv_this) rfl rfl [.ref (G.2.2.1 0 0), .ref (G.2.2.1 3 0), .int (iI v3x12)]) rfl rfl hl.1 rfl (lv_room (Nat.le_of_ble_eq_true rfl)) dX8_lifting_30 ⟨Nat.le_of_ble_eq_true rfl, Nat.le_of_ble_eq_true rfl⟩) hS (fun st7 h H locs hI hS => ?_)
        refine lv_iload_n hx hb dX8_lifting_33 rfl (lv_at hl 1 rfl) ?_
        refine lv_aload_n hx hb dX8_lifting_34 rfl (lv_at hl 0 rfl) ?_
        refine gg_8_6 hx hb hts in8 hown hK hI hv_this lk_43 dX8_lifting_35 ?_
        refine r_calli (va_runV (As := []) (rest := [.int (iI v1x12)]) ⟨hx, hb, hml, hown, hts⟩ (m1_liftedSet l G 0 (vrC_8_6 hv_this) _ st7 h) (cwV 0 hts gX8_lifting_X1_liftedSet rfl rfl rfl hd1_liftedSet ⟨Nat.le_of_ble_eq_true rfl, Nat.le_of_ble_eq_true rfl⟩) (pre_V hK hX hI hA hS (vrC_8_6 hv_this) rfl rfl []) rfl rfl hl.1 rfl (lv_room (Nat.le_of_ble_eq_true rfl)) dX8_lifting_38 ⟨Nat.le_of_ble_eq_true rfl, Nat.le_of_ble_eq_true rfl⟩) hS (fun z8 st9 h H locs hI hS => ?_)
        refine r_ior hx hb dX8_lifting_41 ?_
        refine r_topi (fun x10 hx10 => ?_)
        replace h := h x10 hx10
        refine lv_istore_n (lv' := [(1, .int (iI x10)), (0, .ref (G.2.2.1 8 0)), (2, .int (iI v2x12)), (3, .int (iI v3x12))]) hx hb dX8_lifting_42 rfl hl (by decide) rfl (fun ls hl => ?_)
        obtain ⟨x11, hx11⟩ : ∃ z : Int, z = v3x12 + 1 := ⟨_, rfl⟩
        replace h := h x11 hx11
        refine lv_iinc (v := iI x11) (lv' := [(3, .int (iI x11)), (1, .int (iI x10)), (0, .ref (G.2.2.1 8 0)), (2, .int (iI v2x12))]) hx hb dX8_lifting_43 hl (k := 3) rfl (by rw [hx11]; exact iI_add _ _) (by decide) rfl (fun ls hl => ?_)
        refine lv_goto (tgt := 12) hx hb dX8_lifting_46 (by decide) ?_
        exact ih12 st9 x10 x11 _ _ ls hI hS (lv_sub hl [2, 1, 3, 0] rfl) h
  unfold f8_lifting at h
  refine r_iconst (n := 0) hx hb dX8_lifting_0 ?_
  refine lv_istore_n (lv' := [(1, .int (iI 0)), (0, .ref (G.2.2.1 8 0))]) hx hb dX8_lifting_1 rfl hl (by decide) rfl (fun ls hl => ?_)
  refine lv_aload_n hx hb dX8_lifting_2 rfl (lv_at hl 1 rfl) ?_
  refine gg_8_2 hx hb hts in8 hown hK hI hv_this lk_23 dX8_lifting_3 ?_
  refine r_calli (va_runV (As := []) (rest := []) ⟨hx, hb, hml, hown, hts⟩ (m0_lastHead l G 0 (vrC_8_2 hv_this) _ st h) (cwV 0 hts gX8_lifting_X0_lastHead rfl rfl rfl hd0_lastHead ⟨Nat.le_of_ble_eq_true rfl, Nat.le_of_ble_eq_true rfl⟩) (pre_V hK hX hI hA hS (vrC_8_2 hv_this) rfl rfl []) rfl rfl hl.1 rfl (lv_room (Nat.le_of_ble_eq_true rfl)) dX8_lifting_6 ⟨Nat.le_of_ble_eq_true rfl, Nat.le_of_ble_eq_true rfl⟩) hS (fun z1 st2 h H locs hI hS => ?_)
  refine lv_istore_n (lv' := [(2, .int (iI z1)), (1, .int (iI 0)), (0, .ref (G.2.2.1 8 0))]) hx hb dX8_lifting_9 rfl hl (by decide) rfl (fun ls hl => ?_)
  refine r_iconst (n := 0) hx hb dX8_lifting_10 ?_
  refine lv_istore_n (lv' := [(3, .int (iI 0)), (2, .int (iI z1)), (1, .int (iI 0)), (0, .ref (G.2.2.1 8 0))]) hx hb dX8_lifting_11 rfl hl (by decide) rfl (fun ls hl => ?_)
  obtain ⟨kk, h⟩ := h
  exact L12 z1 kk st2 0 0 _ _ ls hI hS (lv_sub hl [3, 2, 1, 0] rfl) h
theorem hd8_needHingePlace : yX8_needHingePlace.cls = RX8 ∧ yX8_needHingePlace.cls ≠ "java/lang/invoke/MethodHandle" ∧ yX8_needHingePlace.cls ≠ "java/lang/invoke/VarHandle" ∧ (parseMethodDescriptor yX8_needHingePlace.desc).map (fun d => d.parameters.length) = some 1 := by decide +kernel
set_option maxHeartbeats 4000000 in
set_option maxRecDepth 100000 in
theorem m8_needHingePlace (l : Launch) (G : WG) (hfl : l.stackTraces = false)  (hv_this : vC 8 0) (Q : St → Prop) (X : String → St → Prop) (st : St) (a0 : Int) (h : f8_needHingePlace Q X st a0) : vx_Met l yX8_needHingePlace wsX8_needHingePlace ({ frames := 7, cells := 1, slots := 6, locals := 112 }) (PcM vC G st [.ref (G.2.2.1 8 0), .int (iI a0)]) (QvM vC G Q) (XM vC G X) 1 6 G.2.2.2.1 := by
  refine vx_ofW (cc := cX8_needHingePlace) (maxL := 2) (ret := none) (by decide) rfl ?_
  intro p e s m args below meth c s₁ B hml hE hvv
  obtain ⟨rfl, hA, hI, hK, hX⟩ := hvv
  have hx := B.exec
  have hb := B.bytes
  have hr := B.returns
  have hts := atoms_spec (ws := wsX8_needHingePlace) B.pre
  have hown : s.vm.findClass RX8 = some m.cls := findClass_of_methodNamed B.named
  have hlocks := B.notSynchronized
  have hS : va_S G.2.2.2.1 s.heap s.heap [] := va_S.rf
  have in0 : ∀ w ∈ wsX00, w ∈ wsX8_needHingePlace := by decide +kernel
  have in8 : ∀ w ∈ wsX80, w ∈ wsX8_needHingePlace := by decide +kernel
  have lk_23 := hts (.fieldLink RX8 23 "BeamLines" "present" "LBeamLines$Beam;") (by decide +kernel)
  have lk_79 := hts (.fieldLink RX8 79 "BeamLines$Beam" "length" "I") (by decide +kernel)
  have hl := lv_entry ([.ref (G.2.2.1 8 0), .int (iI a0)]) (n := 2) (Nat.le_of_ble_eq_true rfl)
  rw [lg_entry_eq]
  generalize (lg_sl ([.ref (G.2.2.1 8 0), .int (iI a0)]) ++ List.replicate (2 - (lg_sl ([.ref (G.2.2.1 8 0), .int (iI a0)])).length) Slot.unset).toArray = ls at hl ⊢
  have hl : lv_has ls 2 [(0, .ref (G.2.2.1 8 0)), (1, .int (iI a0))] := hl
  unfold f8_needHingePlace at h
  refine lv_aload_n hx hb dX8_needHingePlace_0 rfl (lv_at hl 0 rfl) ?_
  refine lv_iload_n hx hb dX8_needHingePlace_1 rfl (lv_at hl 1 rfl) ?_
  refine r_iconst (n := 1) hx hb dX8_needHingePlace_2 ?_
  refine lv_aload_n hx hb dX8_needHingePlace_3 rfl (lv_at hl 0 rfl) ?_
  refine gg_8_2 hx hb hts in8 hown hK hI hv_this lk_23 dX8_needHingePlace_4 ?_
  refine gg_0_0 hx hb hts in0 hown hK hI (vrC_8_2 hv_this) lk_79 dX8_needHingePlace_7 ?_
  refine r_iconst (n := 1) hx hb dX8_needHingePlace_10 ?_
  refine r_isub hx hb dX8_needHingePlace_11 ?_
  refine r_xcallv (vx_runV (As := [.int (iI a0), .int (iI 1), .int (iI ((st 0 0 0 0) - 1))]) (rest := []) ⟨hx, hb, hml, hown, hts⟩ (m8_needRange l G hfl hv_this _ _ st a0 1 ((st 0 0 0 0) - 1) h) (cwV 3 hts gX8_needHingePlace_X8_needRange rfl rfl rfl hd8_needRange ⟨Nat.le_of_ble_eq_true rfl, Nat.le_of_ble_eq_true rfl⟩) (pre_V hK hX hI hA hS hv_this rfl rfl [.int (iI a0), .int (iI 1), .int (iI ((st 0 0 0 0) - 1))]) rfl rfl hl.1 rfl (lv_room (Nat.le_of_ble_eq_true rfl)) dX8_needHingePlace_12 ⟨Nat.le_of_ble_eq_true rfl, Nat.le_of_ble_eq_true rfl⟩) hS hE hlocks hK (by decide) (by decide) (fun st2 h H locs hI hS => ?_)
  refine W.widen (k := 1) (n := 6) (by decide) (by decide) ?_
  exact vx_ret (r_vret hx hb hr hlocks hK hI hS (Qp := Q) h dX8_needHingePlace_15)
theorem hd8_tryHingeAt : yX8_tryHingeAt.cls = RX8 ∧ yX8_tryHingeAt.cls ≠ "java/lang/invoke/MethodHandle" ∧ yX8_tryHingeAt.cls ≠ "java/lang/invoke/VarHandle" ∧ (parseMethodDescriptor yX8_tryHingeAt.desc).map (fun d => d.parameters.length) = some 2 := by decide +kernel
set_option maxHeartbeats 4000000 in
set_option maxRecDepth 100000 in
theorem m8_tryHingeAt (l : Launch) (G : WG)   (hv_this : vC 8 0) (Q : Int → St → Prop) (st : St) (a0 : Int) (a1 : Int) (h : f8_tryHingeAt Q st a0 a1) : Met l yX8_tryHingeAt wsX8_tryHingeAt ({ frames := 5, cells := 0, slots := 0, locals := 113 }) (PcM vC G st [.ref (G.2.2.1 8 0), .int (iI a0), .int (iI a1)]) (QiM vC G Q) 0 0 G.2.2.2.1 := by
  refine Met.ofW (cc := cX8_tryHingeAt) (maxL := 4) (ret := (some .int)) (by decide) rfl ?_
  intro p e s m args below meth c s₁ B hml hvv
  obtain ⟨rfl, hA, hI, hK, hX⟩ := hvv
  have hx := B.exec
  have hb := B.bytes
  have hr := B.returns
  have hts := atoms_spec (ws := wsX8_tryHingeAt) B.pre
  have hown : s.vm.findClass RX8 = some m.cls := findClass_of_methodNamed B.named
  have hlocks := B.notSynchronized
  have hS : va_S G.2.2.2.1 s.heap s.heap [] := va_S.rf
  have in0 : ∀ w ∈ wsX00, w ∈ wsX8_tryHingeAt := by decide +kernel
  have in8 : ∀ w ∈ wsX80, w ∈ wsX8_tryHingeAt := by decide +kernel
  have lk_23 := hts (.fieldLink RX8 23 "BeamLines" "present" "LBeamLines$Beam;") (by decide +kernel)
  have lk_34 := hts (.fieldLink RX8 34 "BeamLines" "trial" "LBeamLines$Beam;") (by decide +kernel)
  have lk_37 := hts (.fieldLink RX8 37 "BeamLines" "trialLines" "LBeamLines$Lines;") (by decide +kernel)
  have lk_138 := hts (.fieldLink RX8 138 "BeamLines$Beam" "hinges" "LBeamLines$Row;") (by decide +kernel)
  have hl := lv_entry ([.ref (G.2.2.1 8 0), .int (iI a0), .int (iI a1)]) (n := 4) (Nat.le_of_ble_eq_true rfl)
  rw [lg_entry_eq]
  generalize (lg_sl ([.ref (G.2.2.1 8 0), .int (iI a0), .int (iI a1)]) ++ List.replicate (4 - (lg_sl ([.ref (G.2.2.1 8 0), .int (iI a0), .int (iI a1)])).length) Slot.unset).toArray = ls at hl ⊢
  have hl : lv_has ls 4 [(0, .ref (G.2.2.1 8 0)), (1, .int (iI a0)), (2, .int (iI a1))] := hl
  unfold f8_tryHingeAt at h
  refine lv_aload_n hx hb dX8_tryHingeAt_0 rfl (lv_at hl 0 rfl) ?_
  refine gg_8_4 hx hb hts in8 hown hK hI hv_this lk_34 dX8_tryHingeAt_1 ?_
  refine lv_aload_n hx hb dX8_tryHingeAt_4 rfl (lv_at hl 0 rfl) ?_
  refine gg_8_2 hx hb hts in8 hown hK hI hv_this lk_23 dX8_tryHingeAt_5 ?_
  refine r_callv (va_runV (As := [.ref (G.2.2.1 0 0)]) (rest := []) ⟨hx, hb, hml, hown, hts⟩ (m0_copyFrom l G 1 0 (vrC_8_4 hv_this) (vrC_8_2 hv_this) _ st h) (cwV 1 hts gX8_tryHingeAt_X0_copyFrom rfl rfl rfl hd0_copyFrom ⟨Nat.le_of_ble_eq_true rfl, Nat.le_of_ble_eq_true rfl⟩) (pre_V hK hX hI hA hS (vrC_8_4 hv_this) rfl rfl [.ref (G.2.2.1 0 0)]) rfl rfl hl.1 rfl (lv_room (Nat.le_of_ble_eq_true rfl)) dX8_tryHingeAt_8 ⟨Nat.le_of_ble_eq_true rfl, Nat.le_of_ble_eq_true rfl⟩) hS (fun st2 h H locs hI hS => ?_)
  refine lv_aload_n hx hb dX8_tryHingeAt_11 rfl (lv_at hl 0 rfl) ?_
  refine gg_8_4 hx hb hts in8 hown hK hI hv_this lk_34 dX8_tryHingeAt_12 ?_
  refine gg_0_3 hx hb hts in0 hown hK hI (vrC_8_4 hv_this) lk_138 dX8_tryHingeAt_15 ?_
  refine lv_iload_n hx hb dX8_tryHingeAt_18 rfl (lv_at hl 1 rfl) ?_
  refine r_callv (va_runV (As := [.int (iI a0)]) (rest := []) ⟨hx, hb, hml, hown, hts⟩ (m6_remove l G (4 * 1 + 1) (vrC_0_3 (vrC_8_4 hv_this)) _ st2 a0 h) (cwV 1 hts gX8_tryHingeAt_X6_remove rfl rfl rfl hd6_remove ⟨Nat.le_of_ble_eq_true rfl, Nat.le_of_ble_eq_true rfl⟩) (pre_V hK hX hI hA hS (vrC_0_3 (vrC_8_4 hv_this)) rfl rfl [.int (iI a0)]) rfl rfl hl.1 rfl (lv_room (Nat.le_of_ble_eq_true rfl)) dX8_tryHingeAt_19 ⟨Nat.le_of_ble_eq_true rfl, Nat.le_of_ble_eq_true rfl⟩) hS (fun st4 h H locs hI hS => ?_)
  refine lv_aload_n hx hb dX8_tryHingeAt_22 rfl (lv_at hl 0 rfl) ?_
  refine gg_8_4 hx hb hts in8 hown hK hI hv_this lk_34 dX8_tryHingeAt_23 ?_
  refine lv_iload_n hx hb dX8_tryHingeAt_26 rfl (lv_at hl 2 rfl) ?_
  refine r_calli (va_runV (As := [.int (iI a1)]) (rest := []) ⟨hx, hb, hml, hown, hts⟩ (m0_isTaken l G 1 (vrC_8_4 hv_this) _ st4 a1 h) (cwV 1 hts gX8_tryHingeAt_X0_isTaken rfl rfl rfl hd0_isTaken ⟨Nat.le_of_ble_eq_true rfl, Nat.le_of_ble_eq_true rfl⟩) (pre_V hK hX hI hA hS (vrC_8_4 hv_this) rfl rfl [.int (iI a1)]) rfl rfl hl.1 rfl (lv_room (Nat.le_of_ble_eq_true rfl)) dX8_tryHingeAt_27 ⟨Nat.le_of_ble_eq_true rfl, Nat.le_of_ble_eq_true rfl⟩) hS (fun z5 st6 h H locs hI hS => ?_)
  obtain ⟨g7, h⟩ := h
  refine r_if_eq (tgt := 36) hx hb dX8_tryHingeAt_30 (by decide) g7 (fun c8 => ?_) (fun c8 => ?_)
  · replace h := h.1 c8
    refine lv_aload_n hx hb dX8_tryHingeAt_36 rfl (lv_at hl 0 rfl) ?_
    refine gg_8_4 hx hb hts in8 hown hK hI hv_this lk_34 dX8_tryHingeAt_37 ?_
    refine gg_0_3 hx hb hts in0 hown hK hI (vrC_8_4 hv_this) lk_138 dX8_tryHingeAt_40 ?_
    refine lv_iload_n hx hb dX8_tryHingeAt_43 rfl (lv_at hl 2 rfl) ?_
    refine r_iconst (n := 0) hx hb dX8_tryHingeAt_44 ?_
    refine r_calli (va_runV (As := [.int (iI a1), .int (iI 0)]) (rest := []) ⟨hx, hb, hml, hown, hts⟩ (m6_putInOrder l G (4 * 1 + 1) (vrC_0_3 (vrC_8_4 hv_this)) _ st6 a1 0 h) (cwV 2 hts gX8_tryHingeAt_X6_putInOrder rfl rfl rfl hd6_putInOrder ⟨Nat.le_of_ble_eq_true rfl, Nat.le_of_ble_eq_true rfl⟩) (pre_V hK hX hI hA hS (vrC_0_3 (vrC_8_4 hv_this)) rfl rfl [.int (iI a1), .int (iI 0)]) rfl rfl hl.1 rfl (lv_room (Nat.le_of_ble_eq_true rfl)) dX8_tryHingeAt_45 ⟨Nat.le_of_ble_eq_true rfl, Nat.le_of_ble_eq_true rfl⟩) hS (fun z9 st10 h H locs hI hS => ?_)
    refine lv_istore_n (lv' := [(3, .int (iI z9)), (0, .ref (G.2.2.1 8 0)), (1, .int (iI a0)), (2, .int (iI a1))]) hx hb dX8_tryHingeAt_48 rfl hl (by decide) rfl (fun ls hl => ?_)
    refine lv_aload_n hx hb dX8_tryHingeAt_49 rfl (lv_at hl 1 rfl) ?_
    refine gg_8_5 hx hb hts in8 hown hK hI hv_this lk_37 dX8_tryHingeAt_50 ?_
    refine lv_aload_n hx hb dX8_tryHingeAt_53 rfl (lv_at hl 1 rfl) ?_
    refine gg_8_4 hx hb hts in8 hown hK hI hv_this lk_34 dX8_tryHingeAt_54 ?_
    refine r_calli (va_runV (As := [.ref (G.2.2.1 0 1)]) (rest := []) ⟨hx, hb, hml, hown, hts⟩ (m3_reckon l G 1 1 (vrC_8_5 hv_this) (vrC_8_4 hv_this) _ st10 h) (cwV 1 hts gX8_tryHingeAt_X3_reckon rfl rfl rfl hd3_reckon ⟨Nat.le_of_ble_eq_true rfl, Nat.le_of_ble_eq_true rfl⟩) (pre_V hK hX hI hA hS (vrC_8_5 hv_this) rfl rfl [.ref (G.2.2.1 0 1)]) rfl rfl hl.1 rfl (lv_room (Nat.le_of_ble_eq_true rfl)) dX8_tryHingeAt_57 ⟨Nat.le_of_ble_eq_true rfl, Nat.le_of_ble_eq_true rfl⟩) hS (fun z11 st12 h H locs hI hS => ?_)
    obtain ⟨g13, h⟩ := h
    refine r_if_eq (tgt := 67) hx hb dX8_tryHingeAt_60 (by decide) g13 (fun c14 => ?_) (fun c14 => ?_)
    · replace h := h.1 c14
      refine r_bipush (n := (-12)) hx hb dX8_tryHingeAt_67 rfl ?_
      exact r_iret hx hb hr hlocks hK hI hS (Qp := Q) h dX8_tryHingeAt_69
    · replace h := h.2 c14
      refine lv_iload_n hx hb dX8_tryHingeAt_63 rfl (lv_at hl 0 rfl) ?_
      refine lv_goto (tgt := 69) hx hb dX8_tryHingeAt_64 (by decide) ?_
      exact r_iret hx hb hr hlocks hK hI hS (Qp := Q) h dX8_tryHingeAt_69
  · replace h := h.2 c8
    refine r_bipush (n := (-11)) hx hb dX8_tryHingeAt_33 rfl ?_
    exact r_iret hx hb hr hlocks hK hI hS (Qp := Q) h dX8_tryHingeAt_35
theorem hd8_tryHinge : yX8_tryHinge.cls = RX8 ∧ yX8_tryHinge.cls ≠ "java/lang/invoke/MethodHandle" ∧ yX8_tryHinge.cls ≠ "java/lang/invoke/VarHandle" ∧ (parseMethodDescriptor yX8_tryHinge.desc).map (fun d => d.parameters.length) = some 2 := by decide +kernel
set_option maxHeartbeats 4000000 in
set_option maxRecDepth 100000 in
theorem m8_tryHinge (l : Launch) (G : WG) (hfl : l.stackTraces = false)  (hv_this : vC 8 0) (Q : Int → St → Prop) (X : String → St → Prop) (st : St) (a0 : Int) (a1 : Int) (h : f8_tryHinge Q X st a0 a1) : vx_Met l yX8_tryHinge wsX8_tryHinge ({ frames := 8, cells := 2, slots := 12, locals := 136 }) (PcM vC G st [.ref (G.2.2.1 8 0), .int (iI a0), .int (iI a1)]) (QiM vC G Q) (XM vC G X) 2 12 G.2.2.2.1 := by
  refine vx_ofW (cc := cX8_tryHinge) (maxL := 4) (ret := (some .int)) (by decide) rfl ?_
  intro p e s m args below meth c s₁ B hml hE hvv
  obtain ⟨rfl, hA, hI, hK, hX⟩ := hvv
  have hx := B.exec
  have hb := B.bytes
  have hr := B.returns
  have hts := atoms_spec (ws := wsX8_tryHinge) B.pre
  have hown : s.vm.findClass RX8 = some m.cls := findClass_of_methodNamed B.named
  have hlocks := B.notSynchronized
  have hS : va_S G.2.2.2.1 s.heap s.heap [] := va_S.rf
  have in0 : ∀ w ∈ wsX00, w ∈ wsX8_tryHinge := by decide +kernel
  have in8 : ∀ w ∈ wsX80, w ∈ wsX8_tryHinge := by decide +kernel
  have lk_23 := hts (.fieldLink RX8 23 "BeamLines" "present" "LBeamLines$Beam;") (by decide +kernel)
  have lk_138 := hts (.fieldLink RX8 138 "BeamLines$Beam" "hinges" "LBeamLines$Row;") (by decide +kernel)
  have hl := lv_entry ([.ref (G.2.2.1 8 0), .int (iI a0), .int (iI a1)]) (n := 4) (Nat.le_of_ble_eq_true rfl)
  rw [lg_entry_eq]
  generalize (lg_sl ([.ref (G.2.2.1 8 0), .int (iI a0), .int (iI a1)]) ++ List.replicate (4 - (lg_sl ([.ref (G.2.2.1 8 0), .int (iI a0), .int (iI a1)])).length) Slot.unset).toArray = ls at hl ⊢
  have hl : lv_has ls 4 [(0, .ref (G.2.2.1 8 0)), (1, .int (iI a0)), (2, .int (iI a1))] := hl
  unfold f8_tryHinge at h
  refine lv_aload_n hx hb dX8_tryHinge_0 rfl (lv_at hl 0 rfl) ?_
  refine lv_aload_n hx hb dX8_tryHinge_1 rfl (lv_at hl 0 rfl) ?_
  refine gg_8_2 hx hb hts in8 hown hK hI hv_this lk_23 dX8_tryHinge_2 ?_
  refine gg_0_3 hx hb hts in0 hown hK hI (vrC_8_2 hv_this) lk_138 dX8_tryHinge_5 ?_
  refine lv_iload_n hx hb dX8_tryHinge_8 rfl (lv_at hl 1 rfl) ?_
  refine r_xcallv (vx_runV (As := [.ref (G.2.2.1 6 (4 * 0 + 1)), .int (iI a0)]) (rest := []) ⟨hx, hb, hml, hown, hts⟩ (m8_needNumber l G hfl (4 * 0 + 1) hv_this (vrC_0_3 (vrC_8_2 hv_this)) _ _ st a0 h) (cwV 2 hts gX8_tryHinge_X8_needNumber rfl rfl rfl hd8_needNumber ⟨Nat.le_of_ble_eq_true rfl, Nat.le_of_ble_eq_true rfl⟩) (pre_V hK hX hI hA hS hv_this rfl rfl [.ref (G.2.2.1 6 (4 * 0 + 1)), .int (iI a0)]) rfl rfl hl.1 rfl (lv_room (Nat.le_of_ble_eq_true rfl)) dX8_tryHinge_9 ⟨Nat.le_of_ble_eq_true rfl, Nat.le_of_ble_eq_true rfl⟩) hS hE hlocks hK (by decide) (by decide) (fun st2 h H locs hI hS => ?_)
  refine lv_aload_n hx hb dX8_tryHinge_12 rfl (lv_at hl 0 rfl) ?_
  refine lv_iload_n hx hb dX8_tryHinge_13 rfl (lv_at hl 2 rfl) ?_
  refine r_xcallv (vx_runV (As := [.int (iI a1)]) (rest := []) ⟨hx, hb, hml, hown, hts⟩ (m8_needHingePlace l G hfl hv_this _ _ st2 a1 h) (cwV 1 hts gX8_tryHinge_X8_needHingePlace rfl rfl rfl hd8_needHingePlace ⟨Nat.le_of_ble_eq_true rfl, Nat.le_of_ble_eq_true rfl⟩) (pre_V hK hX hI hA hS hv_this rfl rfl [.int (iI a1)]) rfl rfl hl.1 rfl (lv_room (Nat.le_of_ble_eq_true rfl)) dX8_tryHinge_14 ⟨Nat.le_of_ble_eq_true rfl, Nat.le_of_ble_eq_true rfl⟩) hS hE hlocks hK (by decide) (by decide) (fun st4 h H locs hI hS => ?_)
  refine lv_aload_n hx hb dX8_tryHinge_17 rfl (lv_at hl 0 rfl) ?_
  refine lv_iload_n hx hb dX8_tryHinge_18 rfl (lv_at hl 1 rfl) ?_
  refine lv_iload_n hx hb dX8_tryHinge_19 rfl (lv_at hl 2 rfl) ?_
  refine r_calli (va_runV (As := [.int (iI a0), .int (iI a1)]) (rest := []) ⟨hx, hb, hml, hown, hts⟩ (m8_tryHingeAt l G hv_this _ st4 a0 a1 h) (cwV 2 hts gX8_tryHinge_X8_tryHingeAt rfl rfl rfl hd8_tryHingeAt ⟨Nat.le_of_ble_eq_true rfl, Nat.le_of_ble_eq_true rfl⟩) (pre_V hK hX hI hA hS hv_this rfl rfl [.int (iI a0), .int (iI a1)]) rfl rfl hl.1 rfl (lv_room (Nat.le_of_ble_eq_true rfl)) dX8_tryHinge_20 ⟨Nat.le_of_ble_eq_true rfl, Nat.le_of_ble_eq_true rfl⟩) hS (fun z5 st6 h H locs hI hS => ?_)
  refine lv_istore_n (lv' := [(3, .int (iI z5)), (0, .ref (G.2.2.1 8 0)), (1, .int (iI a0)), (2, .int (iI a1))]) hx hb dX8_tryHinge_23 rfl hl (by decide) rfl (fun ls hl => ?_)
  refine lv_iload_n hx hb dX8_tryHinge_24 rfl (lv_at hl 0 rfl) ?_
  obtain ⟨g7, h⟩ := h
  refine r_if_ge (tgt := 32) hx hb dX8_tryHinge_25 (by decide) g7 (fun c8 => ?_) (fun c8 => ?_)
  · replace h := h.1 c8
    refine r_iconst (n := 0) hx hb dX8_tryHinge_32 ?_
    refine W.widen (k := 2) (n := 12) (by decide) (by decide) ?_
    exact vx_ret (r_iret hx hb hr hlocks hK hI hS (Qp := Q) h dX8_tryHinge_33)
  · replace h := h.2 c8
    refine lv_iload_n hx hb dX8_tryHinge_28 rfl (lv_at hl 0 rfl) ?_
    refine lv_goto (tgt := 33) hx hb dX8_tryHinge_29 (by decide) ?_
    refine W.widen (k := 2) (n := 12) (by decide) (by decide) ?_
    exact vx_ret (r_iret hx hb hr hlocks hK hI hS (Qp := Q) h dX8_tryHinge_33)
theorem hd8_isLess : yX8_isLess.cls ≠ "java/lang/invoke/MethodHandle" ∧ yX8_isLess.cls ≠ "java/lang/invoke/VarHandle" ∧ (parseMethodDescriptor yX8_isLess.desc).map (fun d => d.parameters.length) = some 4 := by decide +kernel
set_option maxHeartbeats 4000000 in
set_option maxRecDepth 100000 in
theorem m8_isLess (l : Launch) (G : WG)    (Q : Int → St → Prop) (st : St) (a0 : Int) (a1 : Int) (a2 : Int) (a3 : Int) (h : f8_isLess Q st a0 a1 a2 a3) : Met l yX8_isLess wsX8_isLess ({ frames := 0, cells := 0, slots := 0, locals := 0 }) (PcM vC G st [.long (lI a0), .long (lI a1), .long (lI a2), .long (lI a3)]) (QiM vC G Q) 0 0 G.2.2.2.1 := by
  refine Met.ofW (cc := cX8_isLess) (maxL := 12) (ret := (some .boolean)) (by decide) rfl ?_
  intro p e s m args below meth c s₁ B hml hvv
  obtain ⟨rfl, hA, hI, hK, hX⟩ := hvv
  have hx := B.exec
  have hb := B.bytes
  have hr := B.returns
  have hts := atoms_spec (ws := wsX8_isLess) B.pre
  have hown : s.vm.findClass RX8 = some m.cls := findClass_of_methodNamed B.named
  have hlocks := B.notSynchronized
  have hS : va_S G.2.2.2.1 s.heap s.heap [] := va_S.rf
  have hl := lv_entry ([.long (lI a0), .long (lI a1), .long (lI a2), .long (lI a3)]) (n := 12) (Nat.le_of_ble_eq_true rfl)
  rw [lg_entry_eq]
  generalize (lg_sl ([.long (lI a0), .long (lI a1), .long (lI a2), .long (lI a3)]) ++ List.replicate (12 - (lg_sl ([.long (lI a0), .long (lI a1), .long (lI a2), .long (lI a3)])).length) Slot.unset).toArray = ls at hl ⊢
  have hl : lv_has ls 12 [(0, .long (lI a0)), (2, .long (lI a1)), (4, .long (lI a2)), (6, .long (lI a3))] := hl
  unfold f8_isLess at h
  refine lv_lload_n hx hb dX8_isLess_0 rfl (lv_at hl 1 rfl) ?_
  refine r_lconst (z := 0) hx hb dX8_isLess_1 rfl ?_
  obtain ⟨g1, h⟩ := h
  refine r_lcmp_le (tgt := 13) hx hb dX8_isLess_2 dX8_isLess_3 (by decide) g1 (inL_mk rfl) (fun c2 => ?_) (fun c2 => ?_)
  · replace h := h.1 c2
    refine r_iconst (n := 0) hx hb dX8_isLess_13 ?_
    exact r_zret hx hb hr hlocks hK hI hS (Qp := Q) (by decide) h dX8_isLess_14
  · replace h := h.2 c2
    refine lv_lload hx hb dX8_isLess_6 (lv_at hl 3 rfl) ?_
    refine r_lconst (z := 0) hx hb dX8_isLess_8 rfl ?_
    obtain ⟨g3, h⟩ := h
    refine r_lcmp_gt (tgt := 15) hx hb dX8_isLess_9 dX8_isLess_10 (by decide) g3 (inL_mk rfl) (fun c4 => ?_) (fun c4 => ?_)
    · replace h := h.1 c4
      refine lv_lload_n hx hb dX8_isLess_15 rfl (lv_at hl 0 rfl) ?_
      refine lv_lload_n hx hb dX8_isLess_16 rfl (lv_at hl 1 rfl) ?_
      obtain ⟨g5, h⟩ := h
      obtain ⟨g6, h⟩ := h
      obtain ⟨g7, h⟩ := h
      refine r_ldiv hx hb dX8_isLess_17 g5 g6 g7 ?_
      refine r_topl (fun x8 hx8 => ?_)
      replace h := h x8 hx8
      refine lv_lstore (lv' := [(8, .long (lI x8)), (0, .long (lI a0)), (2, .long (lI a1)), (4, .long (lI a2)), (6, .long (lI a3))]) hx hb dX8_isLess_18 hl (by decide) rfl (fun ls hl => ?_)
      refine lv_lload hx hb dX8_isLess_20 (lv_at hl 3 rfl) ?_
      refine lv_lload hx hb dX8_isLess_22 (lv_at hl 4 rfl) ?_
      obtain ⟨g9, h⟩ := h
      obtain ⟨g10, h⟩ := h
      obtain ⟨g11, h⟩ := h
      refine r_ldiv hx hb dX8_isLess_24 g9 g10 g11 ?_
      refine r_topl (fun x12 hx12 => ?_)
      replace h := h x12 hx12
      refine lv_lstore (lv' := [(10, .long (lI x12)), (8, .long (lI x8)), (0, .long (lI a0)), (2, .long (lI a1)), (4, .long (lI a2)), (6, .long (lI a3))]) hx hb dX8_isLess_25 hl (by decide) rfl (fun ls hl => ?_)
      refine lv_lload hx hb dX8_isLess_27 (lv_at hl 1 rfl) ?_
      refine lv_lload hx hb dX8_isLess_29 (lv_at hl 0 rfl) ?_
      obtain ⟨g13, h⟩ := h
      obtain ⟨g14, h⟩ := h
      refine r_lcmp_eq (tgt := 49) hx hb dX8_isLess_31 dX8_isLess_32 (by decide) g13 g14 (fun c15 => ?_) (fun c15 => ?_)
      · replace h := h.1 c15
        refine lv_lload_n hx hb dX8_isLess_49 rfl (lv_at hl 2 rfl) ?_
        refine lv_lload_n hx hb dX8_isLess_50 rfl (lv_at hl 3 rfl) ?_
        obtain ⟨g16, h⟩ := h
        obtain ⟨g17, h⟩ := h
        obtain ⟨g18, h⟩ := h
        refine r_lrem hx hb dX8_isLess_51 g16 g17 g18 ?_
        refine lv_lload hx hb dX8_isLess_52 (lv_at hl 5 rfl) ?_
        refine r_lmul hx hb dX8_isLess_54 ?_
        refine lv_lload hx hb dX8_isLess_55 (lv_at hl 4 rfl) ?_
        refine lv_lload hx hb dX8_isLess_57 (lv_at hl 5 rfl) ?_
        obtain ⟨g19, h⟩ := h
        obtain ⟨g20, h⟩ := h
        obtain ⟨g21, h⟩ := h
        refine r_lrem hx hb dX8_isLess_59 g19 g20 g21 ?_
        refine lv_lload_n hx hb dX8_isLess_60 rfl (lv_at hl 3 rfl) ?_
        refine r_lmul hx hb dX8_isLess_61 ?_
        obtain ⟨g22, h⟩ := h
        obtain ⟨g23, h⟩ := h
        refine r_lcmp_ge (tgt := 70) hx hb dX8_isLess_62 dX8_isLess_63 (by decide) g22 g23 (fun c24 => ?_) (fun c24 => ?_)
        · replace h := h.1 c24
          refine r_iconst (n := 0) hx hb dX8_isLess_70 ?_
          exact r_zret hx hb hr hlocks hK hI hS (Qp := Q) (by decide) h dX8_isLess_71
        · replace h := h.2 c24
          refine r_iconst (n := 1) hx hb dX8_isLess_66 ?_
          refine lv_goto (tgt := 71) hx hb dX8_isLess_67 (by decide) ?_
          exact r_zret hx hb hr hlocks hK hI hS (Qp := Q) (by decide) h dX8_isLess_71
      · replace h := h.2 c15
        refine lv_lload hx hb dX8_isLess_35 (lv_at hl 1 rfl) ?_
        refine lv_lload hx hb dX8_isLess_37 (lv_at hl 0 rfl) ?_
        obtain ⟨g25, h⟩ := h
        obtain ⟨g26, h⟩ := h
        refine r_lcmp_ge (tgt := 47) hx hb dX8_isLess_39 dX8_isLess_40 (by decide) g25 g26 (fun c27 => ?_) (fun c27 => ?_)
        · replace h := h.1 c27
          refine r_iconst (n := 0) hx hb dX8_isLess_47 ?_
          exact r_zret hx hb hr hlocks hK hI hS (Qp := Q) (by decide) h dX8_isLess_48
        · replace h := h.2 c27
          refine r_iconst (n := 1) hx hb dX8_isLess_43 ?_
          refine lv_goto (tgt := 48) hx hb dX8_isLess_44 (by decide) ?_
          exact r_zret hx hb hr hlocks hK hI hS (Qp := Q) (by decide) h dX8_isLess_48
    · replace h := h.2 c4
      refine r_iconst (n := 0) hx hb dX8_isLess_13 ?_
      exact r_zret hx hb hr hlocks hK hI hS (Qp := Q) (by decide) h dX8_isLess_14
theorem hd8_bestHinge : yX8_bestHinge.cls = RX8 ∧ yX8_bestHinge.cls ≠ "java/lang/invoke/MethodHandle" ∧ yX8_bestHinge.cls ≠ "java/lang/invoke/VarHandle" ∧ (parseMethodDescriptor yX8_bestHinge.desc).map (fun d => d.parameters.length) = some 1 := by decide +kernel
set_option maxHeartbeats 4000000 in
set_option maxRecDepth 100000 in
theorem m8_bestHinge (l : Launch) (G : WG) (hfl : l.stackTraces = false)  (hv_this : vC 8 0) (Q : Int → St → Prop) (X : String → St → Prop) (st : St) (a0 : Int) (h : f8_bestHinge Q X st a0) : vx_Met l yX8_bestHinge wsX8_bestHinge ({ frames := 7, cells := 1, slots := 6, locals := 144 }) (PcM vC G st [.ref (G.2.2.1 8 0), .int (iI a0)]) (QiM vC G Q) (XM vC G X) 1 6 G.2.2.2.1 := by
  refine vx_ofW (cc := cX8_bestHinge) (maxL := 8) (ret := (some .int)) (by decide) rfl ?_
  intro p e s m args below meth c s₁ B hml hE hvv
  obtain ⟨rfl, hA, hI, hK, hX⟩ := hvv
  have hx := B.exec
  have hb := B.bytes
  have hr := B.returns
  have hts := atoms_spec (ws := wsX8_bestHinge) B.pre
  have hown : s.vm.findClass RX8 = some m.cls := findClass_of_methodNamed B.named
  have hlocks := B.notSynchronized
  have hS : va_S G.2.2.2.1 s.heap s.heap [] := va_S.rf
  have in0 : ∀ w ∈ wsX00, w ∈ wsX8_bestHinge := by decide +kernel
  have in3 : ∀ w ∈ wsX30, w ∈ wsX8_bestHinge := by decide +kernel
  have in4 : ∀ w ∈ wsX40, w ∈ wsX8_bestHinge := by decide +kernel
  have in8 : ∀ w ∈ wsX80, w ∈ wsX8_bestHinge := by decide +kernel
  have lk_23 := hts (.fieldLink RX8 23 "BeamLines" "present" "LBeamLines$Beam;") (by decide +kernel)
  have lk_34 := hts (.fieldLink RX8 34 "BeamLines" "trial" "LBeamLines$Beam;") (by decide +kernel)
  have lk_37 := hts (.fieldLink RX8 37 "BeamLines" "trialLines" "LBeamLines$Lines;") (by decide +kernel)
  have lk_43 := hts (.fieldLink RX8 43 "BeamLines" "forces" "LBeamLines$Forces;") (by decide +kernel)
  have lk_53 := hts (.fieldLink RX8 53 "BeamLines" "peak" "LBeamLines$Peak;") (by decide +kernel)
  have lk_79 := hts (.fieldLink RX8 79 "BeamLines$Beam" "length" "I") (by decide +kernel)
  have lk_138 := hts (.fieldLink RX8 138 "BeamLines$Beam" "hinges" "LBeamLines$Row;") (by decide +kernel)
  have lk_157 := hts (.fieldLink RX8 157 "BeamLines$Lines" "common" "J") (by decide +kernel)
  have lk_228 := hts (.fieldLink RX8 228 "BeamLines$Peak" "size" "J") (by decide +kernel)
  have hl := lv_entry ([.ref (G.2.2.1 8 0), .int (iI a0)]) (n := 8) (Nat.le_of_ble_eq_true rfl)
  rw [lg_entry_eq]
  generalize (lg_sl ([.ref (G.2.2.1 8 0), .int (iI a0)]) ++ List.replicate (8 - (lg_sl ([.ref (G.2.2.1 8 0), .int (iI a0)])).length) Slot.unset).toArray = ls at hl ⊢
  have hl : lv_has ls 8 [(0, .ref (G.2.2.1 8 0)), (1, .int (iI a0))] := hl
  have L22 : ∀ (n22 : Nat), ∀ (st : St) (v2x22 : Int) (v3x22 : Int) (v5x22 : Int) (v7x22 : Int) (H : Heap) (locs : List Loc) (ls : Array Slot), Iv vC G st H → va_S G.2.2.2.1 s.heap H locs → lv_has ls 8 [(0, .ref (G.2.2.1 8 0)), (1, .int (iI a0)), (2, .int (iI v2x22)), (3, .long (lI v3x22)), (5, .long (lI v5x22)), (7, .int (iI v7x22))] → f8_bestHinge_l22 Q X a0 n22 st v2x22 v3x22 v5x22 v7x22 → W p l e (headSpec wsX8_bestHinge ({ frames := 7, cells := 1, slots := 6, locals := 144 })).room s m ([.ref (G.2.2.1 8 0), .int (iI a0)] : List Value).toArray below meth c H locs 1 6 (vx_MQ below (QiM vC G Q) (XM vC G X) ([.ref (G.2.2.1 8 0), .int (iI a0)] : List Value).toArray s 1 6 G.2.2.2.1) (F0 m 22 ls []) := by
    intro n22
    induction n22 with
    | zero =>
      intro st v2x22 v3x22 v5x22 v7x22 H locs ls hI hS hl h
      exact h.elim
    | succ n22 ih22 =>
      have J114 : ∀ (st : St) (v2x114 : Int) (v3x114 : Int) (v5x114 : Int) (v7x114 : Int) (H : Heap) (locs : List Loc) (ls : Array Slot), Iv vC G st H → va_S G.2.2.2.1 s.heap H locs → lv_has ls 8 [(0, .ref (G.2.2.1 8 0)), (1, .int (iI a0)), (2, .int (iI v2x114)), (3, .long (lI v3x114)), (5, .long (lI v5x114)), (7, .int (iI v7x114))] → f8_bestHinge_j114 (fun st v2x22 v3x22 v5x22 v7x22 => f8_bestHinge_l22 Q X a0 n22 st v2x22 v3x22 v5x22 v7x22) Q X a0 st v2x114 v3x114 v5x114 v7x114 → W p l e (headSpec wsX8_bestHinge ({ frames := 7, cells := 1, slots := 6, locals := 144 })).room s m ([.ref (G.2.2.1 8 0), .int (iI a0)] : List Value).toArray below meth c H locs 1 6 (vx_MQ below (QiM vC G Q) (XM vC G X) ([.ref (G.2.2.1 8 0), .int (iI a0)] : List Value).toArray s 1 6 G.2.2.2.1) (F0 m 114 ls []) := by
        intro st v2x114 v3x114 v5x114 v7x114 H locs ls hI hS hl h
        unfold f8_bestHinge_j114 at h
        obtain ⟨x20, hx20⟩ : ∃ z : Int, z = v7x114 + 1 := ⟨_, rfl⟩
        replace h := h x20 hx20
        refine lv_iinc (v := iI x20) (lv' := [(7, .int (iI x20)), (0, .ref (G.2.2.1 8 0)), (1, .int (iI a0)), (2, .int (iI v2x114)), (3, .long (lI v3x114)), (5, .long (lI v5x114))]) hx hb dX8_bestHinge_114 hl (k := 5) rfl (by rw [hx20]; exact iI_add _ _) (by decide) rfl (fun ls hl => ?_)
        refine lv_goto (tgt := 22) hx hb dX8_bestHinge_117 (by decide) ?_
        exact ih22 st v2x114 v3x114 v5x114 x20 _ _ ls hI hS (lv_sub hl [1, 2, 3, 4, 5, 0] rfl) h
      have J94 : ∀ (st : St) (v7x94 : Int) (H : Heap) (locs : List Loc) (ls : Array Slot), Iv vC G st H → va_S G.2.2.2.1 s.heap H locs → lv_has ls 8 [(0, .ref (G.2.2.1 8 0)), (1, .int (iI a0)), (7, .int (iI v7x94))] → f8_bestHinge_j94 (fun st v2x22 v3x22 v5x22 v7x22 => f8_bestHinge_l22 Q X a0 n22 st v2x22 v3x22 v5x22 v7x22) Q X a0 st v7x94 → W p l e (headSpec wsX8_bestHinge ({ frames := 7, cells := 1, slots := 6, locals := 144 })).room s m ([.ref (G.2.2.1 8 0), .int (iI a0)] : List Value).toArray below meth c H locs 1 6 (vx_MQ below (QiM vC G Q) (XM vC G X) ([.ref (G.2.2.1 8 0), .int (iI a0)] : List Value).toArray s 1 6 G.2.2.2.1) (F0 m 94 ls []) := by
        intro st v7x94 H locs ls hI hS hl h
        unfold f8_bestHinge_j94 at h
        refine lv_iload hx hb dX8_bestHinge_94 (lv_at hl 2 rfl) ?_
        refine lv_istore_n (lv' := [(2, .int (iI v7x94)), (0, .ref (G.2.2.1 8 0)), (1, .int (iI a0)), (7, .int (iI v7x94))]) hx hb dX8_bestHinge_96 rfl hl (by decide) rfl (fun ls hl => ?_)
        refine lv_aload_n hx hb dX8_bestHinge_97 rfl (lv_at hl 1 rfl) ?_
        refine gg_8_8 hx hb hts in8 hown hK hI hv_this lk_53 dX8_bestHinge_98 ?_
        refine gg_4_0 hx hb hts in4 hown hK hI (vrC_8_8 hv_this) lk_228 dX8_bestHinge_101 ?_
        refine r_topl (fun x18 hx18 => ?_)
        replace h := h x18 hx18
        refine lv_lstore_n (lv' := [(3, .long (lI x18)), (2, .int (iI v7x94)), (0, .ref (G.2.2.1 8 0)), (1, .int (iI a0)), (7, .int (iI v7x94))]) hx hb dX8_bestHinge_104 rfl hl (by decide) rfl (fun ls hl => ?_)
        refine lv_aload_n hx hb dX8_bestHinge_105 rfl (lv_at hl 2 rfl) ?_
        refine gg_8_5 hx hb hts in8 hown hK hI hv_this lk_37 dX8_bestHinge_106 ?_
        refine gg_3_4 hx hb hts in3 hown hK hI (vrC_8_5 hv_this) lk_157 dX8_bestHinge_109 ?_
        refine r_topl (fun x19 hx19 => ?_)
        replace h := h x19 hx19
        refine lv_lstore (lv' := [(5, .long (lI x19)), (3, .long (lI x18)), (2, .int (iI v7x94)), (0, .ref (G.2.2.1 8 0)), (1, .int (iI a0)), (7, .int (iI v7x94))]) hx hb dX8_bestHinge_112 hl (by decide) rfl (fun ls hl => ?_)
        exact J114 st v7x94 x18 x19 v7x94 _ _ ls hI hS (lv_sub hl [3, 4, 2, 1, 0, 5] rfl) h
      intro st v2x22 v3x22 v5x22 v7x22 H locs ls hI hS hl h
      unfold f8_bestHinge_l22 at h
      refine lv_iload hx hb dX8_bestHinge_22 (lv_at hl 5 rfl) ?_
      refine lv_aload_n hx hb dX8_bestHinge_24 rfl (lv_at hl 0 rfl) ?_
      refine gg_8_2 hx hb hts in8 hown hK hI hv_this lk_23 dX8_bestHinge_25 ?_
      refine gg_0_0 hx hb hts in0 hown hK hI (vrC_8_2 hv_this) lk_79 dX8_bestHinge_28 ?_
      obtain ⟨g3, h⟩ := h
      obtain ⟨g4, h⟩ := h
      refine r_icmp_ge (tgt := 120) hx hb dX8_bestHinge_31 (by decide) g3 g4 (fun c5 => ?_) (fun c5 => ?_)
      · replace h := h.1 c5
        refine lv_iload_n hx hb dX8_bestHinge_120 rfl (lv_at hl 2 rfl) ?_
        refine W.widen (k := 1) (n := 6) (by decide) (by decide) ?_
        exact vx_ret (r_iret hx hb hr hlocks hK hI hS (Qp := Q) h dX8_bestHinge_121)
      · replace h := h.2 c5
        refine lv_aload_n hx hb dX8_bestHinge_34 rfl (lv_at hl 0 rfl) ?_
        refine lv_iload_n hx hb dX8_bestHinge_35 rfl (lv_at hl 1 rfl) ?_
        refine lv_iload hx hb dX8_bestHinge_36 (lv_at hl 5 rfl) ?_
        refine r_calli (va_runV (As := [.int (iI a0), .int (iI v7x22)]) (rest := []) ⟨hx, hb, hml, hown, hts⟩ (m8_tryHingeAt l G hv_this _ st a0 v7x22 h) (cwV 2 hts gX8_bestHinge_X8_tryHingeAt rfl rfl rfl hd8_tryHingeAt ⟨Nat.le_of_ble_eq_true rfl, Nat.le_of_ble_eq_true rfl⟩) (pre_V hK hX hI hA hS hv_this rfl rfl [.int (iI a0), .int (iI v7x22)]) rfl rfl hl.1 rfl (lv_room (Nat.le_of_ble_eq_true rfl)) dX8_bestHinge_38 ⟨Nat.le_of_ble_eq_true rfl, Nat.le_of_ble_eq_true rfl⟩) hS (fun z6 st7 h H locs hI hS => ?_)
        obtain ⟨g8, h⟩ := h
        refine r_if_ge (tgt := 47) hx hb dX8_bestHinge_41 (by decide) g8 (fun c9 => ?_) (fun c9 => ?_)
        · replace h := h.1 c9
          refine lv_aload_n hx hb dX8_bestHinge_47 rfl (lv_at hl 0 rfl) ?_
          refine gg_8_8 hx hb hts in8 hown hK hI hv_this lk_53 dX8_bestHinge_48 ?_
          refine lv_aload_n hx hb dX8_bestHinge_51 rfl (lv_at hl 0 rfl) ?_
          refine gg_8_4 hx hb hts in8 hown hK hI hv_this lk_34 dX8_bestHinge_52 ?_
          refine lv_aload_n hx hb dX8_bestHinge_55 rfl (lv_at hl 0 rfl) ?_
          refine gg_8_5 hx hb hts in8 hown hK hI hv_this lk_37 dX8_bestHinge_56 ?_
          refine lv_aload_n hx hb dX8_bestHinge_59 rfl (lv_at hl 0 rfl) ?_
          refine gg_8_6 hx hb hts in8 hown hK hI hv_this lk_43 dX8_bestHinge_60 ?_
          refine r_callv (va_runV (As := [.ref (G.2.2.1 0 1), .ref (G.2.2.1 3 1), .ref (G.2.2.1 1 0)]) (rest := []) ⟨hx, hb, hml, hown, hts⟩ (m4_find l G 1 1 0 (vrC_8_8 hv_this) (vrC_8_4 hv_this) (vrC_8_5 hv_this) (vrC_8_6 hv_this) _ st7 h) (cwV 3 hts gX8_bestHinge_X4_find rfl rfl rfl hd4_find ⟨Nat.le_of_ble_eq_true rfl, Nat.le_of_ble_eq_true rfl⟩) (pre_V hK hX hI hA hS (vrC_8_8 hv_this) rfl rfl [.ref (G.2.2.1 0 1), .ref (G.2.2.1 3 1), .ref (G.2.2.1 1 0)]) rfl rfl hl.1 rfl (lv_room (Nat.le_of_ble_eq_true rfl)) dX8_bestHinge_63 ⟨Nat.le_of_ble_eq_true rfl, Nat.le_of_ble_eq_true rfl⟩) hS (fun st11 h H locs hI hS => ?_)
          refine lv_iload_n hx hb dX8_bestHinge_66 rfl (lv_at hl 2 rfl) ?_
          refine r_iconst (n := (-1)) hx hb dX8_bestHinge_67 ?_
          obtain ⟨g12, h⟩ := h
          refine r_icmp_eq (tgt := 94) hx hb dX8_bestHinge_68 (by decide) g12 (inI_mk rfl) (fun c13 => ?_) (fun c13 => ?_)
          · replace h := h.1 c13
            exact J94 st11 v7x22 _ _ ls hI hS (lv_sub hl [0, 1, 5] rfl) h
          · replace h := h.2 c13
            refine lv_aload_n hx hb dX8_bestHinge_71 rfl (lv_at hl 0 rfl) ?_
            refine gg_8_8 hx hb hts in8 hown hK hI hv_this lk_53 dX8_bestHinge_72 ?_
            refine gg_4_0 hx hb hts in4 hown hK hI (vrC_8_8 hv_this) lk_228 dX8_bestHinge_75 ?_
            refine lv_aload_n hx hb dX8_bestHinge_78 rfl (lv_at hl 0 rfl) ?_
            refine gg_8_5 hx hb hts in8 hown hK hI hv_this lk_37 dX8_bestHinge_79 ?_
            refine gg_3_4 hx hb hts in3 hown hK hI (vrC_8_5 hv_this) lk_157 dX8_bestHinge_82 ?_
            refine lv_lload_n hx hb dX8_bestHinge_85 rfl (lv_at hl 3 rfl) ?_
            refine lv_lload hx hb dX8_bestHinge_86 (lv_at hl 4 rfl) ?_
            refine r_calli (va_runS (As := [.long (lI (st11 4 0 0 0)), .long (lI (st11 3 4 1 0)), .long (lI v3x22), .long (lI v5x22)]) (rest := []) ⟨hx, hb, hml, hown, hts⟩ (m8_isLess l G _ st11 (st11 4 0 0 0) (st11 3 4 1 0) v3x22 v5x22 h) (va_cwS 4 hts gX8_bestHinge_X8_isLess rfl rfl rfl hd8_isLess ⟨Nat.le_of_ble_eq_true rfl, Nat.le_of_ble_eq_true rfl⟩) (pre_S hK hX hI hA hS [.long (lI (st11 4 0 0 0)), .long (lI (st11 3 4 1 0)), .long (lI v3x22), .long (lI v5x22)]) rfl rfl hl.1 rfl (lv_room (Nat.le_of_ble_eq_true rfl)) dX8_bestHinge_88 ⟨Nat.le_of_ble_eq_true rfl, Nat.le_of_ble_eq_true rfl⟩) hS (fun z14 st15 h H locs hI hS => ?_)
            obtain ⟨g16, h⟩ := h
            refine r_if_eq (tgt := 114) hx hb dX8_bestHinge_91 (by decide) g16 (fun c17 => ?_) (fun c17 => ?_)
            · replace h := h.1 c17
              exact J114 st15 v2x22 v3x22 v5x22 v7x22 _ _ ls hI hS (lv_sub hl [0, 1, 2, 3, 4, 5] rfl) h
            · replace h := h.2 c17
              exact J94 st15 v7x22 _ _ ls hI hS (lv_sub hl [0, 1, 5] rfl) h
        · replace h := h.2 c9
          refine lv_goto (tgt := 114) hx hb dX8_bestHinge_44 (by decide) ?_
          exact J114 st7 v2x22 v3x22 v5x22 v7x22 _ _ ls hI hS (lv_sub hl [0, 1, 2, 3, 4, 5] rfl) h
  unfold f8_bestHinge at h
  refine lv_aload_n hx hb dX8_bestHinge_0 rfl (lv_at hl 0 rfl) ?_
  refine lv_aload_n hx hb dX8_bestHinge_1 rfl (lv_at hl 0 rfl) ?_
  refine gg_8_2 hx hb hts in8 hown hK hI hv_this lk_23 dX8_bestHinge_2 ?_
  refine gg_0_3 hx hb hts in0 hown hK hI (vrC_8_2 hv_this) lk_138 dX8_bestHinge_5 ?_
  refine lv_iload_n hx hb dX8_bestHinge_8 rfl (lv_at hl 1 rfl) ?_
  refine r_xcallv (vx_runV (As := [.ref (G.2.2.1 6 (4 * 0 + 1)), .int (iI a0)]) (rest := []) ⟨hx, hb, hml, hown, hts⟩ (m8_needNumber l G hfl (4 * 0 + 1) hv_this (vrC_0_3 (vrC_8_2 hv_this)) _ _ st a0 h) (cwV 2 hts gX8_bestHinge_X8_needNumber rfl rfl rfl hd8_needNumber ⟨Nat.le_of_ble_eq_true rfl, Nat.le_of_ble_eq_true rfl⟩) (pre_V hK hX hI hA hS hv_this rfl rfl [.ref (G.2.2.1 6 (4 * 0 + 1)), .int (iI a0)]) rfl rfl hl.1 rfl (lv_room (Nat.le_of_ble_eq_true rfl)) dX8_bestHinge_9 ⟨Nat.le_of_ble_eq_true rfl, Nat.le_of_ble_eq_true rfl⟩) hS hE hlocks hK (by decide) (by decide) (fun st2 h H locs hI hS => ?_)
  refine r_iconst (n := (-1)) hx hb dX8_bestHinge_12 ?_
  refine lv_istore_n (lv' := [(2, .int (iI (-1))), (0, .ref (G.2.2.1 8 0)), (1, .int (iI a0))]) hx hb dX8_bestHinge_13 rfl hl (by decide) rfl (fun ls hl => ?_)
  refine r_lconst (z := 0) hx hb dX8_bestHinge_14 rfl ?_
  refine lv_lstore_n (lv' := [(3, .long (lI 0)), (2, .int (iI (-1))), (0, .ref (G.2.2.1 8 0)), (1, .int (iI a0))]) hx hb dX8_bestHinge_15 rfl hl (by decide) rfl (fun ls hl => ?_)
  refine r_lconst (z := 1) hx hb dX8_bestHinge_16 rfl ?_
  refine lv_lstore (lv' := [(5, .long (lI 1)), (3, .long (lI 0)), (2, .int (iI (-1))), (0, .ref (G.2.2.1 8 0)), (1, .int (iI a0))]) hx hb dX8_bestHinge_17 hl (by decide) rfl (fun ls hl => ?_)
  refine r_iconst (n := 1) hx hb dX8_bestHinge_19 ?_
  refine lv_istore (lv' := [(7, .int (iI 1)), (5, .long (lI 1)), (3, .long (lI 0)), (2, .int (iI (-1))), (0, .ref (G.2.2.1 8 0)), (1, .int (iI a0))]) hx hb dX8_bestHinge_20 hl (by decide) rfl (fun ls hl => ?_)
  obtain ⟨kk, h⟩ := h
  exact L22 kk st2 (-1) 0 1 1 _ _ ls hI hS (lv_sub hl [4, 5, 3, 2, 1, 0] rfl) h
theorem hd8_timesThatFit : yX8_timesThatFit.cls ≠ "java/lang/invoke/MethodHandle" ∧ yX8_timesThatFit.cls ≠ "java/lang/invoke/VarHandle" ∧ (parseMethodDescriptor yX8_timesThatFit.desc).map (fun d => d.parameters.length) = some 2 := by decide +kernel
set_option maxHeartbeats 4000000 in
set_option maxRecDepth 100000 in
theorem m8_timesThatFit (l : Launch) (G : WG)    (Q : Int → St → Prop) (st : St) (a0 : Int) (a1 : Int) (h : f8_timesThatFit Q st a0 a1) : Met l yX8_timesThatFit wsX8_timesThatFit ({ frames := 0, cells := 0, slots := 0, locals := 0 }) (PcM vC G st [.long (lI a0), .long (lI a1)]) (QlM vC G Q) 0 0 G.2.2.2.1 := by
  refine Met.ofW (cc := cX8_timesThatFit) (maxL := 4) (ret := (some .long)) (by decide) rfl ?_
  intro p e s m args below meth c s₁ B hml hvv
  obtain ⟨rfl, hA, hI, hK, hX⟩ := hvv
  have hx := B.exec
  have hb := B.bytes
  have hr := B.returns
  have hts := atoms_spec (ws := wsX8_timesThatFit) B.pre
  have hown : s.vm.findClass RX8 = some m.cls := findClass_of_methodNamed B.named
  have hlocks := B.notSynchronized
  have hS : va_S G.2.2.2.1 s.heap s.heap [] := va_S.rf
  have kc_244 : (Jvm.Cond.constantLong RX8 244 (lI 999)).before _ s = true := hts (.constantLong RX8 244 999) (by decide +kernel)
  have hl := lv_entry ([.long (lI a0), .long (lI a1)]) (n := 4) (Nat.le_of_ble_eq_true rfl)
  rw [lg_entry_eq]
  generalize (lg_sl ([.long (lI a0), .long (lI a1)]) ++ List.replicate (4 - (lg_sl ([.long (lI a0), .long (lI a1)])).length) Slot.unset).toArray = ls at hl ⊢
  have hl : lv_has ls 4 [(0, .long (lI a0)), (2, .long (lI a1))] := hl
  unfold f8_timesThatFit at h
  refine lv_lload_n hx hb dX8_timesThatFit_0 rfl (lv_at hl 1 rfl) ?_
  refine r_lconst (z := 0) hx hb dX8_timesThatFit_1 rfl ?_
  obtain ⟨g1, h⟩ := h
  refine r_lcmp_gt (tgt := 12) hx hb dX8_timesThatFit_2 dX8_timesThatFit_3 (by decide) g1 (inL_mk rfl) (fun c2 => ?_) (fun c2 => ?_)
  · replace h := h.1 c2
    refine lv_lload_n hx hb dX8_timesThatFit_12 rfl (lv_at hl 0 rfl) ?_
    refine lv_lload_n hx hb dX8_timesThatFit_13 rfl (lv_at hl 1 rfl) ?_
    obtain ⟨g3, h⟩ := h
    obtain ⟨g4, h⟩ := h
    obtain ⟨g5, h⟩ := h
    refine r_ldiv hx hb dX8_timesThatFit_14 g3 g4 g5 ?_
    exact r_lret hx hb hr hlocks hK hI hS (Qp := Q) h dX8_timesThatFit_15
  · replace h := h.2 c2
    refine lv_ldc2 (v := lI 999) hx hb hown kc_244 dX8_timesThatFit_6 ?_
    refine lv_goto (tgt := 15) hx hb dX8_timesThatFit_9 (by decide) ?_
    exact r_lret hx hb hr hlocks hK hI hS (Qp := Q) h dX8_timesThatFit_15
theorem hd8_weightThatSupportsBear : yX8_weightThatSupportsBear.cls = RX8 ∧ yX8_weightThatSupportsBear.cls ≠ "java/lang/invoke/MethodHandle" ∧ yX8_weightThatSupportsBear.cls ≠ "java/lang/invoke/VarHandle" ∧ (parseMethodDescriptor yX8_weightThatSupportsBear.desc).map (fun d => d.parameters.length) = some 0 := by decide +kernel
set_option maxHeartbeats 4000000 in
set_option maxRecDepth 100000 in
theorem m8_weightThatSupportsBear (l : Launch) (G : WG)   (hv_this : vC 8 0) (Q : Int → St → Prop) (st : St)  (h : f8_weightThatSupportsBear Q st) : Met l yX8_weightThatSupportsBear wsX8_weightThatSupportsBear ({ frames := 2, cells := 0, slots := 0, locals := 42 }) (PcM vC G st [.ref (G.2.2.1 8 0)]) (QlM vC G Q) 0 0 G.2.2.2.1 := by
  refine Met.ofW (cc := cX8_weightThatSupportsBear) (maxL := 9) (ret := (some .long)) (by decide) rfl ?_
  intro p e s m args below meth c s₁ B hml hvv
  obtain ⟨rfl, hA, hI, hK, hX⟩ := hvv
  have hx := B.exec
  have hb := B.bytes
  have hr := B.returns
  have hts := atoms_spec (ws := wsX8_weightThatSupportsBear) B.pre
  have hown : s.vm.findClass RX8 = some m.cls := findClass_of_methodNamed B.named
  have hlocks := B.notSynchronized
  have hS : va_S G.2.2.2.1 s.heap s.heap [] := va_S.rf
  have in0 : ∀ w ∈ wsX00, w ∈ wsX8_weightThatSupportsBear := by decide +kernel
  have in3 : ∀ w ∈ wsX30, w ∈ wsX8_weightThatSupportsBear := by decide +kernel
  have in6 : ∀ w ∈ wsX60, w ∈ wsX8_weightThatSupportsBear := by decide +kernel
  have in8 : ∀ w ∈ wsX80, w ∈ wsX8_weightThatSupportsBear := by decide +kernel
  have lk_23 := hts (.fieldLink RX8 23 "BeamLines" "present" "LBeamLines$Beam;") (by decide +kernel)
  have lk_30 := hts (.fieldLink RX8 30 "BeamLines" "lines" "LBeamLines$Lines;") (by decide +kernel)
  have lk_43 := hts (.fieldLink RX8 43 "BeamLines" "forces" "LBeamLines$Forces;") (by decide +kernel)
  have lk_47 := hts (.fieldLink RX8 47 "BeamLines" "withoutTrain" "LBeamLines$Forces;") (by decide +kernel)
  have lk_85 := hts (.fieldLink RX8 85 "BeamLines$Beam" "supports" "LBeamLines$Row;") (by decide +kernel)
  have lk_135 := hts (.fieldLink RX8 135 "BeamLines$Row" "size" "I") (by decide +kernel)
  have lk_157 := hts (.fieldLink RX8 157 "BeamLines$Lines" "common" "J") (by decide +kernel)
  have ml_250 : (Cond.methodLink RX8 250 Lib.MathLoose.min_long.x).before _ s = true ∧ (Cond.static Lib.MathLoose.min_long.x).before _ s = true ∧ (Cond.initialized "java/lang/Math").before _ s = true ∧ (Cond.code Lib.MathLoose.min_long.x Lib.MathLoose.min_long.code 4 (some .long)).before _ s = true := ⟨hts _ (by decide +kernel), hts _ (by decide +kernel), hts _ (by decide +kernel), hts _ (by decide +kernel)⟩
  have kc_244 : (Jvm.Cond.constantLong RX8 244 (lI 999)).before _ s = true := hts (.constantLong RX8 244 999) (by decide +kernel)
  have hl := lv_entry ([.ref (G.2.2.1 8 0)]) (n := 9) (Nat.le_of_ble_eq_true rfl)
  rw [lg_entry_eq]
  generalize (lg_sl ([.ref (G.2.2.1 8 0)]) ++ List.replicate (9 - (lg_sl ([.ref (G.2.2.1 8 0)])).length) Slot.unset).toArray = ls at hl ⊢
  have hl : lv_has ls 9 [(0, .ref (G.2.2.1 8 0))] := hl
  have L6 : ∀ (n6 : Nat), ∀ (st : St) (v1x6 : Int) (v3x6 : Int) (H : Heap) (locs : List Loc) (ls : Array Slot), Iv vC G st H → va_S G.2.2.2.1 s.heap H locs → lv_has ls 9 [(0, .ref (G.2.2.1 8 0)), (1, .long (lI v1x6)), (3, .int (iI v3x6))] → f8_weightThatSupportsBear_l6 Q n6 st v1x6 v3x6 → W p l e (headSpec wsX8_weightThatSupportsBear ({ frames := 2, cells := 0, slots := 0, locals := 42 })).room s m ([.ref (G.2.2.1 8 0)] : List Value).toArray below meth c H locs 0 0 (MQ below (QlM vC G Q) ([.ref (G.2.2.1 8 0)] : List Value).toArray s 0 0 G.2.2.2.1) (F0 m 6 ls []) := by
    intro n6
    induction n6 with
    | zero =>
      intro st v1x6 v3x6 H locs ls hI hS hl h
      exact h.elim
    | succ n6 ih6 =>
      have J96 : ∀ (st : St) (v1x96 : Int) (v3x96 : Int) (H : Heap) (locs : List Loc) (ls : Array Slot), Iv vC G st H → va_S G.2.2.2.1 s.heap H locs → lv_has ls 9 [(0, .ref (G.2.2.1 8 0)), (1, .long (lI v1x96)), (3, .int (iI v3x96))] → f8_weightThatSupportsBear_j96 (fun st v1x6 v3x6 => f8_weightThatSupportsBear_l6 Q n6 st v1x6 v3x6) Q st v1x96 v3x96 → W p l e (headSpec wsX8_weightThatSupportsBear ({ frames := 2, cells := 0, slots := 0, locals := 42 })).room s m ([.ref (G.2.2.1 8 0)] : List Value).toArray below meth c H locs 0 0 (MQ below (QlM vC G Q) ([.ref (G.2.2.1 8 0)] : List Value).toArray s 0 0 G.2.2.2.1) (F0 m 96 ls []) := by
        intro st v1x96 v3x96 H locs ls hI hS hl h
        unfold f8_weightThatSupportsBear_j96 at h
        obtain ⟨x23, hx23⟩ : ∃ z : Int, z = v3x96 + 1 := ⟨_, rfl⟩
        replace h := h x23 hx23
        refine lv_iinc (v := iI x23) (lv' := [(3, .int (iI x23)), (0, .ref (G.2.2.1 8 0)), (1, .long (lI v1x96))]) hx hb dX8_weightThatSupportsBear_96 hl (k := 2) rfl (by rw [hx23]; exact iI_add _ _) (by decide) rfl (fun ls hl => ?_)
        refine lv_goto (tgt := 6) hx hb dX8_weightThatSupportsBear_99 (by decide) ?_
        exact ih6 st v1x96 x23 _ _ ls hI hS (lv_sub hl [1, 2, 0] rfl) h
      intro st v1x6 v3x6 H locs ls hI hS hl h
      unfold f8_weightThatSupportsBear_l6 at h
      refine lv_iload_n hx hb dX8_weightThatSupportsBear_6 rfl (lv_at hl 2 rfl) ?_
      refine lv_aload_n hx hb dX8_weightThatSupportsBear_7 rfl (lv_at hl 0 rfl) ?_
      refine gg_8_2 hx hb hts in8 hown hK hI hv_this lk_23 dX8_weightThatSupportsBear_8 ?_
      refine gg_0_2 hx hb hts in0 hown hK hI (vrC_8_2 hv_this) lk_85 dX8_weightThatSupportsBear_11 ?_
      refine gg_6_2 hx hb hts in6 hown hK hI (vrC_0_2 (vrC_8_2 hv_this)) lk_135 dX8_weightThatSupportsBear_14 ?_
      obtain ⟨g1, h⟩ := h
      obtain ⟨g2, h⟩ := h
      refine r_icmp_ge (tgt := 102) hx hb dX8_weightThatSupportsBear_17 (by decide) g1 g2 (fun c3 => ?_) (fun c3 => ?_)
      · replace h := h.1 c3
        refine lv_lload_n hx hb dX8_weightThatSupportsBear_102 rfl (lv_at hl 1 rfl) ?_
        exact r_lret hx hb hr hlocks hK hI hS (Qp := Q) h dX8_weightThatSupportsBear_103
      · replace h := h.2 c3
        refine lv_aload_n hx hb dX8_weightThatSupportsBear_20 rfl (lv_at hl 0 rfl) ?_
        refine gg_8_7 hx hb hts in8 hown hK hI hv_this lk_47 dX8_weightThatSupportsBear_21 ?_
        refine lv_iload_n hx hb dX8_weightThatSupportsBear_24 rfl (lv_at hl 2 rfl) ?_
        refine r_calll (va_runV (As := [.int (iI v3x6)]) (rest := []) ⟨hx, hb, hml, hown, hts⟩ (m1_reactionOf l G 1 (vrC_8_7 hv_this) _ st v3x6 h) (cwV 1 hts gX8_weightThatSupportsBear_X1_reactionOf rfl rfl rfl hd1_reactionOf ⟨Nat.le_of_ble_eq_true rfl, Nat.le_of_ble_eq_true rfl⟩) (pre_V hK hX hI hA hS (vrC_8_7 hv_this) rfl rfl [.int (iI v3x6)]) rfl rfl hl.1 rfl (lv_room (Nat.le_of_ble_eq_true rfl)) dX8_weightThatSupportsBear_25 ⟨Nat.le_of_ble_eq_true rfl, Nat.le_of_ble_eq_true rfl⟩) hS (fun z4 st5 h H locs hI hS => ?_)
        refine lv_lstore (lv' := [(4, .long (lI z4)), (0, .ref (G.2.2.1 8 0)), (1, .long (lI v1x6)), (3, .int (iI v3x6))]) hx hb dX8_weightThatSupportsBear_28 hl (by decide) rfl (fun ls hl => ?_)
        refine lv_aload_n hx hb dX8_weightThatSupportsBear_30 rfl (lv_at hl 1 rfl) ?_
        refine gg_8_6 hx hb hts in8 hown hK hI hv_this lk_43 dX8_weightThatSupportsBear_31 ?_
        refine lv_iload_n hx hb dX8_weightThatSupportsBear_34 rfl (lv_at hl 3 rfl) ?_
        refine r_calll (va_runV (As := [.int (iI v3x6)]) (rest := []) ⟨hx, hb, hml, hown, hts⟩ (m1_reactionOf l G 0 (vrC_8_6 hv_this) _ st5 v3x6 h) (cwV 1 hts gX8_weightThatSupportsBear_X1_reactionOf rfl rfl rfl hd1_reactionOf ⟨Nat.le_of_ble_eq_true rfl, Nat.le_of_ble_eq_true rfl⟩) (pre_V hK hX hI hA hS (vrC_8_6 hv_this) rfl rfl [.int (iI v3x6)]) rfl rfl hl.1 rfl (lv_room (Nat.le_of_ble_eq_true rfl)) dX8_weightThatSupportsBear_35 ⟨Nat.le_of_ble_eq_true rfl, Nat.le_of_ble_eq_true rfl⟩) hS (fun z6 st7 h H locs hI hS => ?_)
        refine lv_lstore (lv' := [(6, .long (lI z6)), (4, .long (lI z4)), (0, .ref (G.2.2.1 8 0)), (1, .long (lI v1x6)), (3, .int (iI v3x6))]) hx hb dX8_weightThatSupportsBear_38 hl (by decide) rfl (fun ls hl => ?_)
        refine lv_lload_n hx hb dX8_weightThatSupportsBear_40 rfl (lv_at hl 3 rfl) ?_
        refine lv_lload hx hb dX8_weightThatSupportsBear_41 (lv_at hl 1 rfl) ?_
        refine lv_lload hx hb dX8_weightThatSupportsBear_43 (lv_at hl 0 rfl) ?_
        refine r_lneg hx hb dX8_weightThatSupportsBear_45 ?_
        refine r_calll (va_runS (As := [.long (lI z4), .long (lI (-z6))]) (rest := [.long (lI v1x6)]) ⟨hx, hb, hml, hown, hts⟩ (m8_timesThatFit l G _ st7 z4 (-z6) h) (va_cwS 2 hts gX8_weightThatSupportsBear_X8_timesThatFit rfl rfl rfl hd8_timesThatFit ⟨Nat.le_of_ble_eq_true rfl, Nat.le_of_ble_eq_true rfl⟩) (pre_S hK hX hI hA hS [.long (lI z4), .long (lI (-z6))]) rfl rfl hl.1 rfl (lv_room (Nat.le_of_ble_eq_true rfl)) dX8_weightThatSupportsBear_46 ⟨Nat.le_of_ble_eq_true rfl, Nat.le_of_ble_eq_true rfl⟩) hS (fun z8 st9 h H locs hI hS => ?_)
        obtain ⟨g10, h⟩ := h
        obtain ⟨g11, h⟩ := h
        refine r_mmin_long hx hb (hml.trans hl.1.symm) hown ml_250 dX8_weightThatSupportsBear_49 g10 g11 ⟨Nat.le_of_ble_eq_true rfl, Nat.le_of_ble_eq_true rfl, Nat.zero_le _, Nat.zero_le _⟩ (Nat.le_of_ble_eq_true rfl) ?_
        refine r_topl (fun x12 hx12 => ?_)
        replace h := h x12 hx12
        refine lv_lstore_n (lv' := [(1, .long (lI x12)), (6, .long (lI z6)), (4, .long (lI z4)), (0, .ref (G.2.2.1 8 0)), (3, .int (iI v3x6))]) hx hb dX8_weightThatSupportsBear_52 rfl hl (by decide) rfl (fun ls hl => ?_)
        refine lv_aload_n hx hb dX8_weightThatSupportsBear_53 rfl (lv_at hl 3 rfl) ?_
        refine gg_8_2 hx hb hts in8 hown hK hI hv_this lk_23 dX8_weightThatSupportsBear_54 ?_
        refine gg_0_2 hx hb hts in0 hown hK hI (vrC_8_2 hv_this) lk_85 dX8_weightThatSupportsBear_57 ?_
        refine lv_iload_n hx hb dX8_weightThatSupportsBear_60 rfl (lv_at hl 4 rfl) ?_
        refine r_calli (va_runV (As := [.int (iI v3x6)]) (rest := []) ⟨hx, hb, hml, hown, hts⟩ (m6_second l G (4 * 0) (vrC_0_2 (vrC_8_2 hv_this)) _ st9 v3x6 h) (cwV 1 hts gX8_weightThatSupportsBear_X6_second rfl rfl rfl hd6_second ⟨Nat.le_of_ble_eq_true rfl, Nat.le_of_ble_eq_true rfl⟩) (pre_V hK hX hI hA hS (vrC_0_2 (vrC_8_2 hv_this)) rfl rfl [.int (iI v3x6)]) rfl rfl hl.1 rfl (lv_room (Nat.le_of_ble_eq_true rfl)) dX8_weightThatSupportsBear_61 ⟨Nat.le_of_ble_eq_true rfl, Nat.le_of_ble_eq_true rfl⟩) hS (fun z13 st14 h H locs hI hS => ?_)
        refine lv_istore (lv' := [(8, .int (iI z13)), (1, .long (lI x12)), (6, .long (lI z6)), (4, .long (lI z4)), (0, .ref (G.2.2.1 8 0)), (3, .int (iI v3x6))]) hx hb dX8_weightThatSupportsBear_64 hl (by decide) rfl (fun ls hl => ?_)
        refine lv_iload hx hb dX8_weightThatSupportsBear_66 (lv_at hl 0 rfl) ?_
        refine r_iconst (n := (-1)) hx hb dX8_weightThatSupportsBear_68 ?_
        obtain ⟨g15, h⟩ := h
        refine r_icmp_eq (tgt := 96) hx hb dX8_weightThatSupportsBear_69 (by decide) g15 (inI_mk rfl) (fun c16 => ?_) (fun c16 => ?_)
        · replace h := h.1 c16
          exact J96 st14 x12 v3x6 _ _ ls hI hS (lv_sub hl [4, 1, 5] rfl) h
        · replace h := h.2 c16
          refine lv_lload_n hx hb dX8_weightThatSupportsBear_72 rfl (lv_at hl 1 rfl) ?_
          refine lv_aload_n hx hb dX8_weightThatSupportsBear_73 rfl (lv_at hl 4 rfl) ?_
          refine gg_8_3 hx hb hts in8 hown hK hI hv_this lk_30 dX8_weightThatSupportsBear_74 ?_
          refine gg_3_4 hx hb hts in3 hown hK hI (vrC_8_3 hv_this) lk_157 dX8_weightThatSupportsBear_77 ?_
          refine lv_iload hx hb dX8_weightThatSupportsBear_80 (lv_at hl 0 rfl) ?_
          obtain ⟨g17, h⟩ := h
          refine r_i2l hx hb dX8_weightThatSupportsBear_82 g17 ?_
          refine r_lmul hx hb dX8_weightThatSupportsBear_83 ?_
          refine lv_lload hx hb dX8_weightThatSupportsBear_84 (lv_at hl 3 rfl) ?_
          refine r_lsub hx hb dX8_weightThatSupportsBear_86 ?_
          refine lv_lload hx hb dX8_weightThatSupportsBear_87 (lv_at hl 2 rfl) ?_
          refine r_calll (va_runS (As := [.long (lI (((st14 3 4 0 0) * z13) - z4)), .long (lI z6)]) (rest := [.long (lI x12)]) ⟨hx, hb, hml, hown, hts⟩ (m8_timesThatFit l G _ st14 (((st14 3 4 0 0) * z13) - z4) z6 h) (va_cwS 2 hts gX8_weightThatSupportsBear_X8_timesThatFit rfl rfl rfl hd8_timesThatFit ⟨Nat.le_of_ble_eq_true rfl, Nat.le_of_ble_eq_true rfl⟩) (pre_S hK hX hI hA hS [.long (lI (((st14 3 4 0 0) * z13) - z4)), .long (lI z6)]) rfl rfl hl.1 rfl (lv_room (Nat.le_of_ble_eq_true rfl)) dX8_weightThatSupportsBear_89 ⟨Nat.le_of_ble_eq_true rfl, Nat.le_of_ble_eq_true rfl⟩) hS (fun z18 st19 h H locs hI hS => ?_)
          obtain ⟨g20, h⟩ := h
          obtain ⟨g21, h⟩ := h
          refine r_mmin_long hx hb (hml.trans hl.1.symm) hown ml_250 dX8_weightThatSupportsBear_92 g20 g21 ⟨Nat.le_of_ble_eq_true rfl, Nat.le_of_ble_eq_true rfl, Nat.zero_le _, Nat.zero_le _⟩ (Nat.le_of_ble_eq_true rfl) ?_
          refine r_topl (fun x22 hx22 => ?_)
          replace h := h x22 hx22
          refine lv_lstore_n (lv' := [(1, .long (lI x22)), (8, .int (iI z13)), (6, .long (lI z6)), (4, .long (lI z4)), (0, .ref (G.2.2.1 8 0)), (3, .int (iI v3x6))]) hx hb dX8_weightThatSupportsBear_95 rfl hl (by decide) rfl (fun ls hl => ?_)
          exact J96 st19 x22 v3x6 _ _ ls hI hS (lv_sub hl [4, 0, 5] rfl) h
  unfold f8_weightThatSupportsBear at h
  refine lv_ldc2 (v := lI 999) hx hb hown kc_244 dX8_weightThatSupportsBear_0 ?_
  refine lv_lstore_n (lv' := [(1, .long (lI 999)), (0, .ref (G.2.2.1 8 0))]) hx hb dX8_weightThatSupportsBear_3 rfl hl (by decide) rfl (fun ls hl => ?_)
  refine r_iconst (n := 0) hx hb dX8_weightThatSupportsBear_4 ?_
  refine lv_istore_n (lv' := [(3, .int (iI 0)), (1, .long (lI 999)), (0, .ref (G.2.2.1 8 0))]) hx hb dX8_weightThatSupportsBear_5 rfl hl (by decide) rfl (fun ls hl => ?_)
  obtain ⟨kk, h⟩ := h
  exact L6 kk st 999 0 _ _ ls hI hS (lv_sub hl [2, 1, 0] rfl) h
theorem hd8_weightThatMomentsAllow : yX8_weightThatMomentsAllow.cls = RX8 ∧ yX8_weightThatMomentsAllow.cls ≠ "java/lang/invoke/MethodHandle" ∧ yX8_weightThatMomentsAllow.cls ≠ "java/lang/invoke/VarHandle" ∧ (parseMethodDescriptor yX8_weightThatMomentsAllow.desc).map (fun d => d.parameters.length) = some 0 := by decide +kernel
set_option maxHeartbeats 4000000 in
set_option maxRecDepth 100000 in
theorem m8_weightThatMomentsAllow (l : Launch) (G : WG)   (hv_this : vC 8 0) (Q : Int → St → Prop) (st : St)  (h : f8_weightThatMomentsAllow Q st) : Met l yX8_weightThatMomentsAllow wsX8_weightThatMomentsAllow ({ frames := 1, cells := 0, slots := 0, locals := 23 }) (PcM vC G st [.ref (G.2.2.1 8 0)]) (QlM vC G Q) 0 0 G.2.2.2.1 := by
  refine Met.ofW (cc := cX8_weightThatMomentsAllow) (maxL := 10) (ret := (some .long)) (by decide) rfl ?_
  intro p e s m args below meth c s₁ B hml hvv
  obtain ⟨rfl, hA, hI, hK, hX⟩ := hvv
  have hx := B.exec
  have hb := B.bytes
  have hr := B.returns
  have hts := atoms_spec (ws := wsX8_weightThatMomentsAllow) B.pre
  have hown : s.vm.findClass RX8 = some m.cls := findClass_of_methodNamed B.named
  have hlocks := B.notSynchronized
  have hS : va_S G.2.2.2.1 s.heap s.heap [] := va_S.rf
  have in0 : ∀ w ∈ wsX00, w ∈ wsX8_weightThatMomentsAllow := by decide +kernel
  have in3 : ∀ w ∈ wsX30, w ∈ wsX8_weightThatMomentsAllow := by decide +kernel
  have in8 : ∀ w ∈ wsX80, w ∈ wsX8_weightThatMomentsAllow := by decide +kernel
  have lk_23 := hts (.fieldLink RX8 23 "BeamLines" "present" "LBeamLines$Beam;") (by decide +kernel)
  have lk_30 := hts (.fieldLink RX8 30 "BeamLines" "lines" "LBeamLines$Lines;") (by decide +kernel)
  have lk_43 := hts (.fieldLink RX8 43 "BeamLines" "forces" "LBeamLines$Forces;") (by decide +kernel)
  have lk_47 := hts (.fieldLink RX8 47 "BeamLines" "withoutTrain" "LBeamLines$Forces;") (by decide +kernel)
  have lk_79 := hts (.fieldLink RX8 79 "BeamLines$Beam" "length" "I") (by decide +kernel)
  have lk_82 := hts (.fieldLink RX8 82 "BeamLines$Beam" "most" "I") (by decide +kernel)
  have lk_157 := hts (.fieldLink RX8 157 "BeamLines$Lines" "common" "J") (by decide +kernel)
  have ml_250 : (Cond.methodLink RX8 250 Lib.MathLoose.min_long.x).before _ s = true ∧ (Cond.static Lib.MathLoose.min_long.x).before _ s = true ∧ (Cond.initialized "java/lang/Math").before _ s = true ∧ (Cond.code Lib.MathLoose.min_long.x Lib.MathLoose.min_long.code 4 (some .long)).before _ s = true := ⟨hts _ (by decide +kernel), hts _ (by decide +kernel), hts _ (by decide +kernel), hts _ (by decide +kernel)⟩
  have kc_244 : (Jvm.Cond.constantLong RX8 244 (lI 999)).before _ s = true := hts (.constantLong RX8 244 999) (by decide +kernel)
  have hl := lv_entry ([.ref (G.2.2.1 8 0)]) (n := 10) (Nat.le_of_ble_eq_true rfl)
  rw [lg_entry_eq]
  generalize (lg_sl ([.ref (G.2.2.1 8 0)]) ++ List.replicate (10 - (lg_sl ([.ref (G.2.2.1 8 0)])).length) Slot.unset).toArray = ls at hl ⊢
  have hl : lv_has ls 10 [(0, .ref (G.2.2.1 8 0))] := hl
  have L24 : ∀ (v3x24 : Int) (n24 : Nat), ∀ (st : St) (v1x24 : Int) (v5x24 : Int) (H : Heap) (locs : List Loc) (ls : Array Slot), Iv vC G st H → va_S G.2.2.2.1 s.heap H locs → lv_has ls 10 [(0, .ref (G.2.2.1 8 0)), (1, .long (lI v1x24)), (3, .long (lI v3x24)), (5, .int (iI v5x24))] → f8_weightThatMomentsAllow_l24 Q v3x24 n24 st v1x24 v5x24 → W p l e (headSpec wsX8_weightThatMomentsAllow ({ frames := 1, cells := 0, slots := 0, locals := 23 })).room s m ([.ref (G.2.2.1 8 0)] : List Value).toArray below meth c H locs 0 0 (MQ below (QlM vC G Q) ([.ref (G.2.2.1 8 0)] : List Value).toArray s 0 0 G.2.2.2.1) (F0 m 24 ls []) := by
    intro v3x24 n24
    induction n24 with
    | zero =>
      intro st v1x24 v5x24 H locs ls hI hS hl h
      exact h.elim
    | succ n24 ih24 =>
      intro st v1x24 v5x24 H locs ls hI hS hl h
      unfold f8_weightThatMomentsAllow_l24 at h
      refine lv_iload hx hb dX8_weightThatMomentsAllow_24 (lv_at hl 3 rfl) ?_
      refine lv_aload_n hx hb dX8_weightThatMomentsAllow_26 rfl (lv_at hl 0 rfl) ?_
      refine gg_8_2 hx hb hts in8 hown hK hI hv_this lk_23 dX8_weightThatMomentsAllow_27 ?_
      refine gg_0_0 hx hb hts in0 hown hK hI (vrC_8_2 hv_this) lk_79 dX8_weightThatMomentsAllow_30 ?_
      obtain ⟨g3, h⟩ := h
      obtain ⟨g4, h⟩ := h
      refine r_icmp_gt (tgt := 93) hx hb dX8_weightThatMomentsAllow_33 (by decide) g3 g4 (fun c5 => ?_) (fun c5 => ?_)
      · replace h := h.1 c5
        refine lv_lload_n hx hb dX8_weightThatMomentsAllow_93 rfl (lv_at hl 1 rfl) ?_
        exact r_lret hx hb hr hlocks hK hI hS (Qp := Q) h dX8_weightThatMomentsAllow_94
      · replace h := h.2 c5
        refine lv_aload_n hx hb dX8_weightThatMomentsAllow_36 rfl (lv_at hl 0 rfl) ?_
        refine gg_8_7 hx hb hts in8 hown hK hI hv_this lk_47 dX8_weightThatMomentsAllow_37 ?_
        refine lv_iload hx hb dX8_weightThatMomentsAllow_40 (lv_at hl 3 rfl) ?_
        refine r_calll (va_runV (As := [.int (iI v5x24)]) (rest := []) ⟨hx, hb, hml, hown, hts⟩ (m1_momentAt l G 1 (vrC_8_7 hv_this) _ st v5x24 h) (cwV 1 hts gX8_weightThatMomentsAllow_X1_momentAt rfl rfl rfl hd1_momentAt ⟨Nat.le_of_ble_eq_true rfl, Nat.le_of_ble_eq_true rfl⟩) (pre_V hK hX hI hA hS (vrC_8_7 hv_this) rfl rfl [.int (iI v5x24)]) rfl rfl hl.1 rfl (lv_room (Nat.le_of_ble_eq_true rfl)) dX8_weightThatMomentsAllow_42 ⟨Nat.le_of_ble_eq_true rfl, Nat.le_of_ble_eq_true rfl⟩) hS (fun z6 st7 h H locs hI hS => ?_)
        refine lv_lstore (lv' := [(6, .long (lI z6)), (0, .ref (G.2.2.1 8 0)), (1, .long (lI v1x24)), (3, .long (lI v3x24)), (5, .int (iI v5x24))]) hx hb dX8_weightThatMomentsAllow_45 hl (by decide) rfl (fun ls hl => ?_)
        refine lv_aload_n hx hb dX8_weightThatMomentsAllow_47 rfl (lv_at hl 1 rfl) ?_
        refine gg_8_6 hx hb hts in8 hown hK hI hv_this lk_43 dX8_weightThatMomentsAllow_48 ?_
        refine lv_iload hx hb dX8_weightThatMomentsAllow_51 (lv_at hl 4 rfl) ?_
        refine r_calll (va_runV (As := [.int (iI v5x24)]) (rest := []) ⟨hx, hb, hml, hown, hts⟩ (m1_momentAt l G 0 (vrC_8_6 hv_this) _ st7 v5x24 h) (cwV 1 hts gX8_weightThatMomentsAllow_X1_momentAt rfl rfl rfl hd1_momentAt ⟨Nat.le_of_ble_eq_true rfl, Nat.le_of_ble_eq_true rfl⟩) (pre_V hK hX hI hA hS (vrC_8_6 hv_this) rfl rfl [.int (iI v5x24)]) rfl rfl hl.1 rfl (lv_room (Nat.le_of_ble_eq_true rfl)) dX8_weightThatMomentsAllow_53 ⟨Nat.le_of_ble_eq_true rfl, Nat.le_of_ble_eq_true rfl⟩) hS (fun z8 st9 h H locs hI hS => ?_)
        refine lv_lstore (lv' := [(8, .long (lI z8)), (6, .long (lI z6)), (0, .ref (G.2.2.1 8 0)), (1, .long (lI v1x24)), (3, .long (lI v3x24)), (5, .int (iI v5x24))]) hx hb dX8_weightThatMomentsAllow_56 hl (by decide) rfl (fun ls hl => ?_)
        refine lv_lload_n hx hb dX8_weightThatMomentsAllow_58 rfl (lv_at hl 3 rfl) ?_
        refine lv_lload_n hx hb dX8_weightThatMomentsAllow_59 rfl (lv_at hl 4 rfl) ?_
        refine lv_lload hx hb dX8_weightThatMomentsAllow_60 (lv_at hl 1 rfl) ?_
        refine r_lsub hx hb dX8_weightThatMomentsAllow_62 ?_
        refine lv_lload hx hb dX8_weightThatMomentsAllow_63 (lv_at hl 0 rfl) ?_
        refine r_calll (va_runS (As := [.long (lI (v3x24 - z6)), .long (lI z8)]) (rest := [.long (lI v1x24)]) ⟨hx, hb, hml, hown, hts⟩ (m8_timesThatFit l G _ st9 (v3x24 - z6) z8 h) (va_cwS 2 hts gX8_weightThatMomentsAllow_X8_timesThatFit rfl rfl rfl hd8_timesThatFit ⟨Nat.le_of_ble_eq_true rfl, Nat.le_of_ble_eq_true rfl⟩) (pre_S hK hX hI hA hS [.long (lI (v3x24 - z6)), .long (lI z8)]) rfl rfl hl.1 rfl (lv_room (Nat.le_of_ble_eq_true rfl)) dX8_weightThatMomentsAllow_65 ⟨Nat.le_of_ble_eq_true rfl, Nat.le_of_ble_eq_true rfl⟩) hS (fun z10 st11 h H locs hI hS => ?_)
        obtain ⟨g12, h⟩ := h
        obtain ⟨g13, h⟩ := h
        refine r_mmin_long hx hb (hml.trans hl.1.symm) hown ml_250 dX8_weightThatMomentsAllow_68 g12 g13 ⟨Nat.le_of_ble_eq_true rfl, Nat.le_of_ble_eq_true rfl, Nat.zero_le _, Nat.zero_le _⟩ (Nat.le_of_ble_eq_true rfl) ?_
        refine r_topl (fun x14 hx14 => ?_)
        replace h := h x14 hx14
        refine lv_lstore_n (lv' := [(1, .long (lI x14)), (8, .long (lI z8)), (6, .long (lI z6)), (0, .ref (G.2.2.1 8 0)), (3, .long (lI v3x24)), (5, .int (iI v5x24))]) hx hb dX8_weightThatMomentsAllow_71 rfl hl (by decide) rfl (fun ls hl => ?_)
        refine lv_lload_n hx hb dX8_weightThatMomentsAllow_72 rfl (lv_at hl 0 rfl) ?_
        refine lv_lload_n hx hb dX8_weightThatMomentsAllow_73 rfl (lv_at hl 4 rfl) ?_
        refine lv_lload hx hb dX8_weightThatMomentsAllow_74 (lv_at hl 2 rfl) ?_
        refine r_ladd hx hb dX8_weightThatMomentsAllow_76 ?_
        refine lv_lload hx hb dX8_weightThatMomentsAllow_77 (lv_at hl 1 rfl) ?_
        refine r_lneg hx hb dX8_weightThatMomentsAllow_79 ?_
        refine r_calll (va_runS (As := [.long (lI (v3x24 + z6)), .long (lI (-z8))]) (rest := [.long (lI x14)]) ⟨hx, hb, hml, hown, hts⟩ (m8_timesThatFit l G _ st11 (v3x24 + z6) (-z8) h) (va_cwS 2 hts gX8_weightThatMomentsAllow_X8_timesThatFit rfl rfl rfl hd8_timesThatFit ⟨Nat.le_of_ble_eq_true rfl, Nat.le_of_ble_eq_true rfl⟩) (pre_S hK hX hI hA hS [.long (lI (v3x24 + z6)), .long (lI (-z8))]) rfl rfl hl.1 rfl (lv_room (Nat.le_of_ble_eq_true rfl)) dX8_weightThatMomentsAllow_80 ⟨Nat.le_of_ble_eq_true rfl, Nat.le_of_ble_eq_true rfl⟩) hS (fun z15 st16 h H locs hI hS => ?_)
        obtain ⟨g17, h⟩ := h
        obtain ⟨g18, h⟩ := h
        refine r_mmin_long hx hb (hml.trans hl.1.symm) hown ml_250 dX8_weightThatMomentsAllow_83 g17 g18 ⟨Nat.le_of_ble_eq_true rfl, Nat.le_of_ble_eq_true rfl, Nat.zero_le _, Nat.zero_le _⟩ (Nat.le_of_ble_eq_true rfl) ?_
        refine r_topl (fun x19 hx19 => ?_)
        replace h := h x19 hx19
        refine lv_lstore_n (lv' := [(1, .long (lI x19)), (8, .long (lI z8)), (6, .long (lI z6)), (0, .ref (G.2.2.1 8 0)), (3, .long (lI v3x24)), (5, .int (iI v5x24))]) hx hb dX8_weightThatMomentsAllow_86 rfl hl (by decide) rfl (fun ls hl => ?_)
        obtain ⟨x20, hx20⟩ : ∃ z : Int, z = v5x24 + 1 := ⟨_, rfl⟩
        replace h := h x20 hx20
        refine lv_iinc (v := iI x20) (lv' := [(5, .int (iI x20)), (1, .long (lI x19)), (8, .long (lI z8)), (6, .long (lI z6)), (0, .ref (G.2.2.1 8 0)), (3, .long (lI v3x24))]) hx hb dX8_weightThatMomentsAllow_87 hl (k := 5) rfl (by rw [hx20]; exact iI_add _ _) (by decide) rfl (fun ls hl => ?_)
        refine lv_goto (tgt := 24) hx hb dX8_weightThatMomentsAllow_90 (by decide) ?_
        exact ih24 st16 x19 x20 _ _ ls hI hS (lv_sub hl [4, 1, 5, 0] rfl) h
  unfold f8_weightThatMomentsAllow at h
  refine lv_ldc2 (v := lI 999) hx hb hown kc_244 dX8_weightThatMomentsAllow_0 ?_
  refine lv_lstore_n (lv' := [(1, .long (lI 999)), (0, .ref (G.2.2.1 8 0))]) hx hb dX8_weightThatMomentsAllow_3 rfl hl (by decide) rfl (fun ls hl => ?_)
  refine lv_aload_n hx hb dX8_weightThatMomentsAllow_4 rfl (lv_at hl 1 rfl) ?_
  refine gg_8_3 hx hb hts in8 hown hK hI hv_this lk_30 dX8_weightThatMomentsAllow_5 ?_
  refine gg_3_4 hx hb hts in3 hown hK hI (vrC_8_3 hv_this) lk_157 dX8_weightThatMomentsAllow_8 ?_
  refine lv_aload_n hx hb dX8_weightThatMomentsAllow_11 rfl (lv_at hl 1 rfl) ?_
  refine gg_8_2 hx hb hts in8 hown hK hI hv_this lk_23 dX8_weightThatMomentsAllow_12 ?_
  refine gg_0_1 hx hb hts in0 hown hK hI (vrC_8_2 hv_this) lk_82 dX8_weightThatMomentsAllow_15 ?_
  obtain ⟨g1, h⟩ := h
  refine r_i2l hx hb dX8_weightThatMomentsAllow_18 g1 ?_
  refine r_lmul hx hb dX8_weightThatMomentsAllow_19 ?_
  refine r_topl (fun x2 hx2 => ?_)
  replace h := h x2 hx2
  refine lv_lstore_n (lv' := [(3, .long (lI x2)), (1, .long (lI 999)), (0, .ref (G.2.2.1 8 0))]) hx hb dX8_weightThatMomentsAllow_20 rfl hl (by decide) rfl (fun ls hl => ?_)
  refine r_iconst (n := 0) hx hb dX8_weightThatMomentsAllow_21 ?_
  refine lv_istore (lv' := [(5, .int (iI 0)), (3, .long (lI x2)), (1, .long (lI 999)), (0, .ref (G.2.2.1 8 0))]) hx hb dX8_weightThatMomentsAllow_22 hl (by decide) rfl (fun ls hl => ?_)
  obtain ⟨kk, h⟩ := h
  exact L24 x2 kk st 999 0 _ _ ls hI hS (lv_sub hl [3, 2, 1, 0] rfl) h
theorem hd8_strongest : yX8_strongest.cls = RX8 ∧ yX8_strongest.cls ≠ "java/lang/invoke/MethodHandle" ∧ yX8_strongest.cls ≠ "java/lang/invoke/VarHandle" ∧ (parseMethodDescriptor yX8_strongest.desc).map (fun d => d.parameters.length) = some 0 := by decide +kernel
set_option maxHeartbeats 4000000 in
set_option maxRecDepth 100000 in
theorem m8_strongest (l : Launch) (G : WG)   (hv_this : vC 8 0) (Q : Int → St → Prop) (st : St)  (h : f8_strongest Q st) : Met l yX8_strongest wsX8_strongest ({ frames := 5, cells := 0, slots := 0, locals := 118 }) (PcM vC G st [.ref (G.2.2.1 8 0)]) (QiM vC G Q) 0 0 G.2.2.2.1 := by
  refine Met.ofW (cc := cX8_strongest) (maxL := 4) (ret := (some .int)) (by decide) rfl ?_
  intro p e s m args below meth c s₁ B hml hvv
  obtain ⟨rfl, hA, hI, hK, hX⟩ := hvv
  have hx := B.exec
  have hb := B.bytes
  have hr := B.returns
  have hts := atoms_spec (ws := wsX8_strongest) B.pre
  have hown : s.vm.findClass RX8 = some m.cls := findClass_of_methodNamed B.named
  have hlocks := B.notSynchronized
  have hS : va_S G.2.2.2.1 s.heap s.heap [] := va_S.rf
  have in0 : ∀ w ∈ wsX00, w ∈ wsX8_strongest := by decide +kernel
  have in8 : ∀ w ∈ wsX80, w ∈ wsX8_strongest := by decide +kernel
  have lk_23 := hts (.fieldLink RX8 23 "BeamLines" "present" "LBeamLines$Beam;") (by decide +kernel)
  have lk_30 := hts (.fieldLink RX8 30 "BeamLines" "lines" "LBeamLines$Lines;") (by decide +kernel)
  have lk_43 := hts (.fieldLink RX8 43 "BeamLines" "forces" "LBeamLines$Forces;") (by decide +kernel)
  have lk_47 := hts (.fieldLink RX8 47 "BeamLines" "withoutTrain" "LBeamLines$Forces;") (by decide +kernel)
  have lk_79 := hts (.fieldLink RX8 79 "BeamLines$Beam" "length" "I") (by decide +kernel)
  have ml_250 : (Cond.methodLink RX8 250 Lib.MathLoose.min_long.x).before _ s = true ∧ (Cond.static Lib.MathLoose.min_long.x).before _ s = true ∧ (Cond.initialized "java/lang/Math").before _ s = true ∧ (Cond.code Lib.MathLoose.min_long.x Lib.MathLoose.min_long.code 4 (some .long)).before _ s = true := ⟨hts _ (by decide +kernel), hts _ (by decide +kernel), hts _ (by decide +kernel), hts _ (by decide +kernel)⟩
  have kc_244 : (Jvm.Cond.constantLong RX8 244 (lI 999)).before _ s = true := hts (.constantLong RX8 244 999) (by decide +kernel)
  have hl := lv_entry ([.ref (G.2.2.1 8 0)]) (n := 4) (Nat.le_of_ble_eq_true rfl)
  rw [lg_entry_eq]
  generalize (lg_sl ([.ref (G.2.2.1 8 0)]) ++ List.replicate (4 - (lg_sl ([.ref (G.2.2.1 8 0)])).length) Slot.unset).toArray = ls at hl ⊢
  have hl : lv_has ls 4 [(0, .ref (G.2.2.1 8 0))] := hl
  have L42 : ∀ (n42 : Nat), ∀ (st : St) (v1x42 : Int) (v3x42 : Int) (H : Heap) (locs : List Loc) (ls : Array Slot), Iv vC G st H → va_S G.2.2.2.1 s.heap H locs → lv_has ls 4 [(0, .ref (G.2.2.1 8 0)), (1, .long (lI v1x42)), (3, .int (iI v3x42))] → f8_strongest_l42 Q n42 st v1x42 v3x42 → W p l e (headSpec wsX8_strongest ({ frames := 5, cells := 0, slots := 0, locals := 118 })).room s m ([.ref (G.2.2.1 8 0)] : List Value).toArray below meth c H locs 0 0 (MQ below (QiM vC G Q) ([.ref (G.2.2.1 8 0)] : List Value).toArray s 0 0 G.2.2.2.1) (F0 m 42 ls []) := by
    intro n42
    induction n42 with
    | zero =>
      intro st v1x42 v3x42 H locs ls hI hS hl h
      exact h.elim
    | succ n42 ih42 =>
      intro st v1x42 v3x42 H locs ls hI hS hl h
      unfold f8_strongest_l42 at h
      refine lv_iload_n hx hb dX8_strongest_42 rfl (lv_at hl 2 rfl) ?_
      refine lv_aload_n hx hb dX8_strongest_43 rfl (lv_at hl 0 rfl) ?_
      refine gg_8_2 hx hb hts in8 hown hK hI hv_this lk_23 dX8_strongest_44 ?_
      refine gg_0_0 hx hb hts in0 hown hK hI (vrC_8_2 hv_this) lk_79 dX8_strongest_47 ?_
      obtain ⟨g7, h⟩ := h
      obtain ⟨g8, h⟩ := h
      refine r_icmp_gt (tgt := 93) hx hb dX8_strongest_50 (by decide) g7 g8 (fun c9 => ?_) (fun c9 => ?_)
      · replace h := h.1 c9
        refine lv_lload_n hx hb dX8_strongest_93 rfl (lv_at hl 1 rfl) ?_
        refine r_l2i hx hb dX8_strongest_94 ?_
        exact r_iret hx hb hr hlocks hK hI hS (Qp := Q) h dX8_strongest_95
      · replace h := h.2 c9
        refine lv_aload_n hx hb dX8_strongest_53 rfl (lv_at hl 0 rfl) ?_
        refine gg_8_6 hx hb hts in8 hown hK hI hv_this lk_43 dX8_strongest_54 ?_
        refine lv_aload_n hx hb dX8_strongest_57 rfl (lv_at hl 0 rfl) ?_
        refine gg_8_2 hx hb hts in8 hown hK hI hv_this lk_23 dX8_strongest_58 ?_
        refine lv_aload_n hx hb dX8_strongest_61 rfl (lv_at hl 0 rfl) ?_
        refine gg_8_3 hx hb hts in8 hown hK hI hv_this lk_30 dX8_strongest_62 ?_
        refine lv_iload_n hx hb dX8_strongest_65 rfl (lv_at hl 2 rfl) ?_
        refine r_callv (va_runV (As := [.ref (G.2.2.1 0 0), .ref (G.2.2.1 3 0), .int (iI v3x42)]) (rest := []) ⟨hx, hb, hml, hown, hts⟩ (m1_underOne l G 0 0 0 (vrC_8_6 hv_this) (vrC_8_2 hv_this) (vrC_8_3 hv_this) _ st v3x42 h) (cwV 3 hts gX8_strongest_X1_underOne rfl rfl rfl hd1_underOne ⟨Nat.le_of_ble_eq_true rfl, Nat.le_of_ble_eq_true rfl⟩) (pre_V hK hX hI hA hS (vrC_8_6 hv_this) rfl rfl [.ref (G.2.2.1 0 0), .ref (G.2.2.1 3 0), .int (iI v3x42)]) rfl rfl hl.1 rfl (lv_room (Nat.le_of_ble_eq_true rfl)) dX8_strongest_66 ⟨Nat.le_of_ble_eq_true rfl, Nat.le_of_ble_eq_true rfl⟩) hS (fun st11 h H locs hI hS => ?_)
        refine lv_lload_n hx hb dX8_strongest_69 rfl (lv_at hl 1 rfl) ?_
        refine lv_aload_n hx hb dX8_strongest_70 rfl (lv_at hl 0 rfl) ?_
        refine r_calll (va_runV (As := []) (rest := [.long (lI v1x42)]) ⟨hx, hb, hml, hown, hts⟩ (m8_weightThatSupportsBear l G hv_this _ st11 h) (cwV 0 hts gX8_strongest_X8_weightThatSupportsBear rfl rfl rfl hd8_weightThatSupportsBear ⟨Nat.le_of_ble_eq_true rfl, Nat.le_of_ble_eq_true rfl⟩) (pre_V hK hX hI hA hS hv_this rfl rfl []) rfl rfl hl.1 rfl (lv_room (Nat.le_of_ble_eq_true rfl)) dX8_strongest_71 ⟨Nat.le_of_ble_eq_true rfl, Nat.le_of_ble_eq_true rfl⟩) hS (fun z12 st13 h H locs hI hS => ?_)
        obtain ⟨g14, h⟩ := h
        obtain ⟨g15, h⟩ := h
        refine r_mmin_long hx hb (hml.trans hl.1.symm) hown ml_250 dX8_strongest_74 g14 g15 ⟨Nat.le_of_ble_eq_true rfl, Nat.le_of_ble_eq_true rfl, Nat.zero_le _, Nat.zero_le _⟩ (Nat.le_of_ble_eq_true rfl) ?_
        refine r_topl (fun x16 hx16 => ?_)
        replace h := h x16 hx16
        refine lv_lstore_n (lv' := [(1, .long (lI x16)), (0, .ref (G.2.2.1 8 0)), (3, .int (iI v3x42))]) hx hb dX8_strongest_77 rfl hl (by decide) rfl (fun ls hl => ?_)
        refine lv_lload_n hx hb dX8_strongest_78 rfl (lv_at hl 0 rfl) ?_
        refine lv_aload_n hx hb dX8_strongest_79 rfl (lv_at hl 1 rfl) ?_
        refine r_calll (va_runV (As := []) (rest := [.long (lI x16)]) ⟨hx, hb, hml, hown, hts⟩ (m8_weightThatMomentsAllow l G hv_this _ st13 h) (cwV 0 hts gX8_strongest_X8_weightThatMomentsAllow rfl rfl rfl hd8_weightThatMomentsAllow ⟨Nat.le_of_ble_eq_true rfl, Nat.le_of_ble_eq_true rfl⟩) (pre_V hK hX hI hA hS hv_this rfl rfl []) rfl rfl hl.1 rfl (lv_room (Nat.le_of_ble_eq_true rfl)) dX8_strongest_80 ⟨Nat.le_of_ble_eq_true rfl, Nat.le_of_ble_eq_true rfl⟩) hS (fun z17 st18 h H locs hI hS => ?_)
        obtain ⟨g19, h⟩ := h
        obtain ⟨g20, h⟩ := h
        refine r_mmin_long hx hb (hml.trans hl.1.symm) hown ml_250 dX8_strongest_83 g19 g20 ⟨Nat.le_of_ble_eq_true rfl, Nat.le_of_ble_eq_true rfl, Nat.zero_le _, Nat.zero_le _⟩ (Nat.le_of_ble_eq_true rfl) ?_
        refine r_topl (fun x21 hx21 => ?_)
        replace h := h x21 hx21
        refine lv_lstore_n (lv' := [(1, .long (lI x21)), (0, .ref (G.2.2.1 8 0)), (3, .int (iI v3x42))]) hx hb dX8_strongest_86 rfl hl (by decide) rfl (fun ls hl => ?_)
        obtain ⟨x22, hx22⟩ : ∃ z : Int, z = v3x42 + 1 := ⟨_, rfl⟩
        replace h := h x22 hx22
        refine lv_iinc (v := iI x22) (lv' := [(3, .int (iI x22)), (1, .long (lI x21)), (0, .ref (G.2.2.1 8 0))]) hx hb dX8_strongest_87 hl (k := 2) rfl (by rw [hx22]; exact iI_add _ _) (by decide) rfl (fun ls hl => ?_)
        refine lv_goto (tgt := 42) hx hb dX8_strongest_90 (by decide) ?_
        exact ih42 st18 x21 x22 _ _ ls hI hS (lv_sub hl [2, 1, 0] rfl) h
  unfold f8_strongest at h
  refine lv_aload_n hx hb dX8_strongest_0 rfl (lv_at hl 0 rfl) ?_
  refine gg_8_7 hx hb hts in8 hown hK hI hv_this lk_47 dX8_strongest_1 ?_
  refine lv_aload_n hx hb dX8_strongest_4 rfl (lv_at hl 0 rfl) ?_
  refine gg_8_2 hx hb hts in8 hown hK hI hv_this lk_23 dX8_strongest_5 ?_
  refine lv_aload_n hx hb dX8_strongest_8 rfl (lv_at hl 0 rfl) ?_
  refine gg_8_3 hx hb hts in8 hown hK hI hv_this lk_30 dX8_strongest_9 ?_
  refine r_iconst (n := (-1)) hx hb dX8_strongest_12 ?_
  refine r_callv (va_runV (As := [.ref (G.2.2.1 0 0), .ref (G.2.2.1 3 0), .int (iI (-1))]) (rest := []) ⟨hx, hb, hml, hown, hts⟩ (m1_underAll l G 1 0 0 (vrC_8_7 hv_this) (vrC_8_2 hv_this) (vrC_8_3 hv_this) _ st (-1) h) (cwV 3 hts gX8_strongest_X1_underAll rfl rfl rfl hd1_underAll ⟨Nat.le_of_ble_eq_true rfl, Nat.le_of_ble_eq_true rfl⟩) (pre_V hK hX hI hA hS (vrC_8_7 hv_this) rfl rfl [.ref (G.2.2.1 0 0), .ref (G.2.2.1 3 0), .int (iI (-1))]) rfl rfl hl.1 rfl (lv_room (Nat.le_of_ble_eq_true rfl)) dX8_strongest_13 ⟨Nat.le_of_ble_eq_true rfl, Nat.le_of_ble_eq_true rfl⟩) hS (fun st2 h H locs hI hS => ?_)
  refine lv_aload_n hx hb dX8_strongest_16 rfl (lv_at hl 0 rfl) ?_
  refine gg_8_7 hx hb hts in8 hown hK hI hv_this lk_47 dX8_strongest_17 ?_
  refine lv_aload_n hx hb dX8_strongest_20 rfl (lv_at hl 0 rfl) ?_
  refine gg_8_2 hx hb hts in8 hown hK hI hv_this lk_23 dX8_strongest_21 ?_
  refine lv_aload_n hx hb dX8_strongest_24 rfl (lv_at hl 0 rfl) ?_
  refine gg_8_3 hx hb hts in8 hown hK hI hv_this lk_30 dX8_strongest_25 ?_
  refine r_calli (va_runV (As := [.ref (G.2.2.1 0 0), .ref (G.2.2.1 3 0)]) (rest := []) ⟨hx, hb, hml, hown, hts⟩ (m1_firstReason l G 1 0 0 (vrC_8_7 hv_this) (vrC_8_2 hv_this) (vrC_8_3 hv_this) _ st2 h) (cwV 2 hts gX8_strongest_X1_firstReason rfl rfl rfl hd1_firstReason ⟨Nat.le_of_ble_eq_true rfl, Nat.le_of_ble_eq_true rfl⟩) (pre_V hK hX hI hA hS (vrC_8_7 hv_this) rfl rfl [.ref (G.2.2.1 0 0), .ref (G.2.2.1 3 0)]) rfl rfl hl.1 rfl (lv_room (Nat.le_of_ble_eq_true rfl)) dX8_strongest_28 ⟨Nat.le_of_ble_eq_true rfl, Nat.le_of_ble_eq_true rfl⟩) hS (fun z3 st4 h H locs hI hS => ?_)
  obtain ⟨g5, h⟩ := h
  refine r_if_eq (tgt := 36) hx hb dX8_strongest_31 (by decide) g5 (fun c6 => ?_) (fun c6 => ?_)
  · replace h := h.1 c6
    refine lv_ldc2 (v := lI 999) hx hb hown kc_244 dX8_strongest_36 ?_
    refine lv_lstore_n (lv' := [(1, .long (lI 999)), (0, .ref (G.2.2.1 8 0))]) hx hb dX8_strongest_39 rfl hl (by decide) rfl (fun ls hl => ?_)
    refine r_iconst (n := 0) hx hb dX8_strongest_40 ?_
    refine lv_istore_n (lv' := [(3, .int (iI 0)), (1, .long (lI 999)), (0, .ref (G.2.2.1 8 0))]) hx hb dX8_strongest_41 rfl hl (by decide) rfl (fun ls hl => ?_)
    obtain ⟨kk, h⟩ := h
    exact L42 kk st4 999 0 _ _ ls hI hS (lv_sub hl [2, 1, 0] rfl) h
  · replace h := h.2 c6
    refine r_iconst (n := 0) hx hb dX8_strongest_34 ?_
    exact r_iret hx hb hr hlocks hK hI hS (Qp := Q) h dX8_strongest_35
theorem hd8_moveSupport : yX8_moveSupport.cls = RX8 ∧ yX8_moveSupport.cls ≠ "java/lang/invoke/MethodHandle" ∧ yX8_moveSupport.cls ≠ "java/lang/invoke/VarHandle" ∧ (parseMethodDescriptor yX8_moveSupport.desc).map (fun d => d.parameters.length) = some 2 := by decide +kernel
set_option maxHeartbeats 4000000 in
set_option maxRecDepth 100000 in
theorem m8_moveSupport (l : Launch) (G : WG) (hfl : l.stackTraces = false)  (hv_this : vC 8 0) (Q : Int → St → Prop) (X : String → St → Prop) (st : St) (a0 : Int) (a1 : Int) (h : f8_moveSupport Q X st a0 a1) : vx_Met l yX8_moveSupport wsX8_moveSupport ({ frames := 7, cells := 2, slots := 12, locals := 133 }) (PcM vC G st [.ref (G.2.2.1 8 0), .int (iI a0), .int (iI a1)]) (QiM vC G Q) (XM vC G X) 2 12 G.2.2.2.1 := by
  refine vx_ofW (cc := cX8_moveSupport) (maxL := 5) (ret := (some .int)) (by decide) rfl ?_
  intro p e s m args below meth c s₁ B hml hE hvv
  obtain ⟨rfl, hA, hI, hK, hX⟩ := hvv
  have hx := B.exec
  have hb := B.bytes
  have hr := B.returns
  have hts := atoms_spec (ws := wsX8_moveSupport) B.pre
  have hown : s.vm.findClass RX8 = some m.cls := findClass_of_methodNamed B.named
  have hlocks := B.notSynchronized
  have hS : va_S G.2.2.2.1 s.heap s.heap [] := va_S.rf
  have in0 : ∀ w ∈ wsX00, w ∈ wsX8_moveSupport := by decide +kernel
  have in8 : ∀ w ∈ wsX80, w ∈ wsX8_moveSupport := by decide +kernel
  have lk_23 := hts (.fieldLink RX8 23 "BeamLines" "present" "LBeamLines$Beam;") (by decide +kernel)
  have lk_34 := hts (.fieldLink RX8 34 "BeamLines" "trial" "LBeamLines$Beam;") (by decide +kernel)
  have lk_37 := hts (.fieldLink RX8 37 "BeamLines" "trialLines" "LBeamLines$Lines;") (by decide +kernel)
  have lk_85 := hts (.fieldLink RX8 85 "BeamLines$Beam" "supports" "LBeamLines$Row;") (by decide +kernel)
  have hl := lv_entry ([.ref (G.2.2.1 8 0), .int (iI a0), .int (iI a1)]) (n := 5) (Nat.le_of_ble_eq_true rfl)
  rw [lg_entry_eq]
  generalize (lg_sl ([.ref (G.2.2.1 8 0), .int (iI a0), .int (iI a1)]) ++ List.replicate (5 - (lg_sl ([.ref (G.2.2.1 8 0), .int (iI a0), .int (iI a1)])).length) Slot.unset).toArray = ls at hl ⊢
  have hl : lv_has ls 5 [(0, .ref (G.2.2.1 8 0)), (1, .int (iI a0)), (2, .int (iI a1))] := hl
  unfold f8_moveSupport at h
  refine lv_aload_n hx hb dX8_moveSupport_0 rfl (lv_at hl 0 rfl) ?_
  refine lv_aload_n hx hb dX8_moveSupport_1 rfl (lv_at hl 0 rfl) ?_
  refine gg_8_2 hx hb hts in8 hown hK hI hv_this lk_23 dX8_moveSupport_2 ?_
  refine gg_0_2 hx hb hts in0 hown hK hI (vrC_8_2 hv_this) lk_85 dX8_moveSupport_5 ?_
  refine lv_iload_n hx hb dX8_moveSupport_8 rfl (lv_at hl 1 rfl) ?_
  refine r_xcallv (vx_runV (As := [.ref (G.2.2.1 6 (4 * 0)), .int (iI a0)]) (rest := []) ⟨hx, hb, hml, hown, hts⟩ (m8_needNumber l G hfl (4 * 0) hv_this (vrC_0_2 (vrC_8_2 hv_this)) _ _ st a0 h) (cwV 2 hts gX8_moveSupport_X8_needNumber rfl rfl rfl hd8_needNumber ⟨Nat.le_of_ble_eq_true rfl, Nat.le_of_ble_eq_true rfl⟩) (pre_V hK hX hI hA hS hv_this rfl rfl [.ref (G.2.2.1 6 (4 * 0)), .int (iI a0)]) rfl rfl hl.1 rfl (lv_room (Nat.le_of_ble_eq_true rfl)) dX8_moveSupport_9 ⟨Nat.le_of_ble_eq_true rfl, Nat.le_of_ble_eq_true rfl⟩) hS hE hlocks hK (by decide) (by decide) (fun st2 h H locs hI hS => ?_)
  refine lv_aload_n hx hb dX8_moveSupport_12 rfl (lv_at hl 0 rfl) ?_
  refine lv_iload_n hx hb dX8_moveSupport_13 rfl (lv_at hl 2 rfl) ?_
  refine r_xcallv (vx_runV (As := [.int (iI a1)]) (rest := []) ⟨hx, hb, hml, hown, hts⟩ (m8_needPlace l G hfl hv_this _ _ st2 a1 h) (cwV 1 hts gX8_moveSupport_X8_needPlace rfl rfl rfl hd8_needPlace ⟨Nat.le_of_ble_eq_true rfl, Nat.le_of_ble_eq_true rfl⟩) (pre_V hK hX hI hA hS hv_this rfl rfl [.int (iI a1)]) rfl rfl hl.1 rfl (lv_room (Nat.le_of_ble_eq_true rfl)) dX8_moveSupport_14 ⟨Nat.le_of_ble_eq_true rfl, Nat.le_of_ble_eq_true rfl⟩) hS hE hlocks hK (by decide) (by decide) (fun st4 h H locs hI hS => ?_)
  refine lv_aload_n hx hb dX8_moveSupport_17 rfl (lv_at hl 0 rfl) ?_
  refine gg_8_4 hx hb hts in8 hown hK hI hv_this lk_34 dX8_moveSupport_18 ?_
  refine lv_aload_n hx hb dX8_moveSupport_21 rfl (lv_at hl 0 rfl) ?_
  refine gg_8_2 hx hb hts in8 hown hK hI hv_this lk_23 dX8_moveSupport_22 ?_
  refine r_callv (va_runV (As := [.ref (G.2.2.1 0 0)]) (rest := []) ⟨hx, hb, hml, hown, hts⟩ (m0_copyFrom l G 1 0 (vrC_8_4 hv_this) (vrC_8_2 hv_this) _ st4 h) (cwV 1 hts gX8_moveSupport_X0_copyFrom rfl rfl rfl hd0_copyFrom ⟨Nat.le_of_ble_eq_true rfl, Nat.le_of_ble_eq_true rfl⟩) (pre_V hK hX hI hA hS (vrC_8_4 hv_this) rfl rfl [.ref (G.2.2.1 0 0)]) rfl rfl hl.1 rfl (lv_room (Nat.le_of_ble_eq_true rfl)) dX8_moveSupport_25 ⟨Nat.le_of_ble_eq_true rfl, Nat.le_of_ble_eq_true rfl⟩) hS (fun st6 h H locs hI hS => ?_)
  refine lv_aload_n hx hb dX8_moveSupport_28 rfl (lv_at hl 0 rfl) ?_
  refine gg_8_4 hx hb hts in8 hown hK hI hv_this lk_34 dX8_moveSupport_29 ?_
  refine gg_0_2 hx hb hts in0 hown hK hI (vrC_8_4 hv_this) lk_85 dX8_moveSupport_32 ?_
  refine lv_iload_n hx hb dX8_moveSupport_35 rfl (lv_at hl 1 rfl) ?_
  refine r_calli (va_runV (As := [.int (iI a0)]) (rest := []) ⟨hx, hb, hml, hown, hts⟩ (m6_second l G (4 * 1) (vrC_0_2 (vrC_8_4 hv_this)) _ st6 a0 h) (cwV 1 hts gX8_moveSupport_X6_second rfl rfl rfl hd6_second ⟨Nat.le_of_ble_eq_true rfl, Nat.le_of_ble_eq_true rfl⟩) (pre_V hK hX hI hA hS (vrC_0_2 (vrC_8_4 hv_this)) rfl rfl [.int (iI a0)]) rfl rfl hl.1 rfl (lv_room (Nat.le_of_ble_eq_true rfl)) dX8_moveSupport_36 ⟨Nat.le_of_ble_eq_true rfl, Nat.le_of_ble_eq_true rfl⟩) hS (fun z7 st8 h H locs hI hS => ?_)
  refine lv_istore_n (lv' := [(3, .int (iI z7)), (0, .ref (G.2.2.1 8 0)), (1, .int (iI a0)), (2, .int (iI a1))]) hx hb dX8_moveSupport_39 rfl hl (by decide) rfl (fun ls hl => ?_)
  refine lv_aload_n hx hb dX8_moveSupport_40 rfl (lv_at hl 1 rfl) ?_
  refine gg_8_4 hx hb hts in8 hown hK hI hv_this lk_34 dX8_moveSupport_41 ?_
  refine gg_0_2 hx hb hts in0 hown hK hI (vrC_8_4 hv_this) lk_85 dX8_moveSupport_44 ?_
  refine lv_iload_n hx hb dX8_moveSupport_47 rfl (lv_at hl 2 rfl) ?_
  refine r_callv (va_runV (As := [.int (iI a0)]) (rest := []) ⟨hx, hb, hml, hown, hts⟩ (m6_remove l G (4 * 1) (vrC_0_2 (vrC_8_4 hv_this)) _ st8 a0 h) (cwV 1 hts gX8_moveSupport_X6_remove rfl rfl rfl hd6_remove ⟨Nat.le_of_ble_eq_true rfl, Nat.le_of_ble_eq_true rfl⟩) (pre_V hK hX hI hA hS (vrC_0_2 (vrC_8_4 hv_this)) rfl rfl [.int (iI a0)]) rfl rfl hl.1 rfl (lv_room (Nat.le_of_ble_eq_true rfl)) dX8_moveSupport_48 ⟨Nat.le_of_ble_eq_true rfl, Nat.le_of_ble_eq_true rfl⟩) hS (fun st10 h H locs hI hS => ?_)
  refine lv_aload_n hx hb dX8_moveSupport_51 rfl (lv_at hl 1 rfl) ?_
  refine gg_8_4 hx hb hts in8 hown hK hI hv_this lk_34 dX8_moveSupport_52 ?_
  refine lv_iload_n hx hb dX8_moveSupport_55 rfl (lv_at hl 3 rfl) ?_
  refine r_calli (va_runV (As := [.int (iI a1)]) (rest := []) ⟨hx, hb, hml, hown, hts⟩ (m0_isTaken l G 1 (vrC_8_4 hv_this) _ st10 a1 h) (cwV 1 hts gX8_moveSupport_X0_isTaken rfl rfl rfl hd0_isTaken ⟨Nat.le_of_ble_eq_true rfl, Nat.le_of_ble_eq_true rfl⟩) (pre_V hK hX hI hA hS (vrC_8_4 hv_this) rfl rfl [.int (iI a1)]) rfl rfl hl.1 rfl (lv_room (Nat.le_of_ble_eq_true rfl)) dX8_moveSupport_56 ⟨Nat.le_of_ble_eq_true rfl, Nat.le_of_ble_eq_true rfl⟩) hS (fun z11 st12 h H locs hI hS => ?_)
  obtain ⟨g13, h⟩ := h
  refine r_if_eq (tgt := 65) hx hb dX8_moveSupport_59 (by decide) g13 (fun c14 => ?_) (fun c14 => ?_)
  · replace h := h.1 c14
    refine lv_aload_n hx hb dX8_moveSupport_65 rfl (lv_at hl 1 rfl) ?_
    refine gg_8_4 hx hb hts in8 hown hK hI hv_this lk_34 dX8_moveSupport_66 ?_
    refine gg_0_2 hx hb hts in0 hown hK hI (vrC_8_4 hv_this) lk_85 dX8_moveSupport_69 ?_
    refine lv_iload_n hx hb dX8_moveSupport_72 rfl (lv_at hl 3 rfl) ?_
    refine lv_iload_n hx hb dX8_moveSupport_73 rfl (lv_at hl 0 rfl) ?_
    refine r_calli (va_runV (As := [.int (iI a1), .int (iI z7)]) (rest := []) ⟨hx, hb, hml, hown, hts⟩ (m6_putInOrder l G (4 * 1) (vrC_0_2 (vrC_8_4 hv_this)) _ st12 a1 z7 h) (cwV 2 hts gX8_moveSupport_X6_putInOrder rfl rfl rfl hd6_putInOrder ⟨Nat.le_of_ble_eq_true rfl, Nat.le_of_ble_eq_true rfl⟩) (pre_V hK hX hI hA hS (vrC_0_2 (vrC_8_4 hv_this)) rfl rfl [.int (iI a1), .int (iI z7)]) rfl rfl hl.1 rfl (lv_room (Nat.le_of_ble_eq_true rfl)) dX8_moveSupport_74 ⟨Nat.le_of_ble_eq_true rfl, Nat.le_of_ble_eq_true rfl⟩) hS (fun z15 st16 h H locs hI hS => ?_)
    refine lv_istore (lv' := [(4, .int (iI z15)), (3, .int (iI z7)), (0, .ref (G.2.2.1 8 0)), (1, .int (iI a0)), (2, .int (iI a1))]) hx hb dX8_moveSupport_77 hl (by decide) rfl (fun ls hl => ?_)
    refine lv_aload_n hx hb dX8_moveSupport_79 rfl (lv_at hl 2 rfl) ?_
    refine gg_8_5 hx hb hts in8 hown hK hI hv_this lk_37 dX8_moveSupport_80 ?_
    refine lv_aload_n hx hb dX8_moveSupport_83 rfl (lv_at hl 2 rfl) ?_
    refine gg_8_4 hx hb hts in8 hown hK hI hv_this lk_34 dX8_moveSupport_84 ?_
    refine r_calli (va_runV (As := [.ref (G.2.2.1 0 1)]) (rest := []) ⟨hx, hb, hml, hown, hts⟩ (m3_reckon l G 1 1 (vrC_8_5 hv_this) (vrC_8_4 hv_this) _ st16 h) (cwV 1 hts gX8_moveSupport_X3_reckon rfl rfl rfl hd3_reckon ⟨Nat.le_of_ble_eq_true rfl, Nat.le_of_ble_eq_true rfl⟩) (pre_V hK hX hI hA hS (vrC_8_5 hv_this) rfl rfl [.ref (G.2.2.1 0 1)]) rfl rfl hl.1 rfl (lv_room (Nat.le_of_ble_eq_true rfl)) dX8_moveSupport_87 ⟨Nat.le_of_ble_eq_true rfl, Nat.le_of_ble_eq_true rfl⟩) hS (fun z17 st18 h H locs hI hS => ?_)
    obtain ⟨g19, h⟩ := h
    refine r_if_ne (tgt := 96) hx hb dX8_moveSupport_90 (by decide) g19 (fun c20 => ?_) (fun c20 => ?_)
    · replace h := h.2 c20
      refine lv_aload_n hx hb dX8_moveSupport_96 rfl (lv_at hl 2 rfl) ?_
      refine r_callv (va_runV (As := []) (rest := []) ⟨hx, hb, hml, hown, hts⟩ (m8_takeTrial l G hv_this _ st18 h) (cwV 0 hts gX8_moveSupport_X8_takeTrial rfl rfl rfl hd8_takeTrial ⟨Nat.le_of_ble_eq_true rfl, Nat.le_of_ble_eq_true rfl⟩) (pre_V hK hX hI hA hS hv_this rfl rfl []) rfl rfl hl.1 rfl (lv_room (Nat.le_of_ble_eq_true rfl)) dX8_moveSupport_97 ⟨Nat.le_of_ble_eq_true rfl, Nat.le_of_ble_eq_true rfl⟩) hS (fun st22 h H locs hI hS => ?_)
      refine lv_iload hx hb dX8_moveSupport_100 (lv_at hl 0 rfl) ?_
      refine W.widen (k := 2) (n := 12) (by decide) (by decide) ?_
      exact vx_ret (r_iret hx hb hr hlocks hK hI hS (Qp := Q) h dX8_moveSupport_102)
    · replace h := h.1 c20
      refine r_bipush (n := (-12)) hx hb dX8_moveSupport_93 rfl ?_
      refine W.widen (k := 2) (n := 12) (by decide) (by decide) ?_
      exact vx_ret (r_iret hx hb hr hlocks hK hI hS (Qp := Q) h dX8_moveSupport_95)
  · replace h := h.2 c14
    refine r_bipush (n := (-11)) hx hb dX8_moveSupport_62 rfl ?_
    refine W.widen (k := 2) (n := 12) (by decide) (by decide) ?_
    exact vx_ret (r_iret hx hb hr hlocks hK hI hS (Qp := Q) h dX8_moveSupport_64)
