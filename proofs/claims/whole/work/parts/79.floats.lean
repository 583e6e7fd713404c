def f8_share  (Q : UInt64 → St → Prop) (X : String → St → Prop) (st : St) (a0 : Int) (a1 : Int) : Prop :=
  f8_needNumber (4 * 0) (fun st2 => f8_needHead (fun st4 => f1_underAll 0 0 0 (fun st6 => inI (st6 1 4 0 0) ∧ ∀ x8 : Int, x8 = (st6 3 4 0 0) * (st6 1 4 0 0) → inL x8 ∧ ((x8 = 0 → Q (FP.dconst0) st6) ∧ (¬ x8 = 0 → f1_reactionOf 0 (fun z11 st12 => inL x8 ∧ ¬ x8 = 0 ∧ Q ((FP.ddiv (dL z11) (dL x8))) st12) st6 a0))) st4 a1) X st2 a1) X st a0
def f8_used  (Q : UInt32 → St → Prop) (st : St)  : Prop :=
  f4_find 0 0 0 (fun st2 => inI (st2 0 1 0 0) ∧ ∀ x4 : Int, x4 = (st2 3 4 0 0) * (st2 0 1 0 0) → inL x4 ∧ ((x4 = 0 → Q (FP.fconst0) st2) ∧ (¬ x4 = 0 → ∀ x7 : Int, x7 = st2 4 0 0 0 → inL x4 ∧ ¬ x4 = 0 ∧ Q ((FP.fdiv (fL x7) (fL x4))) st2))) st
def f9_share_j96  (B58 : St → Int → Int → Prop) (Q : UInt64 → St → Prop) (a0 : Int) (a1 : Int) (st : St) (v4x96 : Int) (s0x96 : Int) (s1x96 : Int) : Prop :=
  ∀ x33 : Int, x33 = s1x96 + s0x96 → ∀ x34 : Int, x34 = v4x96 + 1 → B58 st x33 x34
def f9_share_l58   (Q : UInt64 → St → Prop) (a0 : Int) (a1 : Int) : Nat → St → Int → Int → Prop
  | 0, _, _, _ => False
  | n + 1, st, v3x58, v4x58 =>
  inI v4x58 ∧ inI (st 30 0 0 5) ∧ ((st 30 0 0 5 ≤ v4x58 → inI v3x58 ∧ ((v3x58 = 0 → Q (FP.dconst0) st) ∧ (¬ v3x58 = 0 → f9_all (fun z21 st22 => inI v3x58 ∧ ∀ x24 : Int, x24 = (st22 9 18 0 0) * v3x58 → inL x24 ∧ ¬ x24 = 0 ∧ Q ((FP.ddiv (dL z21) (dL x24))) st22) st 0 a0 a1))) ∧ (¬ st 30 0 0 5 ≤ v4x58 → f9_isOn (fun z27 st28 => inI z27 ∧ ((z27 = 0 → f9_share_j96 (fun st v3x58 v4x58 => f9_share_l58 Q a0 a1 n st v3x58 v4x58) Q a0 a1 st28 v4x58 0 v3x58) ∧ (¬ z27 = 0 → (0 : Int) ≤ 35 + (2 * v4x58) ∧ 35 + (2 * v4x58) < mlen 0 ∧ f9_share_j96 (fun st v3x58 v4x58 => f9_share_l58 Q a0 a1 n st v3x58 v4x58) Q a0 a1 st28 v4x58 (st28 30 0 0 (35 + (2 * v4x58))) v3x58))) st v4x58 a1))
def f9_share_j26   (Q : UInt64 → St → Prop) (a0 : Int) (a1 : Int) (st : St) (s0x26 : Int) : Prop :=
  ∀ st9 : St, st9 = up st 9 6 0 0 s0x26 → inI (st9 9 6 0 0) ∧ ((st9 9 6 0 0 ≤ 0 → f9_lays (fun st13 => f9_weights (fun z14 st15 => ∃ k, f9_share_l58 Q a0 a1 k st15 z14 0) st13 19 (st13 30 0 0 4)) st9) ∧ (¬ st9 9 6 0 0 ≤ 0 → Q (FP.dconst0) st9))
def f9_share  (Q : UInt64 → St → Prop) (st : St) (a0 : Int) (a1 : Int) : Prop :=
  f9_isSupport (fun z1 st2 => inI z1 ∧ ((z1 = 0 → f9_share_j26 Q a0 a1 st2 1) ∧ (¬ z1 = 0 → f9_isHead (fun z5 st6 => inI z5 ∧ ((z5 = 0 → f9_share_j26 Q a0 a1 st6 2) ∧ (¬ z5 = 0 → f9_share_j26 Q a0 a1 st6 0))) st2 a1))) st a0
def f9_used  (Q : UInt32 → St → Prop) (st : St)  : Prop :=
  ∀ st1 : St, st1 = up st 9 6 0 0 0 → f9_lays (fun st3 => f9_worstPlace (fun z4 st5 => f9_greatestAt (fun z6 st7 => inI (st7 30 0 0 1) ∧ ∀ x9 : Int, x9 = (st7 30 0 0 1) * (st7 9 18 0 0) → inL x9 ∧ ¬ x9 = 0 ∧ Q ((FP.fdiv (fL z6) (fL x9))) st7) st5 z4) st3) st1
theorem hd8_share : yX8_share.cls = RX8 ∧ yX8_share.cls ≠ "java/lang/invoke/MethodHandle" ∧ yX8_share.cls ≠ "java/lang/invoke/VarHandle" ∧ (parseMethodDescriptor yX8_share.desc).map (fun d => d.parameters.length) = some 2 := by decide +kernel
set_option maxHeartbeats 4000000 in
set_option maxRecDepth 100000 in
theorem m8_share (l : Launch) (G : WG) (hfl : l.stackTraces = false)  (hv_this : vC 8 0) (Q : UInt64 → St → Prop) (X : String → St → Prop) (st : St) (a0 : Int) (a1 : Int) (h : f8_share Q X st a0 a1) : vx_Met l yX8_share wsX8_share ({ frames := 8, cells := 2, slots := 12, locals := 133 }) (PcM vC G st [.ref (G.2.2.1 8 0), .int (iI a0), .int (iI a1)]) (QdM vC G Q) (XM vC G X) 2 12 G.2.2.2.1 := by
  refine vx_ofW (cc := cX8_share) (maxL := 5) (ret := (some .double)) (by decide) rfl ?_
  intro p e s m args below meth c s₁ B hml hE hvv
  obtain ⟨rfl, hA, hI, hK, hX⟩ := hvv
  have hx := B.exec
  have hb := B.bytes
  have hr := B.returns
  have hts := atoms_spec (ws := wsX8_share) B.pre
  have hown : s.vm.findClass RX8 = some m.cls := findClass_of_methodNamed B.named
  have hlocks := B.notSynchronized
  have hS : va_S G.2.2.2.1 s.heap s.heap [] := va_S.rf
  have in0 : ∀ w ∈ wsX00, w ∈ wsX8_share := by decide +kernel
  have in1 : ∀ w ∈ wsX10, w ∈ wsX8_share := by decide +kernel
  have in3 : ∀ w ∈ wsX30, w ∈ wsX8_share := by decide +kernel
  have in8 : ∀ w ∈ wsX80, w ∈ wsX8_share := by decide +kernel
  have lk_23 := hts (.fieldLink RX8 23 "BeamLines" "present" "LBeamLines$Beam;") (by decide +kernel)
  have lk_30 := hts (.fieldLink RX8 30 "BeamLines" "lines" "LBeamLines$Lines;") (by decide +kernel)
  have lk_43 := hts (.fieldLink RX8 43 "BeamLines" "forces" "LBeamLines$Forces;") (by decide +kernel)
  have lk_85 := hts (.fieldLink RX8 85 "BeamLines$Beam" "supports" "LBeamLines$Row;") (by decide +kernel)
  have lk_157 := hts (.fieldLink RX8 157 "BeamLines$Lines" "common" "J") (by decide +kernel)
  have lk_225 := hts (.fieldLink RX8 225 "BeamLines$Forces" "total" "I") (by decide +kernel)
  have hl := lv_entry ([.ref (G.2.2.1 8 0), .int (iI a0), .int (iI a1)]) (n := 5) (Nat.le_of_ble_eq_true rfl)
  rw [lg_entry_eq]
  generalize (lg_sl ([.ref (G.2.2.1 8 0), .int (iI a0), .int (iI a1)]) ++ List.replicate (5 - (lg_sl ([.ref (G.2.2.1 8 0), .int (iI a0), .int (iI a1)])).length) Slot.unset).toArray = ls at hl ⊢
  have hl : lv_has ls 5 [(0, .ref (G.2.2.1 8 0)), (1, .int (iI a0)), (2, .int (iI a1))] := hl
  unfold f8_share at h
  refine lv_aload_n hx hb dX8_share_0 rfl (lv_at hl 0 rfl) ?_
  refine lv_aload_n hx hb dX8_share_1 rfl (lv_at hl 0 rfl) ?_
  refine gg_8_2 hx hb hts in8 hown hK hI hv_this lk_23 dX8_share_2 ?_
  refine gg_0_2 hx hb hts in0 hown hK hI (vrC_8_2 hv_this) lk_85 dX8_share_5 ?_
  refine lv_iload_n hx hb dX8_share_8 rfl (lv_at hl 1 rfl) ?_
  refine r_xcallv (vx_runV (As := [.ref (G.2.2.1 6 (4 * 0)), .int (iI a0)]) (rest := []) ⟨hx, hb, hml, hown, hts⟩ (m8_needNumber l G hfl (4 * 0) hv_this (vrC_0_2 (vrC_8_2 hv_this)) _ _ st a0 h) (cwV 2 hts gX8_share_X8_needNumber rfl rfl rfl hd8_needNumber ⟨Nat.le_of_ble_eq_true rfl, Nat.le_of_ble_eq_true rfl⟩) (pre_V hK hX hI hA hS hv_this rfl rfl [.ref (G.2.2.1 6 (4 * 0)), .int (iI a0)]) rfl rfl hl.1 rfl (lv_room (Nat.le_of_ble_eq_true rfl)) dX8_share_9 ⟨Nat.le_of_ble_eq_true rfl, Nat.le_of_ble_eq_true rfl⟩) hS hE hlocks hK (by decide) (by decide) (fun st2 h H locs hI hS => ?_)
  refine lv_aload_n hx hb dX8_share_12 rfl (lv_at hl 0 rfl) ?_
  refine lv_iload_n hx hb dX8_share_13 rfl (lv_at hl 2 rfl) ?_
  refine r_xcallv (vx_runV (As := [.int (iI a1)]) (rest := []) ⟨hx, hb, hml, hown, hts⟩ (m8_needHead l G hfl hv_this _ _ st2 a1 h) (cwV 1 hts gX8_share_X8_needHead rfl rfl rfl hd8_needHead ⟨Nat.le_of_ble_eq_true rfl, Nat.le_of_ble_eq_true rfl⟩) (pre_V hK hX hI hA hS hv_this rfl rfl [.int (iI a1)]) rfl rfl hl.1 rfl (lv_room (Nat.le_of_ble_eq_true rfl)) dX8_share_14 ⟨Nat.le_of_ble_eq_true rfl, Nat.le_of_ble_eq_true rfl⟩) hS hE hlocks hK (by decide) (by decide) (fun st4 h H locs hI hS => ?_)
  refine lv_aload_n hx hb dX8_share_17 rfl (lv_at hl 0 rfl) ?_
  refine gg_8_6 hx hb hts in8 hown hK hI hv_this lk_43 dX8_share_18 ?_
  refine lv_aload_n hx hb dX8_share_21 rfl (lv_at hl 0 rfl) ?_
  refine gg_8_2 hx hb hts in8 hown hK hI hv_this lk_23 dX8_share_22 ?_
  refine lv_aload_n hx hb dX8_share_25 rfl (lv_at hl 0 rfl) ?_
  refine gg_8_3 hx hb hts in8 hown hK hI hv_this lk_30 dX8_share_26 ?_
  refine lv_iload_n hx hb dX8_share_29 rfl (lv_at hl 2 rfl) ?_
  refine r_callv (va_runV (As := [.ref (G.2.2.1 0 0), .ref (G.2.2.1 3 0), .int (iI a1)]) (rest := []) ⟨hx, hb, hml, hown, hts⟩ (m1_underAll l G 0 0 0 (vrC_8_6 hv_this) (vrC_8_2 hv_this) (vrC_8_3 hv_this) _ st4 a1 h) (cwV 3 hts gX8_share_X1_underAll rfl rfl rfl hd1_underAll ⟨Nat.le_of_ble_eq_true rfl, Nat.le_of_ble_eq_true rfl⟩) (pre_V hK hX hI hA hS (vrC_8_6 hv_this) rfl rfl [.ref (G.2.2.1 0 0), .ref (G.2.2.1 3 0), .int (iI a1)]) rfl rfl hl.1 rfl (lv_room (Nat.le_of_ble_eq_true rfl)) dX8_share_30 ⟨Nat.le_of_ble_eq_true rfl, Nat.le_of_ble_eq_true rfl⟩) hS (fun st6 h H locs hI hS => ?_)
  refine lv_aload_n hx hb dX8_share_33 rfl (lv_at hl 0 rfl) ?_
  refine gg_8_3 hx hb hts in8 hown hK hI hv_this lk_30 dX8_share_34 ?_
  refine gg_3_4 hx hb hts in3 hown hK hI (vrC_8_3 hv_this) lk_157 dX8_share_37 ?_
  refine lv_aload_n hx hb dX8_share_40 rfl (lv_at hl 0 rfl) ?_
  refine gg_8_6 hx hb hts in8 hown hK hI hv_this lk_43 dX8_share_41 ?_
  refine gg_1_4 hx hb hts in1 hown hK hI (vrC_8_6 hv_this) lk_225 dX8_share_44 ?_
  obtain ⟨g7, h⟩ := h
  refine r_i2l hx hb dX8_share_47 g7 ?_
  refine r_lmul hx hb dX8_share_48 ?_
  refine r_topl (fun x8 hx8 => ?_)
  replace h := h x8 hx8
  refine lv_l2d hx hb dX8_share_49 ?_
  refine lv_dstore_n (lv' := [(3, .double (dL x8)), (0, .ref (G.2.2.1 8 0)), (1, .int (iI a0)), (2, .int (iI a1))]) hx hb dX8_share_50 rfl hl (by decide) rfl (fun ls hl => ?_)
  refine lv_dload_n hx hb dX8_share_51 rfl (lv_at hl 0 rfl) ?_
  refine lv_dconst0 hx hb dX8_share_52 ?_
  obtain ⟨g9, h⟩ := h
  refine r_dcmp_ne (tgt := 59) hx hb dX8_share_53 dX8_share_54 (by decide) g9 (fun c10 => ?_) (fun c10 => ?_)
  · replace h := h.2 c10
    refine lv_aload_n hx hb dX8_share_59 rfl (lv_at hl 1 rfl) ?_
    refine gg_8_6 hx hb hts in8 hown hK hI hv_this lk_43 dX8_share_60 ?_
    refine lv_iload_n hx hb dX8_share_63 rfl (lv_at hl 2 rfl) ?_
    refine r_calll (va_runV (As := [.int (iI a0)]) (rest := []) ⟨hx, hb, hml, hown, hts⟩ (m1_reactionOf l G 0 (vrC_8_6 hv_this) _ st6 a0 h) (cwV 1 hts gX8_share_X1_reactionOf rfl rfl rfl hd1_reactionOf ⟨Nat.le_of_ble_eq_true rfl, Nat.le_of_ble_eq_true rfl⟩) (pre_V hK hX hI hA hS (vrC_8_6 hv_this) rfl rfl [.int (iI a0)]) rfl rfl hl.1 rfl (lv_room (Nat.le_of_ble_eq_true rfl)) dX8_share_64 ⟨Nat.le_of_ble_eq_true rfl, Nat.le_of_ble_eq_true rfl⟩) hS (fun z11 st12 h H locs hI hS => ?_)
    refine lv_l2d hx hb dX8_share_67 ?_
    refine lv_dload_n hx hb dX8_share_68 rfl (lv_at hl 0 rfl) ?_
    obtain ⟨g13, h⟩ := h
    obtain ⟨g14, h⟩ := h
    refine lv_ddiv hx hb dX8_share_69 (dq_ok g13 g14) ?_
    refine W.widen (k := 2) (n := 12) (by decide) (by decide) ?_
    exact vx_ret (r_dret hx hb hr hlocks hK hI hS (Qp := Q) h dX8_share_70)
  · replace h := h.1 c10
    refine lv_dconst0 hx hb dX8_share_57 ?_
    refine W.widen (k := 2) (n := 12) (by decide) (by decide) ?_
    exact vx_ret (r_dret hx hb hr hlocks hK hI hS (Qp := Q) h dX8_share_58)
theorem hd8_used : yX8_used.cls = RX8 ∧ yX8_used.cls ≠ "java/lang/invoke/MethodHandle" ∧ yX8_used.cls ≠ "java/lang/invoke/VarHandle" ∧ (parseMethodDescriptor yX8_used.desc).map (fun d => d.parameters.length) = some 0 := by decide +kernel
set_option maxHeartbeats 4000000 in
set_option maxRecDepth 100000 in
theorem m8_used (l : Launch) (G : WG)   (hv_this : vC 8 0) (Q : UInt32 → St → Prop) (st : St)  (h : f8_used Q st) : Met l yX8_used wsX8_used ({ frames := 6, cells := 0, slots := 0, locals := 144 }) (PcM vC G st [.ref (G.2.2.1 8 0)]) (QfM vC G Q) 0 0 G.2.2.2.1 := by
  refine Met.ofW (cc := cX8_used) (maxL := 2) (ret := (some .float)) (by decide) rfl ?_
  intro p e s m args below meth c s₁ B hml hvv
  obtain ⟨rfl, hA, hI, hK, hX⟩ := hvv
  have hx := B.exec
  have hb := B.bytes
  have hr := B.returns
  have hts := atoms_spec (ws := wsX8_used) B.pre
  have hown : s.vm.findClass RX8 = some m.cls := findClass_of_methodNamed B.named
  have hlocks := B.notSynchronized
  have hS : va_S G.2.2.2.1 s.heap s.heap [] := va_S.rf
  have in0 : ∀ w ∈ wsX00, w ∈ wsX8_used := by decide +kernel
  have in3 : ∀ w ∈ wsX30, w ∈ wsX8_used := by decide +kernel
  have in4 : ∀ w ∈ wsX40, w ∈ wsX8_used := by decide +kernel
  have in8 : ∀ w ∈ wsX80, w ∈ wsX8_used := by decide +kernel
  have lk_23 := hts (.fieldLink RX8 23 "BeamLines" "present" "LBeamLines$Beam;") (by decide +kernel)
  have lk_30 := hts (.fieldLink RX8 30 "BeamLines" "lines" "LBeamLines$Lines;") (by decide +kernel)
  have lk_43 := hts (.fieldLink RX8 43 "BeamLines" "forces" "LBeamLines$Forces;") (by decide +kernel)
  have lk_53 := hts (.fieldLink RX8 53 "BeamLines" "peak" "LBeamLines$Peak;") (by decide +kernel)
  have lk_82 := hts (.fieldLink RX8 82 "BeamLines$Beam" "most" "I") (by decide +kernel)
  have lk_157 := hts (.fieldLink RX8 157 "BeamLines$Lines" "common" "J") (by decide +kernel)
  have lk_228 := hts (.fieldLink RX8 228 "BeamLines$Peak" "size" "J") (by decide +kernel)
  have hl := lv_entry ([.ref (G.2.2.1 8 0)]) (n := 2) (Nat.le_of_ble_eq_true rfl)
  rw [lg_entry_eq]
  generalize (lg_sl ([.ref (G.2.2.1 8 0)]) ++ List.replicate (2 - (lg_sl ([.ref (G.2.2.1 8 0)])).length) Slot.unset).toArray = ls at hl ⊢
  have hl : lv_has ls 2 [(0, .ref (G.2.2.1 8 0))] := hl
  unfold f8_used at h
  refine lv_aload_n hx hb dX8_used_0 rfl (lv_at hl 0 rfl) ?_
  refine gg_8_8 hx hb hts in8 hown hK hI hv_this lk_53 dX8_used_1 ?_
  refine lv_aload_n hx hb dX8_used_4 rfl (lv_at hl 0 rfl) ?_
  refine gg_8_2 hx hb hts in8 hown hK hI hv_this lk_23 dX8_used_5 ?_
  refine lv_aload_n hx hb dX8_used_8 rfl (lv_at hl 0 rfl) ?_
  refine gg_8_3 hx hb hts in8 hown hK hI hv_this lk_30 dX8_used_9 ?_
  refine lv_aload_n hx hb dX8_used_12 rfl (lv_at hl 0 rfl) ?_
  refine gg_8_6 hx hb hts in8 hown hK hI hv_this lk_43 dX8_used_13 ?_
  refine r_callv (va_runV (As := [.ref (G.2.2.1 0 0), .ref (G.2.2.1 3 0), .ref (G.2.2.1 1 0)]) (rest := []) ⟨hx, hb, hml, hown, hts⟩ (m4_find l G 0 0 0 (vrC_8_8 hv_this) (vrC_8_2 hv_this) (vrC_8_3 hv_this) (vrC_8_6 hv_this) _ st h) (cwV 3 hts gX8_used_X4_find rfl rfl rfl hd4_find ⟨Nat.le_of_ble_eq_true rfl, Nat.le_of_ble_eq_true rfl⟩) (pre_V hK hX hI hA hS (vrC_8_8 hv_this) rfl rfl [.ref (G.2.2.1 0 0), .ref (G.2.2.1 3 0), .ref (G.2.2.1 1 0)]) rfl rfl hl.1 rfl (lv_room (Nat.le_of_ble_eq_true rfl)) dX8_used_16 ⟨Nat.le_of_ble_eq_true rfl, Nat.le_of_ble_eq_true rfl⟩) hS (fun st2 h H locs hI hS => ?_)
  refine lv_aload_n hx hb dX8_used_19 rfl (lv_at hl 0 rfl) ?_
  refine gg_8_3 hx hb hts in8 hown hK hI hv_this lk_30 dX8_used_20 ?_
  refine gg_3_4 hx hb hts in3 hown hK hI (vrC_8_3 hv_this) lk_157 dX8_used_23 ?_
  refine lv_aload_n hx hb dX8_used_26 rfl (lv_at hl 0 rfl) ?_
  refine gg_8_2 hx hb hts in8 hown hK hI hv_this lk_23 dX8_used_27 ?_
  refine gg_0_1 hx hb hts in0 hown hK hI (vrC_8_2 hv_this) lk_82 dX8_used_30 ?_
  obtain ⟨g3, h⟩ := h
  refine r_i2l hx hb dX8_used_33 g3 ?_
  refine r_lmul hx hb dX8_used_34 ?_
  refine r_topl (fun x4 hx4 => ?_)
  replace h := h x4 hx4
  refine lv_l2f hx hb dX8_used_35 ?_
  refine lv_fstore_n (lv' := [(1, .float (fL x4)), (0, .ref (G.2.2.1 8 0))]) hx hb dX8_used_36 rfl hl (by decide) rfl (fun ls hl => ?_)
  refine lv_fload_n hx hb dX8_used_37 rfl (lv_at hl 0 rfl) ?_
  refine lv_fconst0 hx hb dX8_used_38 ?_
  obtain ⟨g5, h⟩ := h
  refine r_fcmp_ne (tgt := 45) hx hb dX8_used_39 dX8_used_40 (by decide) g5 (fun c6 => ?_) (fun c6 => ?_)
  · replace h := h.2 c6
    refine lv_aload_n hx hb dX8_used_45 rfl (lv_at hl 1 rfl) ?_
    refine gg_8_8 hx hb hts in8 hown hK hI hv_this lk_53 dX8_used_46 ?_
    refine gg_4_0 hx hb hts in4 hown hK hI (vrC_8_8 hv_this) lk_228 dX8_used_49 ?_
    refine r_topl (fun x7 hx7 => ?_)
    replace h := h x7 hx7
    refine lv_l2f hx hb dX8_used_52 ?_
    refine lv_fload_n hx hb dX8_used_53 rfl (lv_at hl 0 rfl) ?_
    obtain ⟨g8, h⟩ := h
    obtain ⟨g9, h⟩ := h
    refine lv_fdiv hx hb dX8_used_54 (fq_ok g8 g9) ?_
    exact r_fret hx hb hr hlocks hK hI hS (Qp := Q) h dX8_used_55
  · replace h := h.1 c6
    refine lv_fconst0 hx hb dX8_used_43 ?_
    exact r_fret hx hb hr hlocks hK hI hS (Qp := Q) h dX8_used_44
theorem hd9_share : yX9_share.cls = RX9 ∧ yX9_share.cls ≠ "java/lang/invoke/MethodHandle" ∧ yX9_share.cls ≠ "java/lang/invoke/VarHandle" ∧ (parseMethodDescriptor yX9_share.desc).map (fun d => d.parameters.length) = some 2 := by decide +kernel
set_option maxHeartbeats 4000000 in
set_option maxRecDepth 100000 in
theorem m9_share (l : Launch) (G : WG)   (hv_this : vM 9 0) (Q : UInt64 → St → Prop) (st : St) (a0 : Int) (a1 : Int) (h : f9_share Q st a0 a1) : Met l yX9_share wsX9_share ({ frames := 4, cells := 0, slots := 0, locals := 108 }) (PcM vM G st [.ref (G.2.2.1 9 0), .int (iI a0), .int (iI a1)]) (QdM vM G Q) 0 0 G.2.2.2.1 := by
  refine Met.ofW (cc := cX9_share) (maxL := 5) (ret := (some .double)) (by decide) rfl ?_
  intro p e s m args below meth c s₁ B hml hvv
  obtain ⟨rfl, hA, hI, hK, hX⟩ := hvv
  have hx := B.exec
  have hb := B.bytes
  have hr := B.returns
  have hts := atoms_spec (ws := wsX9_share) B.pre
  have hown : s.vm.findClass RX9 = some m.cls := findClass_of_methodNamed B.named
  have hlocks := B.notSynchronized
  have hS : va_S G.2.2.2.1 s.heap s.heap [] := va_S.rf
  have in9 : ∀ w ∈ wsX90, w ∈ wsX9_share := by decide +kernel
  have lk_7 := hts (.fieldLink RX9 7 "BeamLinesModel" "a" "[I") (by decide +kernel)
  have lk_46 := hts (.fieldLink RX9 46 "BeamLinesModel" "thrown" "I") (by decide +kernel)
  have lk_227 := hts (.fieldLink RX9 227 "BeamLinesModel" "unit" "J") (by decide +kernel)
  have hl := lv_entry ([.ref (G.2.2.1 9 0), .int (iI a0), .int (iI a1)]) (n := 5) (Nat.le_of_ble_eq_true rfl)
  rw [lg_entry_eq]
  generalize (lg_sl ([.ref (G.2.2.1 9 0), .int (iI a0), .int (iI a1)]) ++ List.replicate (5 - (lg_sl ([.ref (G.2.2.1 9 0), .int (iI a0), .int (iI a1)])).length) Slot.unset).toArray = ls at hl ⊢
  have hl : lv_has ls 5 [(0, .ref (G.2.2.1 9 0)), (1, .int (iI a0)), (2, .int (iI a1))] := hl
  have L58 : ∀ (n58 : Nat), ∀ (st : St) (v3x58 : Int) (v4x58 : Int) (H : Heap) (locs : List Loc) (ls : Array Slot), Iv vM G st H → va_S G.2.2.2.1 s.heap H locs → lv_has ls 5 [(0, .ref (G.2.2.1 9 0)), (1, .int (iI a0)), (2, .int (iI a1)), (3, .int (iI v3x58)), (4, .int (iI v4x58))] → f9_share_l58 Q a0 a1 n58 st v3x58 v4x58 → W p l e (headSpec wsX9_share ({ frames := 4, cells := 0, slots := 0, locals := 108 })).room s m ([.ref (G.2.2.1 9 0), .int (iI a0), .int (iI a1)] : List Value).toArray below meth c H locs 0 0 (MQ below (QdM vM G Q) ([.ref (G.2.2.1 9 0), .int (iI a0), .int (iI a1)] : List Value).toArray s 0 0 G.2.2.2.1) (F0 m 58 ls []) := by
    intro n58
    induction n58 with
    | zero =>
      intro st v3x58 v4x58 H locs ls hI hS hl h
      exact h.elim
    | succ n58 ih58 =>
      have J96 : ∀ (st : St) (v4x96 : Int) (s0x96 : Int) (s1x96 : Int) (H : Heap) (locs : List Loc) (ls : Array Slot), Iv vM G st H → va_S G.2.2.2.1 s.heap H locs → lv_has ls 5 [(0, .ref (G.2.2.1 9 0)), (1, .int (iI a0)), (2, .int (iI a1)), (4, .int (iI v4x96))] → f9_share_j96 (fun st v3x58 v4x58 => f9_share_l58 Q a0 a1 n58 st v3x58 v4x58) Q a0 a1 st v4x96 s0x96 s1x96 → W p l e (headSpec wsX9_share ({ frames := 4, cells := 0, slots := 0, locals := 108 })).room s m ([.ref (G.2.2.1 9 0), .int (iI a0), .int (iI a1)] : List Value).toArray below meth c H locs 0 0 (MQ below (QdM vM G Q) ([.ref (G.2.2.1 9 0), .int (iI a0), .int (iI a1)] : List Value).toArray s 0 0 G.2.2.2.1) (F0 m 96 ls [.int (iI s0x96), .int (iI s1x96)]) := by
        intro st v4x96 s0x96 s1x96 H locs ls hI hS hl h
        unfold f9_share_j96 at h
        refine r_iadd hx hb dX9_share_96 ?_
        refine r_topi (fun x33 hx33 => ?_)
        replace h := h x33 hx33
        refine lv_istore_n (lv' := [(3, .int (iI x33)), (0, .ref (G.2.2.1 9 0)), (1, .int (iI a0)), (2, .int (iI a1)), (4, .int (iI v4x96))]) hx hb dX9_share_97 rfl hl (by decide) rfl (fun ls hl => ?_)
        obtain ⟨x34, hx34⟩ : ∃ z : Int, z = v4x96 + 1 := ⟨_, rfl⟩
        replace h := h x34 hx34
        refine lv_iinc (v := iI x34) (lv' := [(4, .int (iI x34)), (3, .int (iI x33)), (0, .ref (G.2.2.1 9 0)), (1, .int (iI a0)), (2, .int (iI a1))]) hx hb dX9_share_98 hl (k := 4) rfl (by rw [hx34]; exact iI_add _ _) (by decide) rfl (fun ls hl => ?_)
        refine lv_goto (tgt := 58) hx hb dX9_share_101 (by decide) ?_
        exact ih58 st x33 x34 _ _ ls hI hS (lv_sub hl [2, 3, 4, 1, 0] rfl) h
      intro st v3x58 v4x58 H locs ls hI hS hl h
      unfold f9_share_l58 at h
      refine lv_iload hx hb dX9_share_58 (lv_at hl 4 rfl) ?_
      refine lv_aload_n hx hb dX9_share_60 rfl (lv_at hl 0 rfl) ?_
      refine gg_9_0 hx hb hts in9 hown hK hI hv_this lk_7 dX9_share_61 ?_
      refine r_iconst (n := 5) hx hb dX9_share_64 ?_
      refine r_iald hx hb hK hI (K := 30) (vrM_9_0 hv_this) rfl (mlen_le _) dX9_share_65 (by decide) (by decide) ?_
      obtain ⟨g16, h⟩ := h
      obtain ⟨g17, h⟩ := h
      refine r_icmp_ge (tgt := 104) hx hb dX9_share_66 (by decide) g16 g17 (fun c18 => ?_) (fun c18 => ?_)
      · replace h := h.1 c18
        refine lv_iload_n hx hb dX9_share_104 rfl (lv_at hl 3 rfl) ?_
        obtain ⟨g19, h⟩ := h
        refine r_if_ne (tgt := 112) hx hb dX9_share_105 (by decide) g19 (fun c20 => ?_) (fun c20 => ?_)
        · replace h := h.2 c20
          refine lv_aload_n hx hb dX9_share_112 rfl (lv_at hl 0 rfl) ?_
          refine r_iconst (n := 0) hx hb dX9_share_113 ?_
          refine lv_iload_n hx hb dX9_share_114 rfl (lv_at hl 1 rfl) ?_
          refine lv_iload_n hx hb dX9_share_115 rfl (lv_at hl 2 rfl) ?_
          refine r_calll (va_runV (As := [.int (iI 0), .int (iI a0), .int (iI a1)]) (rest := []) ⟨hx, hb, hml, hown, hts⟩ (m9_all l G hv_this _ st 0 a0 a1 h) (cwV 3 hts gX9_share_X9_all rfl rfl rfl hd9_all ⟨Nat.le_of_ble_eq_true rfl, Nat.le_of_ble_eq_true rfl⟩) (pre_V hK hX hI hA hS hv_this rfl rfl [.int (iI 0), .int (iI a0), .int (iI a1)]) rfl rfl hl.1 rfl (lv_room (Nat.le_of_ble_eq_true rfl)) dX9_share_116 ⟨Nat.le_of_ble_eq_true rfl, Nat.le_of_ble_eq_true rfl⟩) hS (fun z21 st22 h H locs hI hS => ?_)
          refine lv_l2d hx hb dX9_share_119 ?_
          refine lv_aload_n hx hb dX9_share_120 rfl (lv_at hl 0 rfl) ?_
          refine gg_9_18 hx hb hts in9 hown hK hI hv_this lk_227 dX9_share_121 ?_
          refine lv_iload_n hx hb dX9_share_124 rfl (lv_at hl 3 rfl) ?_
          obtain ⟨g23, h⟩ := h
          refine r_i2l hx hb dX9_share_125 g23 ?_
          refine r_lmul hx hb dX9_share_126 ?_
          refine r_topl (fun x24 hx24 => ?_)
          replace h := h x24 hx24
          refine lv_l2d hx hb dX9_share_127 ?_
          obtain ⟨g25, h⟩ := h
          obtain ⟨g26, h⟩ := h
          refine lv_ddiv hx hb dX9_share_128 (dq_ok g25 g26) ?_
          exact r_dret hx hb hr hlocks hK hI hS (Qp := Q) h dX9_share_129
        · replace h := h.1 c20
          refine lv_dconst0 hx hb dX9_share_108 ?_
          refine lv_goto (tgt := 129) hx hb dX9_share_109 (by decide) ?_
          exact r_dret hx hb hr hlocks hK hI hS (Qp := Q) h dX9_share_129
      · replace h := h.2 c18
        refine lv_iload_n hx hb dX9_share_69 rfl (lv_at hl 3 rfl) ?_
        refine lv_aload_n hx hb dX9_share_70 rfl (lv_at hl 0 rfl) ?_
        refine lv_iload hx hb dX9_share_71 (lv_at hl 4 rfl) ?_
        refine lv_iload_n hx hb dX9_share_73 rfl (lv_at hl 2 rfl) ?_
        refine r_calli (va_runV (As := [.int (iI v4x58), .int (iI a1)]) (rest := [.int (iI v3x58)]) ⟨hx, hb, hml, hown, hts⟩ (m9_isOn l G hv_this _ st v4x58 a1 h) (cwV 2 hts gX9_share_X9_isOn rfl rfl rfl hd9_isOn ⟨Nat.le_of_ble_eq_true rfl, Nat.le_of_ble_eq_true rfl⟩) (pre_V hK hX hI hA hS hv_this rfl rfl [.int (iI v4x58), .int (iI a1)]) rfl rfl hl.1 rfl (lv_room (Nat.le_of_ble_eq_true rfl)) dX9_share_74 ⟨Nat.le_of_ble_eq_true rfl, Nat.le_of_ble_eq_true rfl⟩) hS (fun z27 st28 h H locs hI hS => ?_)
        obtain ⟨g29, h⟩ := h
        refine r_if_eq (tgt := 95) hx hb dX9_share_77 (by decide) g29 (fun c30 => ?_) (fun c30 => ?_)
        · replace h := h.1 c30
          refine r_iconst (n := 0) hx hb dX9_share_95 ?_
          exact J96 st28 v4x58 0 v3x58 _ _ ls hI hS (lv_sub hl [0, 1, 2, 4] rfl) h
        · replace h := h.2 c30
          refine lv_aload_n hx hb dX9_share_80 rfl (lv_at hl 0 rfl) ?_
          refine gg_9_0 hx hb hts in9 hown hK hI hv_this lk_7 dX9_share_81 ?_
          refine r_bipush (n := 35) hx hb dX9_share_84 rfl ?_
          refine r_iconst (n := 2) hx hb dX9_share_86 ?_
          refine lv_iload hx hb dX9_share_87 (lv_at hl 4 rfl) ?_
          refine r_imul hx hb dX9_share_89 ?_
          refine r_iadd hx hb dX9_share_90 ?_
          obtain ⟨g31, g32, h⟩ := h
          refine r_iald hx hb hK hI (K := 30) (vrM_9_0 hv_this) rfl (mlen_le _) dX9_share_91 g31 g32 ?_
          refine lv_goto (tgt := 96) hx hb dX9_share_92 (by decide) ?_
          exact J96 st28 v4x58 (st28 30 0 0 (35 + (2 * v4x58))) v3x58 _ _ ls hI hS (lv_sub hl [0, 1, 2, 4] rfl) h
  have J26 : ∀ (st : St) (s0x26 : Int) (H : Heap) (locs : List Loc) (ls : Array Slot), Iv vM G st H → va_S G.2.2.2.1 s.heap H locs → lv_has ls 5 [(0, .ref (G.2.2.1 9 0)), (1, .int (iI a0)), (2, .int (iI a1))] → f9_share_j26 Q a0 a1 st s0x26 → W p l e (headSpec wsX9_share ({ frames := 4, cells := 0, slots := 0, locals := 108 })).room s m ([.ref (G.2.2.1 9 0), .int (iI a0), .int (iI a1)] : List Value).toArray below meth c H locs 0 0 (MQ below (QdM vM G Q) ([.ref (G.2.2.1 9 0), .int (iI a0), .int (iI a1)] : List Value).toArray s 0 0 G.2.2.2.1) (F0 m 26 ls [.int (iI s0x26), .ref (G.2.2.1 9 0)]) := by
    intro st s0x26 H locs ls hI hS hl h
    unfold f9_share_j26 at h
    refine pp_9_6 hx hb hts in9 hown hK hI hS hv_this lk_46 dX9_share_26 (fun st9 hst9 H locs hI hS => ?_)
    replace h := h st9 hst9
    refine lv_aload_n hx hb dX9_share_29 rfl (lv_at hl 0 rfl) ?_
    refine gg_9_6 hx hb hts in9 hown hK hI hv_this lk_46 dX9_share_30 ?_
    obtain ⟨g10, h⟩ := h
    refine r_if_le (tgt := 38) hx hb dX9_share_33 (by decide) g10 (fun c11 => ?_) (fun c11 => ?_)
    · replace h := h.1 c11
      refine lv_aload_n hx hb dX9_share_38 rfl (lv_at hl 0 rfl) ?_
      refine r_callv (va_runV (As := []) (rest := []) ⟨hx, hb, hml, hown, hts⟩ (m9_lays l G hv_this _ st9 h) (cwV 0 hts gX9_share_X9_lays rfl rfl rfl hd9_lays ⟨Nat.le_of_ble_eq_true rfl, Nat.le_of_ble_eq_true rfl⟩) (pre_V hK hX hI hA hS hv_this rfl rfl []) rfl rfl hl.1 rfl (lv_room (Nat.le_of_ble_eq_true rfl)) dX9_share_39 ⟨Nat.le_of_ble_eq_true rfl, Nat.le_of_ble_eq_true rfl⟩) hS (fun st13 h H locs hI hS => ?_)
      refine lv_aload_n hx hb dX9_share_42 rfl (lv_at hl 0 rfl) ?_
      refine r_bipush (n := 19) hx hb dX9_share_43 rfl ?_
      refine lv_aload_n hx hb dX9_share_45 rfl (lv_at hl 0 rfl) ?_
      refine gg_9_0 hx hb hts in9 hown hK hI hv_this lk_7 dX9_share_46 ?_
      refine r_iconst (n := 4) hx hb dX9_share_49 ?_
      refine r_iald hx hb hK hI (K := 30) (vrM_9_0 hv_this) rfl (mlen_le _) dX9_share_50 (by decide) (by decide) ?_
      refine r_calli (va_runV (As := [.int (iI 19), .int (iI (st13 30 0 0 4))]) (rest := []) ⟨hx, hb, hml, hown, hts⟩ (m9_weights l G hv_this _ st13 19 (st13 30 0 0 4) h) (cwV 2 hts gX9_share_X9_weights rfl rfl rfl hd9_weights ⟨Nat.le_of_ble_eq_true rfl, Nat.le_of_ble_eq_true rfl⟩) (pre_V hK hX hI hA hS hv_this rfl rfl [.int (iI 19), .int (iI (st13 30 0 0 4))]) rfl rfl hl.1 rfl (lv_room (Nat.le_of_ble_eq_true rfl)) dX9_share_51 ⟨Nat.le_of_ble_eq_true rfl, Nat.le_of_ble_eq_true rfl⟩) hS (fun z14 st15 h H locs hI hS => ?_)
      refine lv_istore_n (lv' := [(3, .int (iI z14)), (0, .ref (G.2.2.1 9 0)), (1, .int (iI a0)), (2, .int (iI a1))]) hx hb dX9_share_54 rfl hl (by decide) rfl (fun ls hl => ?_)
      refine r_iconst (n := 0) hx hb dX9_share_55 ?_
      refine lv_istore (lv' := [(4, .int (iI 0)), (3, .int (iI z14)), (0, .ref (G.2.2.1 9 0)), (1, .int (iI a0)), (2, .int (iI a1))]) hx hb dX9_share_56 hl (by decide) rfl (fun ls hl => ?_)
      obtain ⟨kk, h⟩ := h
      exact L58 kk st15 z14 0 _ _ ls hI hS (lv_sub hl [2, 3, 4, 1, 0] rfl) h
    · replace h := h.2 c11
      refine lv_dconst0 hx hb dX9_share_36 ?_
      exact r_dret hx hb hr hlocks hK hI hS (Qp := Q) h dX9_share_37
  unfold f9_share at h
  refine lv_aload_n hx hb dX9_share_0 rfl (lv_at hl 0 rfl) ?_
  refine lv_aload_n hx hb dX9_share_1 rfl (lv_at hl 0 rfl) ?_
  refine lv_iload_n hx hb dX9_share_2 rfl (lv_at hl 1 rfl) ?_
  refine r_calli (va_runV (As := [.int (iI a0)]) (rest := [.ref (G.2.2.1 9 0)]) ⟨hx, hb, hml, hown, hts⟩ (m9_isSupport l G hv_this _ st a0 h) (cwV 1 hts gX9_share_X9_isSupport rfl rfl rfl hd9_isSupport ⟨Nat.le_of_ble_eq_true rfl, Nat.le_of_ble_eq_true rfl⟩) (pre_V hK hX hI hA hS hv_this rfl rfl [.int (iI a0)]) rfl rfl hl.1 rfl (lv_room (Nat.le_of_ble_eq_true rfl)) dX9_share_3 ⟨Nat.le_of_ble_eq_true rfl, Nat.le_of_ble_eq_true rfl⟩) hS (fun z1 st2 h H locs hI hS => ?_)
  obtain ⟨g3, h⟩ := h
  refine r_if_ne (tgt := 13) hx hb dX9_share_6 (by decide) g3 (fun c4 => ?_) (fun c4 => ?_)
  · replace h := h.2 c4
    refine lv_aload_n hx hb dX9_share_13 rfl (lv_at hl 0 rfl) ?_
    refine lv_iload_n hx hb dX9_share_14 rfl (lv_at hl 2 rfl) ?_
    refine r_calli (va_runV (As := [.int (iI a1)]) (rest := [.ref (G.2.2.1 9 0)]) ⟨hx, hb, hml, hown, hts⟩ (m9_isHead l G hv_this _ st2 a1 h) (cwV 1 hts gX9_share_X9_isHead rfl rfl rfl hd9_isHead ⟨Nat.le_of_ble_eq_true rfl, Nat.le_of_ble_eq_true rfl⟩) (pre_V hK hX hI hA hS hv_this rfl rfl [.int (iI a1)]) rfl rfl hl.1 rfl (lv_room (Nat.le_of_ble_eq_true rfl)) dX9_share_15 ⟨Nat.le_of_ble_eq_true rfl, Nat.le_of_ble_eq_true rfl⟩) hS (fun z5 st6 h H locs hI hS => ?_)
    obtain ⟨g7, h⟩ := h
    refine r_if_eq (tgt := 25) hx hb dX9_share_18 (by decide) g7 (fun c8 => ?_) (fun c8 => ?_)
    · replace h := h.1 c8
      refine r_iconst (n := 2) hx hb dX9_share_25 ?_
      exact J26 st6 2 _ _ ls hI hS (lv_sub hl [0, 1, 2] rfl) h
    · replace h := h.2 c8
      refine r_iconst (n := 0) hx hb dX9_share_21 ?_
      refine lv_goto (tgt := 26) hx hb dX9_share_22 (by decide) ?_
      exact J26 st6 0 _ _ ls hI hS (lv_sub hl [0, 1, 2] rfl) h
  · replace h := h.1 c4
    refine r_iconst (n := 1) hx hb dX9_share_9 ?_
    refine lv_goto (tgt := 26) hx hb dX9_share_10 (by decide) ?_
    exact J26 st2 1 _ _ ls hI hS (lv_sub hl [0, 1, 2] rfl) h
theorem hd9_used : yX9_used.cls = RX9 ∧ yX9_used.cls ≠ "java/lang/invoke/MethodHandle" ∧ yX9_used.cls ≠ "java/lang/invoke/VarHandle" ∧ (parseMethodDescriptor yX9_used.desc).map (fun d => d.parameters.length) = some 0 := by decide +kernel
set_option maxHeartbeats 4000000 in
set_option maxRecDepth 100000 in
theorem m9_used (l : Launch) (G : WG)   (hv_this : vM 9 0) (Q : UInt32 → St → Prop) (st : St)  (h : f9_used Q st) : Met l yX9_used wsX9_used ({ frames := 6, cells := 0, slots := 0, locals := 146 }) (PcM vM G st [.ref (G.2.2.1 9 0)]) (QfM vM G Q) 0 0 G.2.2.2.1 := by
  refine Met.ofW (cc := cX9_used) (maxL := 1) (ret := (some .float)) (by decide) rfl ?_
  intro p e s m args below meth c s₁ B hml hvv
  obtain ⟨rfl, hA, hI, hK, hX⟩ := hvv
  have hx := B.exec
  have hb := B.bytes
  have hr := B.returns
  have hts := atoms_spec (ws := wsX9_used) B.pre
  have hown : s.vm.findClass RX9 = some m.cls := findClass_of_methodNamed B.named
  have hlocks := B.notSynchronized
  have hS : va_S G.2.2.2.1 s.heap s.heap [] := va_S.rf
  have in9 : ∀ w ∈ wsX90, w ∈ wsX9_used := by decide +kernel
  have lk_7 := hts (.fieldLink RX9 7 "BeamLinesModel" "a" "[I") (by decide +kernel)
  have lk_46 := hts (.fieldLink RX9 46 "BeamLinesModel" "thrown" "I") (by decide +kernel)
  have lk_227 := hts (.fieldLink RX9 227 "BeamLinesModel" "unit" "J") (by decide +kernel)
  have hl := lv_entry ([.ref (G.2.2.1 9 0)]) (n := 1) (Nat.le_of_ble_eq_true rfl)
  rw [lg_entry_eq]
  generalize (lg_sl ([.ref (G.2.2.1 9 0)]) ++ List.replicate (1 - (lg_sl ([.ref (G.2.2.1 9 0)])).length) Slot.unset).toArray = ls at hl ⊢
  have hl : lv_has ls 1 [(0, .ref (G.2.2.1 9 0))] := hl
  unfold f9_used at h
  refine lv_aload_n hx hb dX9_used_0 rfl (lv_at hl 0 rfl) ?_
  refine r_iconst (n := 0) hx hb dX9_used_1 ?_
  refine pp_9_6 hx hb hts in9 hown hK hI hS hv_this lk_46 dX9_used_2 (fun st1 hst1 H locs hI hS => ?_)
  replace h := h st1 hst1
  refine lv_aload_n hx hb dX9_used_5 rfl (lv_at hl 0 rfl) ?_
  refine r_callv (va_runV (As := []) (rest := []) ⟨hx, hb, hml, hown, hts⟩ (m9_lays l G hv_this _ st1 h) (cwV 0 hts gX9_used_X9_lays rfl rfl rfl hd9_lays ⟨Nat.le_of_ble_eq_true rfl, Nat.le_of_ble_eq_true rfl⟩) (pre_V hK hX hI hA hS hv_this rfl rfl []) rfl rfl hl.1 rfl (lv_room (Nat.le_of_ble_eq_true rfl)) dX9_used_6 ⟨Nat.le_of_ble_eq_true rfl, Nat.le_of_ble_eq_true rfl⟩) hS (fun st3 h H locs hI hS => ?_)
  refine lv_aload_n hx hb dX9_used_9 rfl (lv_at hl 0 rfl) ?_
  refine lv_aload_n hx hb dX9_used_10 rfl (lv_at hl 0 rfl) ?_
  refine r_calli (va_runV (As := []) (rest := [.ref (G.2.2.1 9 0)]) ⟨hx, hb, hml, hown, hts⟩ (m9_worstPlace l G hv_this _ st3 h) (cwV 0 hts gX9_used_X9_worstPlace rfl rfl rfl hd9_worstPlace ⟨Nat.le_of_ble_eq_true rfl, Nat.le_of_ble_eq_true rfl⟩) (pre_V hK hX hI hA hS hv_this rfl rfl []) rfl rfl hl.1 rfl (lv_room (Nat.le_of_ble_eq_true rfl)) dX9_used_11 ⟨Nat.le_of_ble_eq_true rfl, Nat.le_of_ble_eq_true rfl⟩) hS (fun z4 st5 h H locs hI hS => ?_)
  refine r_calll (va_runV (As := [.int (iI z4)]) (rest := []) ⟨hx, hb, hml, hown, hts⟩ (m9_greatestAt l G hv_this _ st5 z4 h) (cwV 1 hts gX9_used_X9_greatestAt rfl rfl rfl hd9_greatestAt ⟨Nat.le_of_ble_eq_true rfl, Nat.le_of_ble_eq_true rfl⟩) (pre_V hK hX hI hA hS hv_this rfl rfl [.int (iI z4)]) rfl rfl hl.1 rfl (lv_room (Nat.le_of_ble_eq_true rfl)) dX9_used_14 ⟨Nat.le_of_ble_eq_true rfl, Nat.le_of_ble_eq_true rfl⟩) hS (fun z6 st7 h H locs hI hS => ?_)
  refine lv_l2f hx hb dX9_used_17 ?_
  refine lv_aload_n hx hb dX9_used_18 rfl (lv_at hl 0 rfl) ?_
  refine gg_9_0 hx hb hts in9 hown hK hI hv_this lk_7 dX9_used_19 ?_
  refine r_iconst (n := 1) hx hb dX9_used_22 ?_
  refine r_iald hx hb hK hI (K := 30) (vrM_9_0 hv_this) rfl (mlen_le _) dX9_used_23 (by decide) (by decide) ?_
  obtain ⟨g8, h⟩ := h
  refine r_i2l hx hb dX9_used_24 g8 ?_
  refine lv_aload_n hx hb dX9_used_25 rfl (lv_at hl 0 rfl) ?_
  refine gg_9_18 hx hb hts in9 hown hK hI hv_this lk_227 dX9_used_26 ?_
  refine r_lmul hx hb dX9_used_29 ?_
  refine r_topl (fun x9 hx9 => ?_)
  replace h := h x9 hx9
  refine lv_l2f hx hb dX9_used_30 ?_
  obtain ⟨g10, h⟩ := h
  obtain ⟨g11, h⟩ := h
  refine lv_fdiv hx hb dX9_used_31 (fq_ok g10 g11) ?_
  exact r_fret hx hb hr hlocks hK hI hS (Qp := Q) h dX9_used_32
