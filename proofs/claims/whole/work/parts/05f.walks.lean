theorem hd9_still : yX9_still.cls = RX9 ∧ yX9_still.cls ≠ "java/lang/invoke/MethodHandle" ∧ yX9_still.cls ≠ "java/lang/invoke/VarHandle" ∧ (parseMethodDescriptor yX9_still.desc).map (fun d => d.parameters.length) = some 1 := by decide +kernel
set_option maxHeartbeats 4000000 in
set_option maxRecDepth 100000 in
theorem m9_still (l : Launch) (G : WG)   (hv_this : vM 9 0) (Q : Int → St → Prop) (st : St) (a0 : Int) (h : f9_still Q st a0) : Met l yX9_still wsX9_still ({ frames := 4, cells := 0, slots := 0, locals := 108 }) (PcM vM G st [.ref (G.2.2.1 9 0), .int (iI a0)]) (QiM vM G Q) 0 0 G.2.2.2.1 := by
  refine Met.ofW (cc := cX9_still) (maxL := 4) (ret := (some .int)) (by decide) rfl ?_
  intro p e s m args below meth c s₁ B hml hvv
  obtain ⟨rfl, hA, hI, hK, hX⟩ := hvv
  have hx := B.exec
  have hb := B.bytes
  have hr := B.returns
  have hts := atoms_spec (ws := wsX9_still) B.pre
  have hown : s.vm.findClass RX9 = some m.cls := findClass_of_methodNamed B.named
  have hlocks := B.notSynchronized
  have hS : va_S G.2.2.2.1 s.heap s.heap [] := va_S.rf
  have in9 : ∀ w ∈ wsX90, w ∈ wsX9_still := by decide +kernel
  have lk_46 := hts (.fieldLink RX9 46 "BeamLinesModel" "thrown" "I") (by decide +kernel)
  have hl := lv_entry ([.ref (G.2.2.1 9 0), .int (iI a0)]) (n := 4) (Nat.le_of_ble_eq_true rfl)
  rw [lg_entry_eq]
  generalize (lg_sl ([.ref (G.2.2.1 9 0), .int (iI a0)]) ++ List.replicate (4 - (lg_sl ([.ref (G.2.2.1 9 0), .int (iI a0)])).length) Slot.unset).toArray = ls at hl ⊢
  have hl : lv_has ls 4 [(0, .ref (G.2.2.1 9 0)), (1, .int (iI a0))] := hl
  have L34 : ∀ (n34 : Nat), ∀ (st : St) (v2x34 : Int) (v3x34 : Int) (H : Heap) (locs : List Loc) (ls : Array Slot), Iv vM G st H → va_S G.2.2.2.1 s.heap H locs → lv_has ls 4 [(0, .ref (G.2.2.1 9 0)), (1, .int (iI a0)), (2, .int (iI v2x34)), (3, .int (iI v3x34))] → f9_still_l34 Q a0 n34 st v2x34 v3x34 → W p l e (headSpec wsX9_still ({ frames := 4, cells := 0, slots := 0, locals := 108 })).room s m ([.ref (G.2.2.1 9 0), .int (iI a0)] : List Value).toArray below meth c H locs 0 0 (MQ below (QiM vM G Q) ([.ref (G.2.2.1 9 0), .int (iI a0)] : List Value).toArray s 0 0 G.2.2.2.1) (F0 m 34 ls []) := by
    intro n34
    induction n34 with
    | zero =>
      intro st v2x34 v3x34 H locs ls hI hS hl h
      exact h.elim
    | succ n34 ih34 =>
      have J61 : ∀ (st : St) (v3x61 : Int) (s0x61 : Int) (s1x61 : Int) (H : Heap) (locs : List Loc) (ls : Array Slot), Iv vM G st H → va_S G.2.2.2.1 s.heap H locs → lv_has ls 4 [(0, .ref (G.2.2.1 9 0)), (1, .int (iI a0)), (3, .int (iI v3x61))] → f9_still_j61 (fun st v2x34 v3x34 => f9_still_l34 Q a0 n34 st v2x34 v3x34) Q a0 st v3x61 s0x61 s1x61 → W p l e (headSpec wsX9_still ({ frames := 4, cells := 0, slots := 0, locals := 108 })).room s m ([.ref (G.2.2.1 9 0), .int (iI a0)] : List Value).toArray below meth c H locs 0 0 (MQ below (QiM vM G Q) ([.ref (G.2.2.1 9 0), .int (iI a0)] : List Value).toArray s 0 0 G.2.2.2.1) (F0 m 61 ls [.int (iI s0x61), .int (iI s1x61)]) := by
        intro st v3x61 s0x61 s1x61 H locs ls hI hS hl h
        unfold f9_still_j61 at h
        refine r_ior hx hb dX9_still_61 ?_
        refine r_topi (fun x19 hx19 => ?_)
        replace h := h x19 hx19
        refine lv_istore_n (lv' := [(2, .int (iI x19)), (0, .ref (G.2.2.1 9 0)), (1, .int (iI a0)), (3, .int (iI v3x61))]) hx hb dX9_still_62 rfl hl (by decide) rfl (fun ls hl => ?_)
        obtain ⟨x20, hx20⟩ : ∃ z : Int, z = v3x61 + 1 := ⟨_, rfl⟩
        replace h := h x20 hx20
        refine lv_iinc (v := iI x20) (lv' := [(3, .int (iI x20)), (2, .int (iI x19)), (0, .ref (G.2.2.1 9 0)), (1, .int (iI a0))]) hx hb dX9_still_63 hl (k := 3) rfl (by rw [hx20]; exact iI_add _ _) (by decide) rfl (fun ls hl => ?_)
        refine lv_goto (tgt := 34) hx hb dX9_still_66 (by decide) ?_
        exact ih34 st x19 x20 _ _ ls hI hS (lv_sub hl [2, 3, 1, 0] rfl) h
      intro st v2x34 v3x34 H locs ls hI hS hl h
      unfold f9_still_l34 at h
      refine lv_iload_n hx hb dX9_still_34 rfl (lv_at hl 3 rfl) ?_
      refine lv_aload_n hx hb dX9_still_35 rfl (lv_at hl 0 rfl) ?_
      refine r_calli (va_runV (As := []) (rest := [.int (iI v3x34)]) ⟨hx, hb, hml, hown, hts⟩ (m9_places l G hv_this _ st h) (cwV 0 hts gX9_still_X9_places rfl rfl rfl hd9_places ⟨Nat.le_of_ble_eq_true rfl, Nat.le_of_ble_eq_true rfl⟩) (pre_V hK hX hI hA hS hv_this rfl rfl []) rfl rfl hl.1 rfl (lv_room (Nat.le_of_ble_eq_true rfl)) dX9_still_36 ⟨Nat.le_of_ble_eq_true rfl, Nat.le_of_ble_eq_true rfl⟩) hS (fun z10 st11 h H locs hI hS => ?_)
      obtain ⟨g12, h⟩ := h
      obtain ⟨g13, h⟩ := h
      refine r_icmp_ge (tgt := 69) hx hb dX9_still_39 (by decide) g12 g13 (fun c14 => ?_) (fun c14 => ?_)
      · replace h := h.1 c14
        refine lv_iload_n hx hb dX9_still_69 rfl (lv_at hl 2 rfl) ?_
        exact r_iret hx hb hr hlocks hK hI hS (Qp := Q) h dX9_still_70
      · replace h := h.2 c14
        refine lv_iload_n hx hb dX9_still_42 rfl (lv_at hl 2 rfl) ?_
        refine lv_aload_n hx hb dX9_still_43 rfl (lv_at hl 0 rfl) ?_
        refine lv_iload_n hx hb dX9_still_44 rfl (lv_at hl 1 rfl) ?_
        refine lv_iload_n hx hb dX9_still_45 rfl (lv_at hl 3 rfl) ?_
        refine r_calll (va_runV (As := [.int (iI a0), .int (iI v3x34)]) (rest := [.int (iI v2x34)]) ⟨hx, hb, hml, hown, hts⟩ (m9_momentBy l G hv_this _ st11 a0 v3x34 h) (cwV 2 hts gX9_still_X9_momentBy rfl rfl rfl hd9_momentBy ⟨Nat.le_of_ble_eq_true rfl, Nat.le_of_ble_eq_true rfl⟩) (pre_V hK hX hI hA hS hv_this rfl rfl [.int (iI a0), .int (iI v3x34)]) rfl rfl hl.1 rfl (lv_room (Nat.le_of_ble_eq_true rfl)) dX9_still_46 ⟨Nat.le_of_ble_eq_true rfl, Nat.le_of_ble_eq_true rfl⟩) hS (fun z15 st16 h H locs hI hS => ?_)
        refine r_lconst (z := 0) hx hb dX9_still_49 rfl ?_
        obtain ⟨g17, h⟩ := h
        refine r_lcmp_ne (tgt := 60) hx hb dX9_still_50 dX9_still_51 (by decide) g17 (inL_mk rfl) (fun c18 => ?_) (fun c18 => ?_)
        · replace h := h.2 c18
          refine r_iconst (n := 0) hx hb dX9_still_60 ?_
          exact J61 st16 v3x34 0 v2x34 _ _ ls hI hS (lv_sub hl [0, 1, 3] rfl) h
        · replace h := h.1 c18
          refine r_iconst (n := 1) hx hb dX9_still_54 ?_
          refine lv_iload_n hx hb dX9_still_55 rfl (lv_at hl 3 rfl) ?_
          refine r_ishl hx hb dX9_still_56 ?_
          refine lv_goto (tgt := 61) hx hb dX9_still_57 (by decide) ?_
          exact J61 st16 v3x34 (ishl 1 v3x34) v2x34 _ _ ls hI hS (lv_sub hl [0, 1, 3] rfl) h
  have J14 : ∀ (st : St) (s0x14 : Int) (H : Heap) (locs : List Loc) (ls : Array Slot), Iv vM G st H → va_S G.2.2.2.1 s.heap H locs → lv_has ls 4 [(0, .ref (G.2.2.1 9 0)), (1, .int (iI a0))] → f9_still_j14 Q a0 st s0x14 → W p l e (headSpec wsX9_still ({ frames := 4, cells := 0, slots := 0, locals := 108 })).room s m ([.ref (G.2.2.1 9 0), .int (iI a0)] : List Value).toArray below meth c H locs 0 0 (MQ below (QiM vM G Q) ([.ref (G.2.2.1 9 0), .int (iI a0)] : List Value).toArray s 0 0 G.2.2.2.1) (F0 m 14 ls [.int (iI s0x14), .ref (G.2.2.1 9 0)]) := by
    intro st s0x14 H locs ls hI hS hl h
    unfold f9_still_j14 at h
    refine pp_9_6 hx hb hts in9 hown hK hI hS hv_this lk_46 dX9_still_14 (fun st5 hst5 H locs hI hS => ?_)
    replace h := h st5 hst5
    refine lv_aload_n hx hb dX9_still_17 rfl (lv_at hl 0 rfl) ?_
    refine gg_9_6 hx hb hts in9 hown hK hI hv_this lk_46 dX9_still_18 ?_
    obtain ⟨g6, h⟩ := h
    refine r_if_le (tgt := 26) hx hb dX9_still_21 (by decide) g6 (fun c7 => ?_) (fun c7 => ?_)
    · replace h := h.1 c7
      refine lv_aload_n hx hb dX9_still_26 rfl (lv_at hl 0 rfl) ?_
      refine r_callv (va_runV (As := []) (rest := []) ⟨hx, hb, hml, hown, hts⟩ (m9_lays l G hv_this _ st5 h) (cwV 0 hts gX9_still_X9_lays rfl rfl rfl hd9_lays ⟨Nat.le_of_ble_eq_true rfl, Nat.le_of_ble_eq_true rfl⟩) (pre_V hK hX hI hA hS hv_this rfl rfl []) rfl rfl hl.1 rfl (lv_room (Nat.le_of_ble_eq_true rfl)) dX9_still_27 ⟨Nat.le_of_ble_eq_true rfl, Nat.le_of_ble_eq_true rfl⟩) hS (fun st9 h H locs hI hS => ?_)
      refine r_iconst (n := 0) hx hb dX9_still_30 ?_
      refine lv_istore_n (lv' := [(2, .int (iI 0)), (0, .ref (G.2.2.1 9 0)), (1, .int (iI a0))]) hx hb dX9_still_31 rfl hl (by decide) rfl (fun ls hl => ?_)
      refine r_iconst (n := 0) hx hb dX9_still_32 ?_
      refine lv_istore_n (lv' := [(3, .int (iI 0)), (2, .int (iI 0)), (0, .ref (G.2.2.1 9 0)), (1, .int (iI a0))]) hx hb dX9_still_33 rfl hl (by decide) rfl (fun ls hl => ?_)
      obtain ⟨kk, h⟩ := h
      exact L34 kk st9 0 0 _ _ ls hI hS (lv_sub hl [2, 3, 1, 0] rfl) h
    · replace h := h.2 c7
      refine r_iconst (n := 0) hx hb dX9_still_24 ?_
      exact r_iret hx hb hr hlocks hK hI hS (Qp := Q) h dX9_still_25
  unfold f9_still at h
  refine lv_aload_n hx hb dX9_still_0 rfl (lv_at hl 0 rfl) ?_
  refine lv_aload_n hx hb dX9_still_1 rfl (lv_at hl 0 rfl) ?_
  refine lv_iload_n hx hb dX9_still_2 rfl (lv_at hl 1 rfl) ?_
  refine r_calli (va_runV (As := [.int (iI a0)]) (rest := [.ref (G.2.2.1 9 0)]) ⟨hx, hb, hml, hown, hts⟩ (m9_isPlace l G hv_this _ st a0 h) (cwV 1 hts gX9_still_X9_isPlace rfl rfl rfl hd9_isPlace ⟨Nat.le_of_ble_eq_true rfl, Nat.le_of_ble_eq_true rfl⟩) (pre_V hK hX hI hA hS hv_this rfl rfl [.int (iI a0)]) rfl rfl hl.1 rfl (lv_room (Nat.le_of_ble_eq_true rfl)) dX9_still_3 ⟨Nat.le_of_ble_eq_true rfl, Nat.le_of_ble_eq_true rfl⟩) hS (fun z1 st2 h H locs hI hS => ?_)
  obtain ⟨g3, h⟩ := h
  refine r_if_eq (tgt := 13) hx hb dX9_still_6 (by decide) g3 (fun c4 => ?_) (fun c4 => ?_)
  · replace h := h.1 c4
    refine r_iconst (n := 1) hx hb dX9_still_13 ?_
    exact J14 st2 1 _ _ ls hI hS (lv_sub hl [0, 1] rfl) h
  · replace h := h.2 c4
    refine r_iconst (n := 0) hx hb dX9_still_9 ?_
    refine lv_goto (tgt := 14) hx hb dX9_still_10 (by decide) ?_
    exact J14 st2 0 _ _ ls hI hS (lv_sub hl [0, 1] rfl) h
theorem hd9_gap : yX9_gap.cls = RX9 ∧ yX9_gap.cls ≠ "java/lang/invoke/MethodHandle" ∧ yX9_gap.cls ≠ "java/lang/invoke/VarHandle" ∧ (parseMethodDescriptor yX9_gap.desc).map (fun d => d.parameters.length) = some 2 := by decide +kernel
set_option maxHeartbeats 4000000 in
set_option maxRecDepth 100000 in
theorem m9_gap (l : Launch) (G : WG)   (hv_this : vM 9 0) (Q : Int → St → Prop) (st : St) (a0 : Int) (a1 : Int) (h : f9_gap Q st a0 a1) : Met l yX9_gap wsX9_gap ({ frames := 4, cells := 0, slots := 0, locals := 108 }) (PcM vM G st [.ref (G.2.2.1 9 0), .int (iI a0), .int (iI a1)]) (QlM vM G Q) 0 0 G.2.2.2.1 := by
  refine Met.ofW (cc := cX9_gap) (maxL := 3) (ret := (some .long)) (by decide) rfl ?_
  intro p e s m args below meth c s₁ B hml hvv
  obtain ⟨rfl, hA, hI, hK, hX⟩ := hvv
  have hx := B.exec
  have hb := B.bytes
  have hr := B.returns
  have hts := atoms_spec (ws := wsX9_gap) B.pre
  have hown : s.vm.findClass RX9 = some m.cls := findClass_of_methodNamed B.named
  have hlocks := B.notSynchronized
  have hS : va_S G.2.2.2.1 s.heap s.heap [] := va_S.rf
  have in9 : ∀ w ∈ wsX90, w ∈ wsX9_gap := by decide +kernel
  have lk_46 := hts (.fieldLink RX9 46 "BeamLinesModel" "thrown" "I") (by decide +kernel)
  have hl := lv_entry ([.ref (G.2.2.1 9 0), .int (iI a0), .int (iI a1)]) (n := 3) (Nat.le_of_ble_eq_true rfl)
  rw [lg_entry_eq]
  generalize (lg_sl ([.ref (G.2.2.1 9 0), .int (iI a0), .int (iI a1)]) ++ List.replicate (3 - (lg_sl ([.ref (G.2.2.1 9 0), .int (iI a0), .int (iI a1)])).length) Slot.unset).toArray = ls at hl ⊢
  have hl : lv_has ls 3 [(0, .ref (G.2.2.1 9 0)), (1, .int (iI a0)), (2, .int (iI a1))] := hl
  have J22 : ∀ (st : St) (s0x22 : Int) (H : Heap) (locs : List Loc) (ls : Array Slot), Iv vM G st H → va_S G.2.2.2.1 s.heap H locs → lv_has ls 3 [(0, .ref (G.2.2.1 9 0)), (1, .int (iI a0)), (2, .int (iI a1))] → f9_gap_j22 Q a0 a1 st s0x22 → W p l e (headSpec wsX9_gap ({ frames := 4, cells := 0, slots := 0, locals := 108 })).room s m ([.ref (G.2.2.1 9 0), .int (iI a0), .int (iI a1)] : List Value).toArray below meth c H locs 0 0 (MQ below (QlM vM G Q) ([.ref (G.2.2.1 9 0), .int (iI a0), .int (iI a1)] : List Value).toArray s 0 0 G.2.2.2.1) (F0 m 22 ls [.int (iI s0x22), .ref (G.2.2.1 9 0)]) := by
    intro st s0x22 H locs ls hI hS hl h
    unfold f9_gap_j22 at h
    refine pp_9_6 hx hb hts in9 hown hK hI hS hv_this lk_46 dX9_gap_22 (fun st9 hst9 H locs hI hS => ?_)
    replace h := h st9 hst9
    refine lv_aload_n hx hb dX9_gap_25 rfl (lv_at hl 0 rfl) ?_
    refine gg_9_6 hx hb hts in9 hown hK hI hv_this lk_46 dX9_gap_26 ?_
    obtain ⟨g10, h⟩ := h
    refine r_if_le (tgt := 34) hx hb dX9_gap_29 (by decide) g10 (fun c11 => ?_) (fun c11 => ?_)
    · replace h := h.1 c11
      refine lv_aload_n hx hb dX9_gap_34 rfl (lv_at hl 0 rfl) ?_
      refine r_callv (va_runV (As := []) (rest := []) ⟨hx, hb, hml, hown, hts⟩ (m9_lays l G hv_this _ st9 h) (cwV 0 hts gX9_gap_X9_lays rfl rfl rfl hd9_lays ⟨Nat.le_of_ble_eq_true rfl, Nat.le_of_ble_eq_true rfl⟩) (pre_V hK hX hI hA hS hv_this rfl rfl []) rfl rfl hl.1 rfl (lv_room (Nat.le_of_ble_eq_true rfl)) dX9_gap_35 ⟨Nat.le_of_ble_eq_true rfl, Nat.le_of_ble_eq_true rfl⟩) hS (fun st13 h H locs hI hS => ?_)
      refine lv_aload_n hx hb dX9_gap_38 rfl (lv_at hl 0 rfl) ?_
      refine lv_iload_n hx hb dX9_gap_39 rfl (lv_at hl 1 rfl) ?_
      refine lv_iload_n hx hb dX9_gap_40 rfl (lv_at hl 2 rfl) ?_
      refine r_calll (va_runV (As := [.int (iI a0), .int (iI a1)]) (rest := []) ⟨hx, hb, hml, hown, hts⟩ (m9_momentBy l G hv_this _ st13 a0 a1 h) (cwV 2 hts gX9_gap_X9_momentBy rfl rfl rfl hd9_momentBy ⟨Nat.le_of_ble_eq_true rfl, Nat.le_of_ble_eq_true rfl⟩) (pre_V hK hX hI hA hS hv_this rfl rfl [.int (iI a0), .int (iI a1)]) rfl rfl hl.1 rfl (lv_room (Nat.le_of_ble_eq_true rfl)) dX9_gap_41 ⟨Nat.le_of_ble_eq_true rfl, Nat.le_of_ble_eq_true rfl⟩) hS (fun z14 st15 h H locs hI hS => ?_)
      refine lv_aload_n hx hb dX9_gap_44 rfl (lv_at hl 0 rfl) ?_
      refine lv_iload_n hx hb dX9_gap_45 rfl (lv_at hl 1 rfl) ?_
      refine lv_iload_n hx hb dX9_gap_46 rfl (lv_at hl 2 rfl) ?_
      refine r_calll (va_runV (As := [.int (iI a0), .int (iI a1)]) (rest := [.long (lI z14)]) ⟨hx, hb, hml, hown, hts⟩ (m9_rightBy l G hv_this _ st15 a0 a1 h) (cwV 2 hts gX9_gap_X9_rightBy rfl rfl rfl hd9_rightBy ⟨Nat.le_of_ble_eq_true rfl, Nat.le_of_ble_eq_true rfl⟩) (pre_V hK hX hI hA hS hv_this rfl rfl [.int (iI a0), .int (iI a1)]) rfl rfl hl.1 rfl (lv_room (Nat.le_of_ble_eq_true rfl)) dX9_gap_47 ⟨Nat.le_of_ble_eq_true rfl, Nat.le_of_ble_eq_true rfl⟩) hS (fun z16 st17 h H locs hI hS => ?_)
      refine r_lsub hx hb dX9_gap_50 ?_
      exact r_lret hx hb hr hlocks hK hI hS (Qp := Q) h dX9_gap_51
    · replace h := h.2 c11
      refine r_lconst (z := 0) hx hb dX9_gap_32 rfl ?_
      exact r_lret hx hb hr hlocks hK hI hS (Qp := Q) h dX9_gap_33
  have J21 : ∀ (st : St) (H : Heap) (locs : List Loc) (ls : Array Slot), Iv vM G st H → va_S G.2.2.2.1 s.heap H locs → lv_has ls 3 [(0, .ref (G.2.2.1 9 0)), (1, .int (iI a0)), (2, .int (iI a1))] → f9_gap_j21 Q a0 a1 st → W p l e (headSpec wsX9_gap ({ frames := 4, cells := 0, slots := 0, locals := 108 })).room s m ([.ref (G.2.2.1 9 0), .int (iI a0), .int (iI a1)] : List Value).toArray below meth c H locs 0 0 (MQ below (QlM vM G Q) ([.ref (G.2.2.1 9 0), .int (iI a0), .int (iI a1)] : List Value).toArray s 0 0 G.2.2.2.1) (F0 m 21 ls [.ref (G.2.2.1 9 0)]) := by
    intro st H locs ls hI hS hl h
    unfold f9_gap_j21 at h
    refine r_iconst (n := 1) hx hb dX9_gap_21 ?_
    exact J22 st 1 _ _ ls hI hS (lv_sub hl [0, 1, 2] rfl) h
  unfold f9_gap at h
  refine lv_aload_n hx hb dX9_gap_0 rfl (lv_at hl 0 rfl) ?_
  refine lv_aload_n hx hb dX9_gap_1 rfl (lv_at hl 0 rfl) ?_
  refine lv_iload_n hx hb dX9_gap_2 rfl (lv_at hl 1 rfl) ?_
  refine r_calli (va_runV (As := [.int (iI a0)]) (rest := [.ref (G.2.2.1 9 0)]) ⟨hx, hb, hml, hown, hts⟩ (m9_isPlace l G hv_this _ st a0 h) (cwV 1 hts gX9_gap_X9_isPlace rfl rfl rfl hd9_isPlace ⟨Nat.le_of_ble_eq_true rfl, Nat.le_of_ble_eq_true rfl⟩) (pre_V hK hX hI hA hS hv_this rfl rfl [.int (iI a0)]) rfl rfl hl.1 rfl (lv_room (Nat.le_of_ble_eq_true rfl)) dX9_gap_3 ⟨Nat.le_of_ble_eq_true rfl, Nat.le_of_ble_eq_true rfl⟩) hS (fun z1 st2 h H locs hI hS => ?_)
  obtain ⟨g3, h⟩ := h
  refine r_if_eq (tgt := 21) hx hb dX9_gap_6 (by decide) g3 (fun c4 => ?_) (fun c4 => ?_)
  · replace h := h.1 c4
    exact J21 st2  _ _ ls hI hS (lv_sub hl [0, 1, 2] rfl) h
  · replace h := h.2 c4
    refine lv_aload_n hx hb dX9_gap_9 rfl (lv_at hl 0 rfl) ?_
    refine lv_iload_n hx hb dX9_gap_10 rfl (lv_at hl 2 rfl) ?_
    refine r_calli (va_runV (As := [.int (iI a1)]) (rest := [.ref (G.2.2.1 9 0)]) ⟨hx, hb, hml, hown, hts⟩ (m9_isPlace l G hv_this _ st2 a1 h) (cwV 1 hts gX9_gap_X9_isPlace rfl rfl rfl hd9_isPlace ⟨Nat.le_of_ble_eq_true rfl, Nat.le_of_ble_eq_true rfl⟩) (pre_V hK hX hI hA hS hv_this rfl rfl [.int (iI a1)]) rfl rfl hl.1 rfl (lv_room (Nat.le_of_ble_eq_true rfl)) dX9_gap_11 ⟨Nat.le_of_ble_eq_true rfl, Nat.le_of_ble_eq_true rfl⟩) hS (fun z5 st6 h H locs hI hS => ?_)
    obtain ⟨g7, h⟩ := h
    refine r_if_eq (tgt := 21) hx hb dX9_gap_14 (by decide) g7 (fun c8 => ?_) (fun c8 => ?_)
    · replace h := h.1 c8
      exact J21 st6  _ _ ls hI hS (lv_sub hl [0, 1, 2] rfl) h
    · replace h := h.2 c8
      refine r_iconst (n := 0) hx hb dX9_gap_17 ?_
      refine lv_goto (tgt := 22) hx hb dX9_gap_18 (by decide) ?_
      exact J22 st6 0 _ _ ls hI hS (lv_sub hl [0, 1, 2] rfl) h
theorem hd9_by : yX9_by.cls = RX9 ∧ yX9_by.cls ≠ "java/lang/invoke/MethodHandle" ∧ yX9_by.cls ≠ "java/lang/invoke/VarHandle" ∧ (parseMethodDescriptor yX9_by.desc).map (fun d => d.parameters.length) = some 3 := by decide +kernel
set_option maxHeartbeats 4000000 in
set_option maxRecDepth 100000 in
theorem m9_by (l : Launch) (G : WG)   (hv_this : vM 9 0) (Q : Int → St → Prop) (st : St) (a0 : Int) (a1 : Int) (a2 : Int) (h : f9_by Q st a0 a1 a2) : Met l yX9_by wsX9_by ({ frames := 2, cells := 0, slots := 0, locals := 47 }) (PcM vM G st [.ref (G.2.2.1 9 0), .int (iI a0), .int (iI a1), .int (iI a2)]) (QlM vM G Q) 0 0 G.2.2.2.1 := by
  refine Met.ofW (cc := cX9_by) (maxL := 4) (ret := (some .long)) (by decide) rfl ?_
  intro p e s m args below meth c s₁ B hml hvv
  obtain ⟨rfl, hA, hI, hK, hX⟩ := hvv
  have hx := B.exec
  have hb := B.bytes
  have hr := B.returns
  have hts := atoms_spec (ws := wsX9_by) B.pre
  have hown : s.vm.findClass RX9 = some m.cls := findClass_of_methodNamed B.named
  have hlocks := B.notSynchronized
  have hS : va_S G.2.2.2.1 s.heap s.heap [] := va_S.rf
  have hl := lv_entry ([.ref (G.2.2.1 9 0), .int (iI a0), .int (iI a1), .int (iI a2)]) (n := 4) (Nat.le_of_ble_eq_true rfl)
  rw [lg_entry_eq]
  generalize (lg_sl ([.ref (G.2.2.1 9 0), .int (iI a0), .int (iI a1), .int (iI a2)]) ++ List.replicate (4 - (lg_sl ([.ref (G.2.2.1 9 0), .int (iI a0), .int (iI a1), .int (iI a2)])).length) Slot.unset).toArray = ls at hl ⊢
  have hl : lv_has ls 4 [(0, .ref (G.2.2.1 9 0)), (1, .int (iI a0)), (2, .int (iI a1)), (3, .int (iI a2))] := hl
  unfold f9_by at h
  refine lv_iload_n hx hb dX9_by_0 rfl (lv_at hl 1 rfl) ?_
  obtain ⟨g1, h⟩ := h
  refine r_if_ne (tgt := 13) hx hb dX9_by_1 (by decide) g1 (fun c2 => ?_) (fun c2 => ?_)
  · replace h := h.2 c2
    refine lv_iload_n hx hb dX9_by_13 rfl (lv_at hl 1 rfl) ?_
    refine r_iconst (n := 1) hx hb dX9_by_14 ?_
    obtain ⟨g3, h⟩ := h
    refine r_icmp_ne (tgt := 27) hx hb dX9_by_15 (by decide) g3 (inI_mk rfl) (fun c4 => ?_) (fun c4 => ?_)
    · replace h := h.2 c4
      refine lv_aload_n hx hb dX9_by_27 rfl (lv_at hl 0 rfl) ?_
      refine lv_iload_n hx hb dX9_by_28 rfl (lv_at hl 2 rfl) ?_
      refine lv_iload_n hx hb dX9_by_29 rfl (lv_at hl 3 rfl) ?_
      refine r_calll (va_runV (As := [.int (iI a1), .int (iI a2)]) (rest := []) ⟨hx, hb, hml, hown, hts⟩ (m9_momentBy l G hv_this _ st a1 a2 h) (cwV 2 hts gX9_by_X9_momentBy rfl rfl rfl hd9_momentBy ⟨Nat.le_of_ble_eq_true rfl, Nat.le_of_ble_eq_true rfl⟩) (pre_V hK hX hI hA hS hv_this rfl rfl [.int (iI a1), .int (iI a2)]) rfl rfl hl.1 rfl (lv_room (Nat.le_of_ble_eq_true rfl)) dX9_by_30 ⟨Nat.le_of_ble_eq_true rfl, Nat.le_of_ble_eq_true rfl⟩) hS (fun z5 st6 h H locs hI hS => ?_)
      exact r_lret hx hb hr hlocks hK hI hS (Qp := Q) h dX9_by_33
    · replace h := h.1 c4
      refine lv_aload_n hx hb dX9_by_18 rfl (lv_at hl 0 rfl) ?_
      refine lv_iload_n hx hb dX9_by_19 rfl (lv_at hl 2 rfl) ?_
      refine lv_iload_n hx hb dX9_by_20 rfl (lv_at hl 3 rfl) ?_
      refine r_calll (va_runV (As := [.int (iI a1), .int (iI a2)]) (rest := []) ⟨hx, hb, hml, hown, hts⟩ (m9_shearBy l G hv_this _ st a1 a2 h) (cwV 2 hts gX9_by_X9_shearBy rfl rfl rfl hd9_shearBy ⟨Nat.le_of_ble_eq_true rfl, Nat.le_of_ble_eq_true rfl⟩) (pre_V hK hX hI hA hS hv_this rfl rfl [.int (iI a1), .int (iI a2)]) rfl rfl hl.1 rfl (lv_room (Nat.le_of_ble_eq_true rfl)) dX9_by_21 ⟨Nat.le_of_ble_eq_true rfl, Nat.le_of_ble_eq_true rfl⟩) hS (fun z7 st8 h H locs hI hS => ?_)
      refine lv_goto (tgt := 33) hx hb dX9_by_24 (by decide) ?_
      exact r_lret hx hb hr hlocks hK hI hS (Qp := Q) h dX9_by_33
  · replace h := h.1 c2
    refine lv_aload_n hx hb dX9_by_4 rfl (lv_at hl 0 rfl) ?_
    refine lv_iload_n hx hb dX9_by_5 rfl (lv_at hl 2 rfl) ?_
    refine lv_iload_n hx hb dX9_by_6 rfl (lv_at hl 3 rfl) ?_
    refine r_calll (va_runV (As := [.int (iI a1), .int (iI a2)]) (rest := []) ⟨hx, hb, hml, hown, hts⟩ (m9_reactionBy l G hv_this _ st a1 a2 h) (cwV 2 hts gX9_by_X9_reactionBy rfl rfl rfl hd9_reactionBy ⟨Nat.le_of_ble_eq_true rfl, Nat.le_of_ble_eq_true rfl⟩) (pre_V hK hX hI hA hS hv_this rfl rfl [.int (iI a1), .int (iI a2)]) rfl rfl hl.1 rfl (lv_room (Nat.le_of_ble_eq_true rfl)) dX9_by_7 ⟨Nat.le_of_ble_eq_true rfl, Nat.le_of_ble_eq_true rfl⟩) hS (fun z9 st10 h H locs hI hS => ?_)
    refine lv_goto (tgt := 33) hx hb dX9_by_10 (by decide) ?_
    exact r_lret hx hb hr hlocks hK hI hS (Qp := Q) h dX9_by_33
theorem hd9_isOn : yX9_isOn.cls = RX9 ∧ yX9_isOn.cls ≠ "java/lang/invoke/MethodHandle" ∧ yX9_isOn.cls ≠ "java/lang/invoke/VarHandle" ∧ (parseMethodDescriptor yX9_isOn.desc).map (fun d => d.parameters.length) = some 2 := by decide +kernel
set_option maxHeartbeats 4000000 in
set_option maxRecDepth 100000 in
theorem m9_isOn (l : Launch) (G : WG)   (hv_this : vM 9 0) (Q : Int → St → Prop) (st : St) (a0 : Int) (a1 : Int) (h : f9_isOn Q st a0 a1) : Met l yX9_isOn wsX9_isOn ({ frames := 2, cells := 0, slots := 0, locals := 43 }) (PcM vM G st [.ref (G.2.2.1 9 0), .int (iI a0), .int (iI a1)]) (QiM vM G Q) 0 0 G.2.2.2.1 := by
  refine Met.ofW (cc := cX9_isOn) (maxL := 3) (ret := (some .boolean)) (by decide) rfl ?_
  intro p e s m args below meth c s₁ B hml hvv
  obtain ⟨rfl, hA, hI, hK, hX⟩ := hvv
  have hx := B.exec
  have hb := B.bytes
  have hr := B.returns
  have hts := atoms_spec (ws := wsX9_isOn) B.pre
  have hown : s.vm.findClass RX9 = some m.cls := findClass_of_methodNamed B.named
  have hlocks := B.notSynchronized
  have hS : va_S G.2.2.2.1 s.heap s.heap [] := va_S.rf
  have in9 : ∀ w ∈ wsX90, w ∈ wsX9_isOn := by decide +kernel
  have lk_7 := hts (.fieldLink RX9 7 "BeamLinesModel" "a" "[I") (by decide +kernel)
  have hl := lv_entry ([.ref (G.2.2.1 9 0), .int (iI a0), .int (iI a1)]) (n := 3) (Nat.le_of_ble_eq_true rfl)
  rw [lg_entry_eq]
  generalize (lg_sl ([.ref (G.2.2.1 9 0), .int (iI a0), .int (iI a1)]) ++ List.replicate (3 - (lg_sl ([.ref (G.2.2.1 9 0), .int (iI a0), .int (iI a1)])).length) Slot.unset).toArray = ls at hl ⊢
  have hl : lv_has ls 3 [(0, .ref (G.2.2.1 9 0)), (1, .int (iI a0)), (2, .int (iI a1))] := hl
  unfold f9_isOn at h
  refine lv_iload_n hx hb dX9_isOn_0 rfl (lv_at hl 2 rfl) ?_
  refine r_iconst (n := (-1)) hx hb dX9_isOn_1 ?_
  obtain ⟨g1, h⟩ := h
  refine r_icmp_eq (tgt := 31) hx hb dX9_isOn_2 (by decide) g1 (inI_mk rfl) (fun c2 => ?_) (fun c2 => ?_)
  · replace h := h.1 c2
    refine r_iconst (n := 0) hx hb dX9_isOn_31 ?_
    exact r_zret hx hb hr hlocks hK hI hS (Qp := Q) (by decide) h dX9_isOn_32
  · replace h := h.2 c2
    refine lv_aload_n hx hb dX9_isOn_5 rfl (lv_at hl 0 rfl) ?_
    refine lv_iload_n hx hb dX9_isOn_6 rfl (lv_at hl 2 rfl) ?_
    refine lv_aload_n hx hb dX9_isOn_7 rfl (lv_at hl 0 rfl) ?_
    refine gg_9_0 hx hb hts in9 hown hK hI hv_this lk_7 dX9_isOn_8 ?_
    refine r_bipush (n := 35) hx hb dX9_isOn_11 rfl ?_
    refine r_iconst (n := 2) hx hb dX9_isOn_13 ?_
    refine lv_iload_n hx hb dX9_isOn_14 rfl (lv_at hl 1 rfl) ?_
    refine r_imul hx hb dX9_isOn_15 ?_
    refine r_iadd hx hb dX9_isOn_16 ?_
    refine r_iconst (n := 1) hx hb dX9_isOn_17 ?_
    refine r_iadd hx hb dX9_isOn_18 ?_
    obtain ⟨g3, g4, h⟩ := h
    refine r_iald hx hb hK hI (K := 30) (vrM_9_0 hv_this) rfl (mlen_le _) dX9_isOn_19 g3 g4 ?_
    refine r_isub hx hb dX9_isOn_20 ?_
    refine r_calli (va_runV (As := [.int (iI (a1 - (st 30 0 0 ((35 + (2 * a0)) + 1))))]) (rest := []) ⟨hx, hb, hml, hown, hts⟩ (m9_isPlace l G hv_this _ st (a1 - (st 30 0 0 ((35 + (2 * a0)) + 1))) h) (cwV 1 hts gX9_isOn_X9_isPlace rfl rfl rfl hd9_isPlace ⟨Nat.le_of_ble_eq_true rfl, Nat.le_of_ble_eq_true rfl⟩) (pre_V hK hX hI hA hS hv_this rfl rfl [.int (iI (a1 - (st 30 0 0 ((35 + (2 * a0)) + 1))))]) rfl rfl hl.1 rfl (lv_room (Nat.le_of_ble_eq_true rfl)) dX9_isOn_21 ⟨Nat.le_of_ble_eq_true rfl, Nat.le_of_ble_eq_true rfl⟩) hS (fun z5 st6 h H locs hI hS => ?_)
    obtain ⟨g7, h⟩ := h
    refine r_if_eq (tgt := 31) hx hb dX9_isOn_24 (by decide) g7 (fun c8 => ?_) (fun c8 => ?_)
    · replace h := h.1 c8
      refine r_iconst (n := 0) hx hb dX9_isOn_31 ?_
      exact r_zret hx hb hr hlocks hK hI hS (Qp := Q) (by decide) h dX9_isOn_32
    · replace h := h.2 c8
      refine r_iconst (n := 1) hx hb dX9_isOn_27 ?_
      refine lv_goto (tgt := 32) hx hb dX9_isOn_28 (by decide) ?_
      exact r_zret hx hb hr hlocks hK hI hS (Qp := Q) (by decide) h dX9_isOn_32
theorem hd9_all : yX9_all.cls = RX9 ∧ yX9_all.cls ≠ "java/lang/invoke/MethodHandle" ∧ yX9_all.cls ≠ "java/lang/invoke/VarHandle" ∧ (parseMethodDescriptor yX9_all.desc).map (fun d => d.parameters.length) = some 3 := by decide +kernel
set_option maxHeartbeats 4000000 in
set_option maxRecDepth 100000 in
theorem m9_all (l : Launch) (G : WG)   (hv_this : vM 9 0) (Q : Int → St → Prop) (st : St) (a0 : Int) (a1 : Int) (a2 : Int) (h : f9_all Q st a0 a1 a2) : Met l yX9_all wsX9_all ({ frames := 3, cells := 0, slots := 0, locals := 70 }) (PcM vM G st [.ref (G.2.2.1 9 0), .int (iI a0), .int (iI a1), .int (iI a2)]) (QlM vM G Q) 0 0 G.2.2.2.1 := by
  refine Met.ofW (cc := cX9_all) (maxL := 7) (ret := (some .long)) (by decide) rfl ?_
  intro p e s m args below meth c s₁ B hml hvv
  obtain ⟨rfl, hA, hI, hK, hX⟩ := hvv
  have hx := B.exec
  have hb := B.bytes
  have hr := B.returns
  have hts := atoms_spec (ws := wsX9_all) B.pre
  have hown : s.vm.findClass RX9 = some m.cls := findClass_of_methodNamed B.named
  have hlocks := B.notSynchronized
  have hS : va_S G.2.2.2.1 s.heap s.heap [] := va_S.rf
  have in9 : ∀ w ∈ wsX90, w ∈ wsX9_all := by decide +kernel
  have lk_7 := hts (.fieldLink RX9 7 "BeamLinesModel" "a" "[I") (by decide +kernel)
  have hl := lv_entry ([.ref (G.2.2.1 9 0), .int (iI a0), .int (iI a1), .int (iI a2)]) (n := 7) (Nat.le_of_ble_eq_true rfl)
  rw [lg_entry_eq]
  generalize (lg_sl ([.ref (G.2.2.1 9 0), .int (iI a0), .int (iI a1), .int (iI a2)]) ++ List.replicate (7 - (lg_sl ([.ref (G.2.2.1 9 0), .int (iI a0), .int (iI a1), .int (iI a2)])).length) Slot.unset).toArray = ls at hl ⊢
  have hl : lv_has ls 7 [(0, .ref (G.2.2.1 9 0)), (1, .int (iI a0)), (2, .int (iI a1)), (3, .int (iI a2))] := hl
  have L65 : ∀ (n65 : Nat), ∀ (st : St) (v4x65 : Int) (v6x65 : Int) (H : Heap) (locs : List Loc) (ls : Array Slot), Iv vM G st H → va_S G.2.2.2.1 s.heap H locs → lv_has ls 7 [(0, .ref (G.2.2.1 9 0)), (1, .int (iI a0)), (2, .int (iI a1)), (3, .int (iI a2)), (4, .long (lI v4x65)), (6, .int (iI v6x65))] → f9_all_l65 Q a0 a1 a2 n65 st v4x65 v6x65 → W p l e (headSpec wsX9_all ({ frames := 3, cells := 0, slots := 0, locals := 70 })).room s m ([.ref (G.2.2.1 9 0), .int (iI a0), .int (iI a1), .int (iI a2)] : List Value).toArray below meth c H locs 0 0 (MQ below (QlM vM G Q) ([.ref (G.2.2.1 9 0), .int (iI a0), .int (iI a1), .int (iI a2)] : List Value).toArray s 0 0 G.2.2.2.1) (F0 m 65 ls []) := by
    intro n65
    induction n65 with
    | zero =>
      intro st v4x65 v6x65 H locs ls hI hS hl h
      exact h.elim
    | succ n65 ih65 =>
      have J127 : ∀ (st : St) (v4x127 : Int) (v6x127 : Int) (H : Heap) (locs : List Loc) (ls : Array Slot), Iv vM G st H → va_S G.2.2.2.1 s.heap H locs → lv_has ls 7 [(0, .ref (G.2.2.1 9 0)), (1, .int (iI a0)), (2, .int (iI a1)), (3, .int (iI a2)), (4, .long (lI v4x127)), (6, .int (iI v6x127))] → f9_all_j127 (fun st v4x65 v6x65 => f9_all_l65 Q a0 a1 a2 n65 st v4x65 v6x65) Q a0 a1 a2 st v4x127 v6x127 → W p l e (headSpec wsX9_all ({ frames := 3, cells := 0, slots := 0, locals := 70 })).room s m ([.ref (G.2.2.1 9 0), .int (iI a0), .int (iI a1), .int (iI a2)] : List Value).toArray below meth c H locs 0 0 (MQ below (QlM vM G Q) ([.ref (G.2.2.1 9 0), .int (iI a0), .int (iI a1), .int (iI a2)] : List Value).toArray s 0 0 G.2.2.2.1) (F0 m 127 ls []) := by
        intro st v4x127 v6x127 H locs ls hI hS hl h
        unfold f9_all_j127 at h
        obtain ⟨x28, hx28⟩ : ∃ z : Int, z = v6x127 + 1 := ⟨_, rfl⟩
        replace h := h x28 hx28
        refine lv_iinc (v := iI x28) (lv' := [(6, .int (iI x28)), (0, .ref (G.2.2.1 9 0)), (1, .int (iI a0)), (2, .int (iI a1)), (3, .int (iI a2)), (4, .long (lI v4x127))]) hx hb dX9_all_127 hl (k := 5) rfl (by rw [hx28]; exact iI_add _ _) (by decide) rfl (fun ls hl => ?_)
        refine lv_goto (tgt := 65) hx hb dX9_all_130 (by decide) ?_
        exact ih65 st v4x127 x28 _ _ ls hI hS (lv_sub hl [1, 2, 3, 4, 5, 0] rfl) h
      intro st v4x65 v6x65 H locs ls hI hS hl h
      unfold f9_all_l65 at h
      refine lv_iload hx hb dX9_all_65 (lv_at hl 5 rfl) ?_
      refine lv_aload_n hx hb dX9_all_67 rfl (lv_at hl 0 rfl) ?_
      refine gg_9_0 hx hb hts in9 hown hK hI hv_this lk_7 dX9_all_68 ?_
      refine r_iconst (n := 5) hx hb dX9_all_71 ?_
      refine r_iald hx hb hK hI (K := 30) (vrM_9_0 hv_this) rfl (mlen_le _) dX9_all_72 (by decide) (by decide) ?_
      obtain ⟨g13, h⟩ := h
      obtain ⟨g14, h⟩ := h
      refine r_icmp_ge (tgt := 133) hx hb dX9_all_73 (by decide) g13 g14 (fun c15 => ?_) (fun c15 => ?_)
      · replace h := h.1 c15
        refine lv_lload hx hb dX9_all_133 (lv_at hl 4 rfl) ?_
        exact r_lret hx hb hr hlocks hK hI hS (Qp := Q) h dX9_all_135
      · replace h := h.2 c15
        refine lv_aload_n hx hb dX9_all_76 rfl (lv_at hl 0 rfl) ?_
        refine lv_iload hx hb dX9_all_77 (lv_at hl 5 rfl) ?_
        refine lv_iload_n hx hb dX9_all_79 rfl (lv_at hl 3 rfl) ?_
        refine r_calli (va_runV (As := [.int (iI v6x65), .int (iI a2)]) (rest := []) ⟨hx, hb, hml, hown, hts⟩ (m9_isOn l G hv_this _ st v6x65 a2 h) (cwV 2 hts gX9_all_X9_isOn rfl rfl rfl hd9_isOn ⟨Nat.le_of_ble_eq_true rfl, Nat.le_of_ble_eq_true rfl⟩) (pre_V hK hX hI hA hS hv_this rfl rfl [.int (iI v6x65), .int (iI a2)]) rfl rfl hl.1 rfl (lv_room (Nat.le_of_ble_eq_true rfl)) dX9_all_80 ⟨Nat.le_of_ble_eq_true rfl, Nat.le_of_ble_eq_true rfl⟩) hS (fun z16 st17 h H locs hI hS => ?_)
        obtain ⟨g18, h⟩ := h
        refine r_if_eq (tgt := 127) hx hb dX9_all_83 (by decide) g18 (fun c19 => ?_) (fun c19 => ?_)
        · replace h := h.1 c19
          exact J127 st17 v4x65 v6x65 _ _ ls hI hS (lv_sub hl [0, 1, 2, 3, 4, 5] rfl) h
        · replace h := h.2 c19
          refine lv_lload hx hb dX9_all_86 (lv_at hl 4 rfl) ?_
          refine lv_aload_n hx hb dX9_all_88 rfl (lv_at hl 0 rfl) ?_
          refine gg_9_0 hx hb hts in9 hown hK hI hv_this lk_7 dX9_all_89 ?_
          refine r_bipush (n := 35) hx hb dX9_all_92 rfl ?_
          refine r_iconst (n := 2) hx hb dX9_all_94 ?_
          refine lv_iload hx hb dX9_all_95 (lv_at hl 5 rfl) ?_
          refine r_imul hx hb dX9_all_97 ?_
          refine r_iadd hx hb dX9_all_98 ?_
          obtain ⟨g20, g21, h⟩ := h
          refine r_iald hx hb hK hI (K := 30) (vrM_9_0 hv_this) rfl (mlen_le _) dX9_all_99 g20 g21 ?_
          obtain ⟨g22, h⟩ := h
          refine r_i2l hx hb dX9_all_100 g22 ?_
          refine lv_aload_n hx hb dX9_all_101 rfl (lv_at hl 0 rfl) ?_
          refine lv_iload_n hx hb dX9_all_102 rfl (lv_at hl 1 rfl) ?_
          refine lv_iload_n hx hb dX9_all_103 rfl (lv_at hl 2 rfl) ?_
          refine lv_iload_n hx hb dX9_all_104 rfl (lv_at hl 3 rfl) ?_
          refine lv_aload_n hx hb dX9_all_105 rfl (lv_at hl 0 rfl) ?_
          refine gg_9_0 hx hb hts in9 hown hK hI hv_this lk_7 dX9_all_106 ?_
          refine r_bipush (n := 35) hx hb dX9_all_109 rfl ?_
          refine r_iconst (n := 2) hx hb dX9_all_111 ?_
          refine lv_iload hx hb dX9_all_112 (lv_at hl 5 rfl) ?_
          refine r_imul hx hb dX9_all_114 ?_
          refine r_iadd hx hb dX9_all_115 ?_
          refine r_iconst (n := 1) hx hb dX9_all_116 ?_
          refine r_iadd hx hb dX9_all_117 ?_
          obtain ⟨g23, g24, h⟩ := h
          refine r_iald hx hb hK hI (K := 30) (vrM_9_0 hv_this) rfl (mlen_le _) dX9_all_118 g23 g24 ?_
          refine r_isub hx hb dX9_all_119 ?_
          refine r_calll (va_runV (As := [.int (iI a0), .int (iI a1), .int (iI (a2 - (st17 30 0 0 ((35 + (2 * v6x65)) + 1))))]) (rest := [.long (lI (st17 30 0 0 (35 + (2 * v6x65)))), .long (lI v4x65)]) ⟨hx, hb, hml, hown, hts⟩ (m9_by l G hv_this _ st17 a0 a1 (a2 - (st17 30 0 0 ((35 + (2 * v6x65)) + 1))) h) (cwV 3 hts gX9_all_X9_by rfl rfl rfl hd9_by ⟨Nat.le_of_ble_eq_true rfl, Nat.le_of_ble_eq_true rfl⟩) (pre_V hK hX hI hA hS hv_this rfl rfl [.int (iI a0), .int (iI a1), .int (iI (a2 - (st17 30 0 0 ((35 + (2 * v6x65)) + 1))))]) rfl rfl hl.1 rfl (lv_room (Nat.le_of_ble_eq_true rfl)) dX9_all_120 ⟨Nat.le_of_ble_eq_true rfl, Nat.le_of_ble_eq_true rfl⟩) hS (fun z25 st26 h H locs hI hS => ?_)
          refine r_lmul hx hb dX9_all_123 ?_
          refine r_ladd hx hb dX9_all_124 ?_
          refine r_topl (fun x27 hx27 => ?_)
          replace h := h x27 hx27
          refine lv_lstore (lv' := [(4, .long (lI x27)), (0, .ref (G.2.2.1 9 0)), (1, .int (iI a0)), (2, .int (iI a1)), (3, .int (iI a2)), (6, .int (iI v6x65))]) hx hb dX9_all_125 hl (by decide) rfl (fun ls hl => ?_)
          exact J127 st26 x27 v6x65 _ _ ls hI hS (lv_sub hl [1, 2, 3, 4, 0, 5] rfl) h
  have L6 : ∀ (n6 : Nat), ∀ (st : St) (v4x6 : Int) (v6x6 : Int) (H : Heap) (locs : List Loc) (ls : Array Slot), Iv vM G st H → va_S G.2.2.2.1 s.heap H locs → lv_has ls 7 [(0, .ref (G.2.2.1 9 0)), (1, .int (iI a0)), (2, .int (iI a1)), (3, .int (iI a2)), (4, .long (lI v4x6)), (6, .int (iI v6x6))] → f9_all_l6 Q a0 a1 a2 n6 st v4x6 v6x6 → W p l e (headSpec wsX9_all ({ frames := 3, cells := 0, slots := 0, locals := 70 })).room s m ([.ref (G.2.2.1 9 0), .int (iI a0), .int (iI a1), .int (iI a2)] : List Value).toArray below meth c H locs 0 0 (MQ below (QlM vM G Q) ([.ref (G.2.2.1 9 0), .int (iI a0), .int (iI a1), .int (iI a2)] : List Value).toArray s 0 0 G.2.2.2.1) (F0 m 6 ls []) := by
    intro n6
    induction n6 with
    | zero =>
      intro st v4x6 v6x6 H locs ls hI hS hl h
      exact h.elim
    | succ n6 ih6 =>
      intro st v4x6 v6x6 H locs ls hI hS hl h
      unfold f9_all_l6 at h
      refine lv_iload hx hb dX9_all_6 (lv_at hl 5 rfl) ?_
      refine lv_aload_n hx hb dX9_all_8 rfl (lv_at hl 0 rfl) ?_
      refine gg_9_0 hx hb hts in9 hown hK hI hv_this lk_7 dX9_all_9 ?_
      refine r_iconst (n := 4) hx hb dX9_all_12 ?_
      refine r_iald hx hb hK hI (K := 30) (vrM_9_0 hv_this) rfl (mlen_le _) dX9_all_13 (by decide) (by decide) ?_
      obtain ⟨g1, h⟩ := h
      obtain ⟨g2, h⟩ := h
      refine r_icmp_ge (tgt := 62) hx hb dX9_all_14 (by decide) g1 g2 (fun c3 => ?_) (fun c3 => ?_)
      · replace h := h.1 c3
        refine r_iconst (n := 0) hx hb dX9_all_62 ?_
        refine lv_istore (lv' := [(6, .int (iI 0)), (0, .ref (G.2.2.1 9 0)), (1, .int (iI a0)), (2, .int (iI a1)), (3, .int (iI a2)), (4, .long (lI v4x6))]) hx hb dX9_all_63 hl (by decide) rfl (fun ls hl => ?_)
        obtain ⟨kk, h⟩ := h
        exact L65 kk st v4x6 0 _ _ ls hI hS (lv_sub hl [1, 2, 3, 4, 5, 0] rfl) h
      · replace h := h.2 c3
        refine lv_lload hx hb dX9_all_17 (lv_at hl 4 rfl) ?_
        refine lv_aload_n hx hb dX9_all_19 rfl (lv_at hl 0 rfl) ?_
        refine gg_9_0 hx hb hts in9 hown hK hI hv_this lk_7 dX9_all_20 ?_
        refine r_bipush (n := 19) hx hb dX9_all_23 rfl ?_
        refine r_iconst (n := 2) hx hb dX9_all_25 ?_
        refine lv_iload hx hb dX9_all_26 (lv_at hl 5 rfl) ?_
        refine r_imul hx hb dX9_all_28 ?_
        refine r_iadd hx hb dX9_all_29 ?_
        obtain ⟨g4, g5, h⟩ := h
        refine r_iald hx hb hK hI (K := 30) (vrM_9_0 hv_this) rfl (mlen_le _) dX9_all_30 g4 g5 ?_
        obtain ⟨g6, h⟩ := h
        refine r_i2l hx hb dX9_all_31 g6 ?_
        refine lv_aload_n hx hb dX9_all_32 rfl (lv_at hl 0 rfl) ?_
        refine lv_iload_n hx hb dX9_all_33 rfl (lv_at hl 1 rfl) ?_
        refine lv_iload_n hx hb dX9_all_34 rfl (lv_at hl 2 rfl) ?_
        refine lv_aload_n hx hb dX9_all_35 rfl (lv_at hl 0 rfl) ?_
        refine gg_9_0 hx hb hts in9 hown hK hI hv_this lk_7 dX9_all_36 ?_
        refine r_bipush (n := 19) hx hb dX9_all_39 rfl ?_
        refine r_iconst (n := 2) hx hb dX9_all_41 ?_
        refine lv_iload hx hb dX9_all_42 (lv_at hl 5 rfl) ?_
        refine r_imul hx hb dX9_all_44 ?_
        refine r_iadd hx hb dX9_all_45 ?_
        refine r_iconst (n := 1) hx hb dX9_all_46 ?_
        refine r_iadd hx hb dX9_all_47 ?_
        obtain ⟨g7, g8, h⟩ := h
        refine r_iald hx hb hK hI (K := 30) (vrM_9_0 hv_this) rfl (mlen_le _) dX9_all_48 g7 g8 ?_
        refine r_calll (va_runV (As := [.int (iI a0), .int (iI a1), .int (iI (st 30 0 0 ((19 + (2 * v6x6)) + 1)))]) (rest := [.long (lI (st 30 0 0 (19 + (2 * v6x6)))), .long (lI v4x6)]) ⟨hx, hb, hml, hown, hts⟩ (m9_by l G hv_this _ st a0 a1 (st 30 0 0 ((19 + (2 * v6x6)) + 1)) h) (cwV 3 hts gX9_all_X9_by rfl rfl rfl hd9_by ⟨Nat.le_of_ble_eq_true rfl, Nat.le_of_ble_eq_true rfl⟩) (pre_V hK hX hI hA hS hv_this rfl rfl [.int (iI a0), .int (iI a1), .int (iI (st 30 0 0 ((19 + (2 * v6x6)) + 1)))]) rfl rfl hl.1 rfl (lv_room (Nat.le_of_ble_eq_true rfl)) dX9_all_49 ⟨Nat.le_of_ble_eq_true rfl, Nat.le_of_ble_eq_true rfl⟩) hS (fun z9 st10 h H locs hI hS => ?_)
        refine r_lmul hx hb dX9_all_52 ?_
        refine r_ladd hx hb dX9_all_53 ?_
        refine r_topl (fun x11 hx11 => ?_)
        replace h := h x11 hx11
        refine lv_lstore (lv' := [(4, .long (lI x11)), (0, .ref (G.2.2.1 9 0)), (1, .int (iI a0)), (2, .int (iI a1)), (3, .int (iI a2)), (6, .int (iI v6x6))]) hx hb dX9_all_54 hl (by decide) rfl (fun ls hl => ?_)
        obtain ⟨x12, hx12⟩ : ∃ z : Int, z = v6x6 + 1 := ⟨_, rfl⟩
        replace h := h x12 hx12
        refine lv_iinc (v := iI x12) (lv' := [(6, .int (iI x12)), (4, .long (lI x11)), (0, .ref (G.2.2.1 9 0)), (1, .int (iI a0)), (2, .int (iI a1)), (3, .int (iI a2))]) hx hb dX9_all_56 hl (k := 5) rfl (by rw [hx12]; exact iI_add _ _) (by decide) rfl (fun ls hl => ?_)
        refine lv_goto (tgt := 6) hx hb dX9_all_59 (by decide) ?_
        exact ih6 st10 x11 x12 _ _ ls hI hS (lv_sub hl [2, 3, 4, 5, 1, 0] rfl) h
  unfold f9_all at h
  refine r_lconst (z := 0) hx hb dX9_all_0 rfl ?_
  refine lv_lstore (lv' := [(4, .long (lI 0)), (0, .ref (G.2.2.1 9 0)), (1, .int (iI a0)), (2, .int (iI a1)), (3, .int (iI a2))]) hx hb dX9_all_1 hl (by decide) rfl (fun ls hl => ?_)
  refine r_iconst (n := 0) hx hb dX9_all_3 ?_
  refine lv_istore (lv' := [(6, .int (iI 0)), (4, .long (lI 0)), (0, .ref (G.2.2.1 9 0)), (1, .int (iI a0)), (2, .int (iI a1)), (3, .int (iI a2))]) hx hb dX9_all_4 hl (by decide) rfl (fun ls hl => ?_)
  obtain ⟨kk, h⟩ := h
  exact L6 kk st 0 0 _ _ ls hI hS (lv_sub hl [2, 3, 4, 5, 1, 0] rfl) h
theorem hd9_isHead : yX9_isHead.cls = RX9 ∧ yX9_isHead.cls ≠ "java/lang/invoke/MethodHandle" ∧ yX9_isHead.cls ≠ "java/lang/invoke/VarHandle" ∧ (parseMethodDescriptor yX9_isHead.desc).map (fun d => d.parameters.length) = some 1 := by decide +kernel
set_option maxHeartbeats 4000000 in
set_option maxRecDepth 100000 in
theorem m9_isHead (l : Launch) (G : WG)   (hv_this : vM 9 0) (Q : Int → St → Prop) (st : St) (a0 : Int) (h : f9_isHead Q st a0) : Met l yX9_isHead wsX9_isHead ({ frames := 2, cells := 0, slots := 0, locals := 45 }) (PcM vM G st [.ref (G.2.2.1 9 0), .int (iI a0)]) (QiM vM G Q) 0 0 G.2.2.2.1 := by
  refine Met.ofW (cc := cX9_isHead) (maxL := 2) (ret := (some .boolean)) (by decide) rfl ?_
  intro p e s m args below meth c s₁ B hml hvv
  obtain ⟨rfl, hA, hI, hK, hX⟩ := hvv
  have hx := B.exec
  have hb := B.bytes
  have hr := B.returns
  have hts := atoms_spec (ws := wsX9_isHead) B.pre
  have hown : s.vm.findClass RX9 = some m.cls := findClass_of_methodNamed B.named
  have hlocks := B.notSynchronized
  have hS : va_S G.2.2.2.1 s.heap s.heap [] := va_S.rf
  have hl := lv_entry ([.ref (G.2.2.1 9 0), .int (iI a0)]) (n := 2) (Nat.le_of_ble_eq_true rfl)
  rw [lg_entry_eq]
  generalize (lg_sl ([.ref (G.2.2.1 9 0), .int (iI a0)]) ++ List.replicate (2 - (lg_sl ([.ref (G.2.2.1 9 0), .int (iI a0)])).length) Slot.unset).toArray = ls at hl ⊢
  have hl : lv_has ls 2 [(0, .ref (G.2.2.1 9 0)), (1, .int (iI a0))] := hl
  unfold f9_isHead at h
  refine lv_iload_n hx hb dX9_isHead_0 rfl (lv_at hl 1 rfl) ?_
  refine r_iconst (n := (-1)) hx hb dX9_isHead_1 ?_
  refine lv_aload_n hx hb dX9_isHead_2 rfl (lv_at hl 0 rfl) ?_
  refine r_calli (va_runV (As := []) (rest := [.int (iI (-1)), .int (iI a0)]) ⟨hx, hb, hml, hown, hts⟩ (m9_lastHead l G hv_this _ st h) (cwV 0 hts gX9_isHead_X9_lastHead rfl rfl rfl hd9_lastHead ⟨Nat.le_of_ble_eq_true rfl, Nat.le_of_ble_eq_true rfl⟩) (pre_V hK hX hI hA hS hv_this rfl rfl []) rfl rfl hl.1 rfl (lv_room (Nat.le_of_ble_eq_true rfl)) dX9_isHead_3 ⟨Nat.le_of_ble_eq_true rfl, Nat.le_of_ble_eq_true rfl⟩) hS (fun z1 st2 h H locs hI hS => ?_)
  refine r_calli (va_runS (As := [.int (iI a0), .int (iI (-1)), .int (iI z1)]) (rest := []) ⟨hx, hb, hml, hown, hts⟩ (m9_isIn l G _ st2 a0 (-1) z1 h) (va_cwS 3 hts gX9_isHead_X9_isIn rfl rfl rfl hd9_isIn ⟨Nat.le_of_ble_eq_true rfl, Nat.le_of_ble_eq_true rfl⟩) (pre_S hK hX hI hA hS [.int (iI a0), .int (iI (-1)), .int (iI z1)]) rfl rfl hl.1 rfl (lv_room (Nat.le_of_ble_eq_true rfl)) dX9_isHead_6 ⟨Nat.le_of_ble_eq_true rfl, Nat.le_of_ble_eq_true rfl⟩) hS (fun z3 st4 h H locs hI hS => ?_)
  obtain ⟨g5, h⟩ := h
  exact r_zret hx hb hr hlocks hK hI hS (Qp := Q) g5 h dX9_isHead_9
theorem hd9_reaction : yX9_reaction.cls = RX9 ∧ yX9_reaction.cls ≠ "java/lang/invoke/MethodHandle" ∧ yX9_reaction.cls ≠ "java/lang/invoke/VarHandle" ∧ (parseMethodDescriptor yX9_reaction.desc).map (fun d => d.parameters.length) = some 2 := by decide +kernel
set_option maxHeartbeats 4000000 in
set_option maxRecDepth 100000 in
theorem m9_reaction (l : Launch) (G : WG)   (hv_this : vM 9 0) (Q : Int → St → Prop) (st : St) (a0 : Int) (a1 : Int) (h : f9_reaction Q st a0 a1) : Met l yX9_reaction wsX9_reaction ({ frames := 4, cells := 0, slots := 0, locals := 108 }) (PcM vM G st [.ref (G.2.2.1 9 0), .int (iI a0), .int (iI a1)]) (QlM vM G Q) 0 0 G.2.2.2.1 := by
  refine Met.ofW (cc := cX9_reaction) (maxL := 3) (ret := (some .long)) (by decide) rfl ?_
  intro p e s m args below meth c s₁ B hml hvv
  obtain ⟨rfl, hA, hI, hK, hX⟩ := hvv
  have hx := B.exec
  have hb := B.bytes
  have hr := B.returns
  have hts := atoms_spec (ws := wsX9_reaction) B.pre
  have hown : s.vm.findClass RX9 = some m.cls := findClass_of_methodNamed B.named
  have hlocks := B.notSynchronized
  have hS : va_S G.2.2.2.1 s.heap s.heap [] := va_S.rf
  have in9 : ∀ w ∈ wsX90, w ∈ wsX9_reaction := by decide +kernel
  have lk_46 := hts (.fieldLink RX9 46 "BeamLinesModel" "thrown" "I") (by decide +kernel)
  have hl := lv_entry ([.ref (G.2.2.1 9 0), .int (iI a0), .int (iI a1)]) (n := 3) (Nat.le_of_ble_eq_true rfl)
  rw [lg_entry_eq]
  generalize (lg_sl ([.ref (G.2.2.1 9 0), .int (iI a0), .int (iI a1)]) ++ List.replicate (3 - (lg_sl ([.ref (G.2.2.1 9 0), .int (iI a0), .int (iI a1)])).length) Slot.unset).toArray = ls at hl ⊢
  have hl : lv_has ls 3 [(0, .ref (G.2.2.1 9 0)), (1, .int (iI a0)), (2, .int (iI a1))] := hl
  have J26 : ∀ (st : St) (s0x26 : Int) (H : Heap) (locs : List Loc) (ls : Array Slot), Iv vM G st H → va_S G.2.2.2.1 s.heap H locs → lv_has ls 3 [(0, .ref (G.2.2.1 9 0)), (1, .int (iI a0)), (2, .int (iI a1))] → f9_reaction_j26 Q a0 a1 st s0x26 → W p l e (headSpec wsX9_reaction ({ frames := 4, cells := 0, slots := 0, locals := 108 })).room s m ([.ref (G.2.2.1 9 0), .int (iI a0), .int (iI a1)] : List Value).toArray below meth c H locs 0 0 (MQ below (QlM vM G Q) ([.ref (G.2.2.1 9 0), .int (iI a0), .int (iI a1)] : List Value).toArray s 0 0 G.2.2.2.1) (F0 m 26 ls [.int (iI s0x26), .ref (G.2.2.1 9 0)]) := by
    intro st s0x26 H locs ls hI hS hl h
    unfold f9_reaction_j26 at h
    refine pp_9_6 hx hb hts in9 hown hK hI hS hv_this lk_46 dX9_reaction_26 (fun st9 hst9 H locs hI hS => ?_)
    replace h := h st9 hst9
    refine lv_aload_n hx hb dX9_reaction_29 rfl (lv_at hl 0 rfl) ?_
    refine gg_9_6 hx hb hts in9 hown hK hI hv_this lk_46 dX9_reaction_30 ?_
    obtain ⟨g10, h⟩ := h
    refine r_if_le (tgt := 38) hx hb dX9_reaction_33 (by decide) g10 (fun c11 => ?_) (fun c11 => ?_)
    · replace h := h.1 c11
      refine lv_aload_n hx hb dX9_reaction_38 rfl (lv_at hl 0 rfl) ?_
      refine r_callv (va_runV (As := []) (rest := []) ⟨hx, hb, hml, hown, hts⟩ (m9_lays l G hv_this _ st9 h) (cwV 0 hts gX9_reaction_X9_lays rfl rfl rfl hd9_lays ⟨Nat.le_of_ble_eq_true rfl, Nat.le_of_ble_eq_true rfl⟩) (pre_V hK hX hI hA hS hv_this rfl rfl []) rfl rfl hl.1 rfl (lv_room (Nat.le_of_ble_eq_true rfl)) dX9_reaction_39 ⟨Nat.le_of_ble_eq_true rfl, Nat.le_of_ble_eq_true rfl⟩) hS (fun st13 h H locs hI hS => ?_)
      refine lv_aload_n hx hb dX9_reaction_42 rfl (lv_at hl 0 rfl) ?_
      refine r_iconst (n := 0) hx hb dX9_reaction_43 ?_
      refine lv_iload_n hx hb dX9_reaction_44 rfl (lv_at hl 1 rfl) ?_
      refine lv_iload_n hx hb dX9_reaction_45 rfl (lv_at hl 2 rfl) ?_
      refine r_calll (va_runV (As := [.int (iI 0), .int (iI a0), .int (iI a1)]) (rest := []) ⟨hx, hb, hml, hown, hts⟩ (m9_all l G hv_this _ st13 0 a0 a1 h) (cwV 3 hts gX9_reaction_X9_all rfl rfl rfl hd9_all ⟨Nat.le_of_ble_eq_true rfl, Nat.le_of_ble_eq_true rfl⟩) (pre_V hK hX hI hA hS hv_this rfl rfl [.int (iI 0), .int (iI a0), .int (iI a1)]) rfl rfl hl.1 rfl (lv_room (Nat.le_of_ble_eq_true rfl)) dX9_reaction_46 ⟨Nat.le_of_ble_eq_true rfl, Nat.le_of_ble_eq_true rfl⟩) hS (fun z14 st15 h H locs hI hS => ?_)
      exact r_lret hx hb hr hlocks hK hI hS (Qp := Q) h dX9_reaction_49
    · replace h := h.2 c11
      refine r_lconst (z := 0) hx hb dX9_reaction_36 rfl ?_
      exact r_lret hx hb hr hlocks hK hI hS (Qp := Q) h dX9_reaction_37
  unfold f9_reaction at h
  refine lv_aload_n hx hb dX9_reaction_0 rfl (lv_at hl 0 rfl) ?_
  refine lv_aload_n hx hb dX9_reaction_1 rfl (lv_at hl 0 rfl) ?_
  refine lv_iload_n hx hb dX9_reaction_2 rfl (lv_at hl 1 rfl) ?_
  refine r_calli (va_runV (As := [.int (iI a0)]) (rest := [.ref (G.2.2.1 9 0)]) ⟨hx, hb, hml, hown, hts⟩ (m9_isSupport l G hv_this _ st a0 h) (cwV 1 hts gX9_reaction_X9_isSupport rfl rfl rfl hd9_isSupport ⟨Nat.le_of_ble_eq_true rfl, Nat.le_of_ble_eq_true rfl⟩) (pre_V hK hX hI hA hS hv_this rfl rfl [.int (iI a0)]) rfl rfl hl.1 rfl (lv_room (Nat.le_of_ble_eq_true rfl)) dX9_reaction_3 ⟨Nat.le_of_ble_eq_true rfl, Nat.le_of_ble_eq_true rfl⟩) hS (fun z1 st2 h H locs hI hS => ?_)
  obtain ⟨g3, h⟩ := h
  refine r_if_ne (tgt := 13) hx hb dX9_reaction_6 (by decide) g3 (fun c4 => ?_) (fun c4 => ?_)
  · replace h := h.2 c4
    refine lv_aload_n hx hb dX9_reaction_13 rfl (lv_at hl 0 rfl) ?_
    refine lv_iload_n hx hb dX9_reaction_14 rfl (lv_at hl 2 rfl) ?_
    refine r_calli (va_runV (As := [.int (iI a1)]) (rest := [.ref (G.2.2.1 9 0)]) ⟨hx, hb, hml, hown, hts⟩ (m9_isHead l G hv_this _ st2 a1 h) (cwV 1 hts gX9_reaction_X9_isHead rfl rfl rfl hd9_isHead ⟨Nat.le_of_ble_eq_true rfl, Nat.le_of_ble_eq_true rfl⟩) (pre_V hK hX hI hA hS hv_this rfl rfl [.int (iI a1)]) rfl rfl hl.1 rfl (lv_room (Nat.le_of_ble_eq_true rfl)) dX9_reaction_15 ⟨Nat.le_of_ble_eq_true rfl, Nat.le_of_ble_eq_true rfl⟩) hS (fun z5 st6 h H locs hI hS => ?_)
    obtain ⟨g7, h⟩ := h
    refine r_if_eq (tgt := 25) hx hb dX9_reaction_18 (by decide) g7 (fun c8 => ?_) (fun c8 => ?_)
    · replace h := h.1 c8
      refine r_iconst (n := 2) hx hb dX9_reaction_25 ?_
      exact J26 st6 2 _ _ ls hI hS (lv_sub hl [0, 1, 2] rfl) h
    · replace h := h.2 c8
      refine r_iconst (n := 0) hx hb dX9_reaction_21 ?_
      refine lv_goto (tgt := 26) hx hb dX9_reaction_22 (by decide) ?_
      exact J26 st6 0 _ _ ls hI hS (lv_sub hl [0, 1, 2] rfl) h
  · replace h := h.1 c4
    refine r_iconst (n := 1) hx hb dX9_reaction_9 ?_
    refine lv_goto (tgt := 26) hx hb dX9_reaction_10 (by decide) ?_
    exact J26 st2 1 _ _ ls hI hS (lv_sub hl [0, 1, 2] rfl) h
theorem hd9_shear : yX9_shear.cls = RX9 ∧ yX9_shear.cls ≠ "java/lang/invoke/MethodHandle" ∧ yX9_shear.cls ≠ "java/lang/invoke/VarHandle" ∧ (parseMethodDescriptor yX9_shear.desc).map (fun d => d.parameters.length) = some 2 := by decide +kernel
set_option maxHeartbeats 4000000 in
set_option maxRecDepth 100000 in
theorem m9_shear (l : Launch) (G : WG)   (hv_this : vM 9 0) (Q : Int → St → Prop) (st : St) (a0 : Int) (a1 : Int) (h : f9_shear Q st a0 a1) : Met l yX9_shear wsX9_shear ({ frames := 4, cells := 0, slots := 0, locals := 108 }) (PcM vM G st [.ref (G.2.2.1 9 0), .int (iI a0), .int (iI a1)]) (QlM vM G Q) 0 0 G.2.2.2.1 := by
  refine Met.ofW (cc := cX9_shear) (maxL := 3) (ret := (some .long)) (by decide) rfl ?_
  intro p e s m args below meth c s₁ B hml hvv
  obtain ⟨rfl, hA, hI, hK, hX⟩ := hvv
  have hx := B.exec
  have hb := B.bytes
  have hr := B.returns
  have hts := atoms_spec (ws := wsX9_shear) B.pre
  have hown : s.vm.findClass RX9 = some m.cls := findClass_of_methodNamed B.named
  have hlocks := B.notSynchronized
  have hS : va_S G.2.2.2.1 s.heap s.heap [] := va_S.rf
  have in9 : ∀ w ∈ wsX90, w ∈ wsX9_shear := by decide +kernel
  have lk_46 := hts (.fieldLink RX9 46 "BeamLinesModel" "thrown" "I") (by decide +kernel)
  have hl := lv_entry ([.ref (G.2.2.1 9 0), .int (iI a0), .int (iI a1)]) (n := 3) (Nat.le_of_ble_eq_true rfl)
  rw [lg_entry_eq]
  generalize (lg_sl ([.ref (G.2.2.1 9 0), .int (iI a0), .int (iI a1)]) ++ List.replicate (3 - (lg_sl ([.ref (G.2.2.1 9 0), .int (iI a0), .int (iI a1)])).length) Slot.unset).toArray = ls at hl ⊢
  have hl : lv_has ls 3 [(0, .ref (G.2.2.1 9 0)), (1, .int (iI a0)), (2, .int (iI a1))] := hl
  have J26 : ∀ (st : St) (s0x26 : Int) (H : Heap) (locs : List Loc) (ls : Array Slot), Iv vM G st H → va_S G.2.2.2.1 s.heap H locs → lv_has ls 3 [(0, .ref (G.2.2.1 9 0)), (1, .int (iI a0)), (2, .int (iI a1))] → f9_shear_j26 Q a0 a1 st s0x26 → W p l e (headSpec wsX9_shear ({ frames := 4, cells := 0, slots := 0, locals := 108 })).room s m ([.ref (G.2.2.1 9 0), .int (iI a0), .int (iI a1)] : List Value).toArray below meth c H locs 0 0 (MQ below (QlM vM G Q) ([.ref (G.2.2.1 9 0), .int (iI a0), .int (iI a1)] : List Value).toArray s 0 0 G.2.2.2.1) (F0 m 26 ls [.int (iI s0x26), .ref (G.2.2.1 9 0)]) := by
    intro st s0x26 H locs ls hI hS hl h
    unfold f9_shear_j26 at h
    refine pp_9_6 hx hb hts in9 hown hK hI hS hv_this lk_46 dX9_shear_26 (fun st9 hst9 H locs hI hS => ?_)
    replace h := h st9 hst9
    refine lv_aload_n hx hb dX9_shear_29 rfl (lv_at hl 0 rfl) ?_
    refine gg_9_6 hx hb hts in9 hown hK hI hv_this lk_46 dX9_shear_30 ?_
    obtain ⟨g10, h⟩ := h
    refine r_if_le (tgt := 38) hx hb dX9_shear_33 (by decide) g10 (fun c11 => ?_) (fun c11 => ?_)
    · replace h := h.1 c11
      refine lv_aload_n hx hb dX9_shear_38 rfl (lv_at hl 0 rfl) ?_
      refine r_callv (va_runV (As := []) (rest := []) ⟨hx, hb, hml, hown, hts⟩ (m9_lays l G hv_this _ st9 h) (cwV 0 hts gX9_shear_X9_lays rfl rfl rfl hd9_lays ⟨Nat.le_of_ble_eq_true rfl, Nat.le_of_ble_eq_true rfl⟩) (pre_V hK hX hI hA hS hv_this rfl rfl []) rfl rfl hl.1 rfl (lv_room (Nat.le_of_ble_eq_true rfl)) dX9_shear_39 ⟨Nat.le_of_ble_eq_true rfl, Nat.le_of_ble_eq_true rfl⟩) hS (fun st13 h H locs hI hS => ?_)
      refine lv_aload_n hx hb dX9_shear_42 rfl (lv_at hl 0 rfl) ?_
      refine r_iconst (n := 1) hx hb dX9_shear_43 ?_
      refine lv_iload_n hx hb dX9_shear_44 rfl (lv_at hl 1 rfl) ?_
      refine lv_iload_n hx hb dX9_shear_45 rfl (lv_at hl 2 rfl) ?_
      refine r_calll (va_runV (As := [.int (iI 1), .int (iI a0), .int (iI a1)]) (rest := []) ⟨hx, hb, hml, hown, hts⟩ (m9_all l G hv_this _ st13 1 a0 a1 h) (cwV 3 hts gX9_shear_X9_all rfl rfl rfl hd9_all ⟨Nat.le_of_ble_eq_true rfl, Nat.le_of_ble_eq_true rfl⟩) (pre_V hK hX hI hA hS hv_this rfl rfl [.int (iI 1), .int (iI a0), .int (iI a1)]) rfl rfl hl.1 rfl (lv_room (Nat.le_of_ble_eq_true rfl)) dX9_shear_46 ⟨Nat.le_of_ble_eq_true rfl, Nat.le_of_ble_eq_true rfl⟩) hS (fun z14 st15 h H locs hI hS => ?_)
      exact r_lret hx hb hr hlocks hK hI hS (Qp := Q) h dX9_shear_49
    · replace h := h.2 c11
      refine r_lconst (z := 0) hx hb dX9_shear_36 rfl ?_
      exact r_lret hx hb hr hlocks hK hI hS (Qp := Q) h dX9_shear_37
  unfold f9_shear at h
  refine lv_aload_n hx hb dX9_shear_0 rfl (lv_at hl 0 rfl) ?_
  refine lv_aload_n hx hb dX9_shear_1 rfl (lv_at hl 0 rfl) ?_
  refine lv_iload_n hx hb dX9_shear_2 rfl (lv_at hl 1 rfl) ?_
  refine r_calli (va_runV (As := [.int (iI a0)]) (rest := [.ref (G.2.2.1 9 0)]) ⟨hx, hb, hml, hown, hts⟩ (m9_isField l G hv_this _ st a0 h) (cwV 1 hts gX9_shear_X9_isField rfl rfl rfl hd9_isField ⟨Nat.le_of_ble_eq_true rfl, Nat.le_of_ble_eq_true rfl⟩) (pre_V hK hX hI hA hS hv_this rfl rfl [.int (iI a0)]) rfl rfl hl.1 rfl (lv_room (Nat.le_of_ble_eq_true rfl)) dX9_shear_3 ⟨Nat.le_of_ble_eq_true rfl, Nat.le_of_ble_eq_true rfl⟩) hS (fun z1 st2 h H locs hI hS => ?_)
  obtain ⟨g3, h⟩ := h
  refine r_if_ne (tgt := 13) hx hb dX9_shear_6 (by decide) g3 (fun c4 => ?_) (fun c4 => ?_)
  · replace h := h.2 c4
    refine lv_aload_n hx hb dX9_shear_13 rfl (lv_at hl 0 rfl) ?_
    refine lv_iload_n hx hb dX9_shear_14 rfl (lv_at hl 2 rfl) ?_
    refine r_calli (va_runV (As := [.int (iI a1)]) (rest := [.ref (G.2.2.1 9 0)]) ⟨hx, hb, hml, hown, hts⟩ (m9_isHead l G hv_this _ st2 a1 h) (cwV 1 hts gX9_shear_X9_isHead rfl rfl rfl hd9_isHead ⟨Nat.le_of_ble_eq_true rfl, Nat.le_of_ble_eq_true rfl⟩) (pre_V hK hX hI hA hS hv_this rfl rfl [.int (iI a1)]) rfl rfl hl.1 rfl (lv_room (Nat.le_of_ble_eq_true rfl)) dX9_shear_15 ⟨Nat.le_of_ble_eq_true rfl, Nat.le_of_ble_eq_true rfl⟩) hS (fun z5 st6 h H locs hI hS => ?_)
    obtain ⟨g7, h⟩ := h
    refine r_if_eq (tgt := 25) hx hb dX9_shear_18 (by decide) g7 (fun c8 => ?_) (fun c8 => ?_)
    · replace h := h.1 c8
      refine r_iconst (n := 2) hx hb dX9_shear_25 ?_
      exact J26 st6 2 _ _ ls hI hS (lv_sub hl [0, 1, 2] rfl) h
    · replace h := h.2 c8
      refine r_iconst (n := 0) hx hb dX9_shear_21 ?_
      refine lv_goto (tgt := 26) hx hb dX9_shear_22 (by decide) ?_
      exact J26 st6 0 _ _ ls hI hS (lv_sub hl [0, 1, 2] rfl) h
  · replace h := h.1 c4
    refine r_iconst (n := 1) hx hb dX9_shear_9 ?_
    refine lv_goto (tgt := 26) hx hb dX9_shear_10 (by decide) ?_
    exact J26 st2 1 _ _ ls hI hS (lv_sub hl [0, 1, 2] rfl) h
theorem hd9_moment : yX9_moment.cls = RX9 ∧ yX9_moment.cls ≠ "java/lang/invoke/MethodHandle" ∧ yX9_moment.cls ≠ "java/lang/invoke/VarHandle" ∧ (parseMethodDescriptor yX9_moment.desc).map (fun d => d.parameters.length) = some 2 := by decide +kernel
set_option maxHeartbeats 4000000 in
set_option maxRecDepth 100000 in
theorem m9_moment (l : Launch) (G : WG)   (hv_this : vM 9 0) (Q : Int → St → Prop) (st : St) (a0 : Int) (a1 : Int) (h : f9_moment Q st a0 a1) : Met l yX9_moment wsX9_moment ({ frames := 4, cells := 0, slots := 0, locals := 108 }) (PcM vM G st [.ref (G.2.2.1 9 0), .int (iI a0), .int (iI a1)]) (QlM vM G Q) 0 0 G.2.2.2.1 := by
  refine Met.ofW (cc := cX9_moment) (maxL := 3) (ret := (some .long)) (by decide) rfl ?_
  intro p e s m args below meth c s₁ B hml hvv
  obtain ⟨rfl, hA, hI, hK, hX⟩ := hvv
  have hx := B.exec
  have hb := B.bytes
  have hr := B.returns
  have hts := atoms_spec (ws := wsX9_moment) B.pre
  have hown : s.vm.findClass RX9 = some m.cls := findClass_of_methodNamed B.named
  have hlocks := B.notSynchronized
  have hS : va_S G.2.2.2.1 s.heap s.heap [] := va_S.rf
  have in9 : ∀ w ∈ wsX90, w ∈ wsX9_moment := by decide +kernel
  have lk_46 := hts (.fieldLink RX9 46 "BeamLinesModel" "thrown" "I") (by decide +kernel)
  have hl := lv_entry ([.ref (G.2.2.1 9 0), .int (iI a0), .int (iI a1)]) (n := 3) (Nat.le_of_ble_eq_true rfl)
  rw [lg_entry_eq]
  generalize (lg_sl ([.ref (G.2.2.1 9 0), .int (iI a0), .int (iI a1)]) ++ List.replicate (3 - (lg_sl ([.ref (G.2.2.1 9 0), .int (iI a0), .int (iI a1)])).length) Slot.unset).toArray = ls at hl ⊢
  have hl : lv_has ls 3 [(0, .ref (G.2.2.1 9 0)), (1, .int (iI a0)), (2, .int (iI a1))] := hl
  have J26 : ∀ (st : St) (s0x26 : Int) (H : Heap) (locs : List Loc) (ls : Array Slot), Iv vM G st H → va_S G.2.2.2.1 s.heap H locs → lv_has ls 3 [(0, .ref (G.2.2.1 9 0)), (1, .int (iI a0)), (2, .int (iI a1))] → f9_moment_j26 Q a0 a1 st s0x26 → W p l e (headSpec wsX9_moment ({ frames := 4, cells := 0, slots := 0, locals := 108 })).room s m ([.ref (G.2.2.1 9 0), .int (iI a0), .int (iI a1)] : List Value).toArray below meth c H locs 0 0 (MQ below (QlM vM G Q) ([.ref (G.2.2.1 9 0), .int (iI a0), .int (iI a1)] : List Value).toArray s 0 0 G.2.2.2.1) (F0 m 26 ls [.int (iI s0x26), .ref (G.2.2.1 9 0)]) := by
    intro st s0x26 H locs ls hI hS hl h
    unfold f9_moment_j26 at h
    refine pp_9_6 hx hb hts in9 hown hK hI hS hv_this lk_46 dX9_moment_26 (fun st9 hst9 H locs hI hS => ?_)
    replace h := h st9 hst9
    refine lv_aload_n hx hb dX9_moment_29 rfl (lv_at hl 0 rfl) ?_
    refine gg_9_6 hx hb hts in9 hown hK hI hv_this lk_46 dX9_moment_30 ?_
    obtain ⟨g10, h⟩ := h
    refine r_if_le (tgt := 38) hx hb dX9_moment_33 (by decide) g10 (fun c11 => ?_) (fun c11 => ?_)
    · replace h := h.1 c11
      refine lv_aload_n hx hb dX9_moment_38 rfl (lv_at hl 0 rfl) ?_
      refine r_callv (va_runV (As := []) (rest := []) ⟨hx, hb, hml, hown, hts⟩ (m9_lays l G hv_this _ st9 h) (cwV 0 hts gX9_moment_X9_lays rfl rfl rfl hd9_lays ⟨Nat.le_of_ble_eq_true rfl, Nat.le_of_ble_eq_true rfl⟩) (pre_V hK hX hI hA hS hv_this rfl rfl []) rfl rfl hl.1 rfl (lv_room (Nat.le_of_ble_eq_true rfl)) dX9_moment_39 ⟨Nat.le_of_ble_eq_true rfl, Nat.le_of_ble_eq_true rfl⟩) hS (fun st13 h H locs hI hS => ?_)
      refine lv_aload_n hx hb dX9_moment_42 rfl (lv_at hl 0 rfl) ?_
      refine r_iconst (n := 2) hx hb dX9_moment_43 ?_
      refine lv_iload_n hx hb dX9_moment_44 rfl (lv_at hl 1 rfl) ?_
      refine lv_iload_n hx hb dX9_moment_45 rfl (lv_at hl 2 rfl) ?_
      refine r_calll (va_runV (As := [.int (iI 2), .int (iI a0), .int (iI a1)]) (rest := []) ⟨hx, hb, hml, hown, hts⟩ (m9_all l G hv_this _ st13 2 a0 a1 h) (cwV 3 hts gX9_moment_X9_all rfl rfl rfl hd9_all ⟨Nat.le_of_ble_eq_true rfl, Nat.le_of_ble_eq_true rfl⟩) (pre_V hK hX hI hA hS hv_this rfl rfl [.int (iI 2), .int (iI a0), .int (iI a1)]) rfl rfl hl.1 rfl (lv_room (Nat.le_of_ble_eq_true rfl)) dX9_moment_46 ⟨Nat.le_of_ble_eq_true rfl, Nat.le_of_ble_eq_true rfl⟩) hS (fun z14 st15 h H locs hI hS => ?_)
      exact r_lret hx hb hr hlocks hK hI hS (Qp := Q) h dX9_moment_49
    · replace h := h.2 c11
      refine r_lconst (z := 0) hx hb dX9_moment_36 rfl ?_
      exact r_lret hx hb hr hlocks hK hI hS (Qp := Q) h dX9_moment_37
  unfold f9_moment at h
  refine lv_aload_n hx hb dX9_moment_0 rfl (lv_at hl 0 rfl) ?_
  refine lv_aload_n hx hb dX9_moment_1 rfl (lv_at hl 0 rfl) ?_
  refine lv_iload_n hx hb dX9_moment_2 rfl (lv_at hl 1 rfl) ?_
  refine r_calli (va_runV (As := [.int (iI a0)]) (rest := [.ref (G.2.2.1 9 0)]) ⟨hx, hb, hml, hown, hts⟩ (m9_isPlace l G hv_this _ st a0 h) (cwV 1 hts gX9_moment_X9_isPlace rfl rfl rfl hd9_isPlace ⟨Nat.le_of_ble_eq_true rfl, Nat.le_of_ble_eq_true rfl⟩) (pre_V hK hX hI hA hS hv_this rfl rfl [.int (iI a0)]) rfl rfl hl.1 rfl (lv_room (Nat.le_of_ble_eq_true rfl)) dX9_moment_3 ⟨Nat.le_of_ble_eq_true rfl, Nat.le_of_ble_eq_true rfl⟩) hS (fun z1 st2 h H locs hI hS => ?_)
  obtain ⟨g3, h⟩ := h
  refine r_if_ne (tgt := 13) hx hb dX9_moment_6 (by decide) g3 (fun c4 => ?_) (fun c4 => ?_)
  · replace h := h.2 c4
    refine lv_aload_n hx hb dX9_moment_13 rfl (lv_at hl 0 rfl) ?_
    refine lv_iload_n hx hb dX9_moment_14 rfl (lv_at hl 2 rfl) ?_
    refine r_calli (va_runV (As := [.int (iI a1)]) (rest := [.ref (G.2.2.1 9 0)]) ⟨hx, hb, hml, hown, hts⟩ (m9_isHead l G hv_this _ st2 a1 h) (cwV 1 hts gX9_moment_X9_isHead rfl rfl rfl hd9_isHead ⟨Nat.le_of_ble_eq_true rfl, Nat.le_of_ble_eq_true rfl⟩) (pre_V hK hX hI hA hS hv_this rfl rfl [.int (iI a1)]) rfl rfl hl.1 rfl (lv_room (Nat.le_of_ble_eq_true rfl)) dX9_moment_15 ⟨Nat.le_of_ble_eq_true rfl, Nat.le_of_ble_eq_true rfl⟩) hS (fun z5 st6 h H locs hI hS => ?_)
    obtain ⟨g7, h⟩ := h
    refine r_if_eq (tgt := 25) hx hb dX9_moment_18 (by decide) g7 (fun c8 => ?_) (fun c8 => ?_)
    · replace h := h.1 c8
      refine r_iconst (n := 2) hx hb dX9_moment_25 ?_
      exact J26 st6 2 _ _ ls hI hS (lv_sub hl [0, 1, 2] rfl) h
    · replace h := h.2 c8
      refine r_iconst (n := 0) hx hb dX9_moment_21 ?_
      refine lv_goto (tgt := 26) hx hb dX9_moment_22 (by decide) ?_
      exact J26 st6 0 _ _ ls hI hS (lv_sub hl [0, 1, 2] rfl) h
  · replace h := h.1 c4
    refine r_iconst (n := 1) hx hb dX9_moment_9 ?_
    refine lv_goto (tgt := 26) hx hb dX9_moment_10 (by decide) ?_
    exact J26 st2 1 _ _ ls hI hS (lv_sub hl [0, 1, 2] rfl) h
theorem hd9_worst : yX9_worst.cls = RX9 ∧ yX9_worst.cls ≠ "java/lang/invoke/MethodHandle" ∧ yX9_worst.cls ≠ "java/lang/invoke/VarHandle" ∧ (parseMethodDescriptor yX9_worst.desc).map (fun d => d.parameters.length) = some 3 := by decide +kernel
set_option maxHeartbeats 4000000 in
set_option maxRecDepth 100000 in
theorem m9_worst (l : Launch) (G : WG)   (hv_this : vM 9 0) (Q : Int → St → Prop) (st : St) (a0 : Int) (a1 : Int) (a2 : Int) (h : f9_worst Q st a0 a1 a2) : Met l yX9_worst wsX9_worst ({ frames := 4, cells := 0, slots := 0, locals := 108 }) (PcM vM G st [.ref (G.2.2.1 9 0), .int (iI a0), .int (iI a1), .int (iI a2)]) (QiM vM G Q) 0 0 G.2.2.2.1 := by
  refine Met.ofW (cc := cX9_worst) (maxL := 10) (ret := (some .int)) (by decide) rfl ?_
  intro p e s m args below meth c s₁ B hml hvv
  obtain ⟨rfl, hA, hI, hK, hX⟩ := hvv
  have hx := B.exec
  have hb := B.bytes
  have hr := B.returns
  have hts := atoms_spec (ws := wsX9_worst) B.pre
  have hown : s.vm.findClass RX9 = some m.cls := findClass_of_methodNamed B.named
  have hlocks := B.notSynchronized
  have hS : va_S G.2.2.2.1 s.heap s.heap [] := va_S.rf
  have hl := lv_entry ([.ref (G.2.2.1 9 0), .int (iI a0), .int (iI a1), .int (iI a2)]) (n := 10) (Nat.le_of_ble_eq_true rfl)
  rw [lg_entry_eq]
  generalize (lg_sl ([.ref (G.2.2.1 9 0), .int (iI a0), .int (iI a1), .int (iI a2)]) ++ List.replicate (10 - (lg_sl ([.ref (G.2.2.1 9 0), .int (iI a0), .int (iI a1), .int (iI a2)])).length) Slot.unset).toArray = ls at hl ⊢
  have hl : lv_has ls 10 [(0, .ref (G.2.2.1 9 0)), (1, .int (iI a0)), (2, .int (iI a1)), (3, .int (iI a2))] := hl
  have L19 : ∀ (n19 : Nat), ∀ (st : St) (v4x19 : Int) (v5x19 : Int) (v7x19 : Int) (H : Heap) (locs : List Loc) (ls : Array Slot), Iv vM G st H → va_S G.2.2.2.1 s.heap H locs → lv_has ls 10 [(0, .ref (G.2.2.1 9 0)), (1, .int (iI a0)), (2, .int (iI a1)), (3, .int (iI a2)), (4, .int (iI v4x19)), (5, .long (lI v5x19)), (7, .int (iI v7x19))] → f9_worst_l19 Q a0 a1 a2 n19 st v4x19 v5x19 v7x19 → W p l e (headSpec wsX9_worst ({ frames := 4, cells := 0, slots := 0, locals := 108 })).room s m ([.ref (G.2.2.1 9 0), .int (iI a0), .int (iI a1), .int (iI a2)] : List Value).toArray below meth c H locs 0 0 (MQ below (QiM vM G Q) ([.ref (G.2.2.1 9 0), .int (iI a0), .int (iI a1), .int (iI a2)] : List Value).toArray s 0 0 G.2.2.2.1) (F0 m 19 ls []) := by
    intro n19
    induction n19 with
    | zero =>
      intro st v4x19 v5x19 v7x19 H locs ls hI hS hl h
      exact h.elim
    | succ n19 ih19 =>
      have J72 : ∀ (st : St) (v4x72 : Int) (v5x72 : Int) (v7x72 : Int) (H : Heap) (locs : List Loc) (ls : Array Slot), Iv vM G st H → va_S G.2.2.2.1 s.heap H locs → lv_has ls 10 [(0, .ref (G.2.2.1 9 0)), (1, .int (iI a0)), (2, .int (iI a1)), (3, .int (iI a2)), (4, .int (iI v4x72)), (5, .long (lI v5x72)), (7, .int (iI v7x72))] → f9_worst_j72 (fun st v4x19 v5x19 v7x19 => f9_worst_l19 Q a0 a1 a2 n19 st v4x19 v5x19 v7x19) Q a0 a1 a2 st v4x72 v5x72 v7x72 → W p l e (headSpec wsX9_worst ({ frames := 4, cells := 0, slots := 0, locals := 108 })).room s m ([.ref (G.2.2.1 9 0), .int (iI a0), .int (iI a1), .int (iI a2)] : List Value).toArray below meth c H locs 0 0 (MQ below (QiM vM G Q) ([.ref (G.2.2.1 9 0), .int (iI a0), .int (iI a1), .int (iI a2)] : List Value).toArray s 0 0 G.2.2.2.1) (F0 m 72 ls []) := by
        intro st v4x72 v5x72 v7x72 H locs ls hI hS hl h
        unfold f9_worst_j72 at h
        obtain ⟨x20, hx20⟩ : ∃ z : Int, z = v7x72 + 1 := ⟨_, rfl⟩
        replace h := h x20 hx20
        refine lv_iinc (v := iI x20) (lv' := [(7, .int (iI x20)), (0, .ref (G.2.2.1 9 0)), (1, .int (iI a0)), (2, .int (iI a1)), (3, .int (iI a2)), (4, .int (iI v4x72)), (5, .long (lI v5x72))]) hx hb dX9_worst_72 hl (k := 6) rfl (by rw [hx20]; exact iI_add _ _) (by decide) rfl (fun ls hl => ?_)
        refine lv_goto (tgt := 19) hx hb dX9_worst_75 (by decide) ?_
        exact ih19 st v4x72 v5x72 x20 _ _ ls hI hS (lv_sub hl [1, 2, 3, 4, 5, 6, 0] rfl) h
      have J64 : ∀ (st : St) (v7x64 : Int) (v8x64 : Int) (H : Heap) (locs : List Loc) (ls : Array Slot), Iv vM G st H → va_S G.2.2.2.1 s.heap H locs → lv_has ls 10 [(0, .ref (G.2.2.1 9 0)), (1, .int (iI a0)), (2, .int (iI a1)), (3, .int (iI a2)), (7, .int (iI v7x64)), (8, .long (lI v8x64))] → f9_worst_j64 (fun st v4x19 v5x19 v7x19 => f9_worst_l19 Q a0 a1 a2 n19 st v4x19 v5x19 v7x19) Q a0 a1 a2 st v7x64 v8x64 → W p l e (headSpec wsX9_worst ({ frames := 4, cells := 0, slots := 0, locals := 108 })).room s m ([.ref (G.2.2.1 9 0), .int (iI a0), .int (iI a1), .int (iI a2)] : List Value).toArray below meth c H locs 0 0 (MQ below (QiM vM G Q) ([.ref (G.2.2.1 9 0), .int (iI a0), .int (iI a1), .int (iI a2)] : List Value).toArray s 0 0 G.2.2.2.1) (F0 m 64 ls []) := by
        intro st v7x64 v8x64 H locs ls hI hS hl h
        unfold f9_worst_j64 at h
        refine lv_lload hx hb dX9_worst_64 (lv_at hl 5 rfl) ?_
        refine lv_lstore (lv' := [(5, .long (lI v8x64)), (0, .ref (G.2.2.1 9 0)), (1, .int (iI a0)), (2, .int (iI a1)), (3, .int (iI a2)), (7, .int (iI v7x64)), (8, .long (lI v8x64))]) hx hb dX9_worst_66 hl (by decide) rfl (fun ls hl => ?_)
        refine lv_iload hx hb dX9_worst_68 (lv_at hl 5 rfl) ?_
        refine lv_istore (lv' := [(4, .int (iI v7x64)), (5, .long (lI v8x64)), (0, .ref (G.2.2.1 9 0)), (1, .int (iI a0)), (2, .int (iI a1)), (3, .int (iI a2)), (7, .int (iI v7x64)), (8, .long (lI v8x64))]) hx hb dX9_worst_70 hl (by decide) rfl (fun ls hl => ?_)
        exact J72 st v7x64 v8x64 v7x64 _ _ ls hI hS (lv_sub hl [2, 3, 4, 5, 0, 1, 6] rfl) h
      intro st v4x19 v5x19 v7x19 H locs ls hI hS hl h
      unfold f9_worst_l19 at h
      refine lv_iload hx hb dX9_worst_19 (lv_at hl 6 rfl) ?_
      refine lv_aload_n hx hb dX9_worst_21 rfl (lv_at hl 0 rfl) ?_
      refine r_calli (va_runV (As := []) (rest := [.int (iI v7x19)]) ⟨hx, hb, hml, hown, hts⟩ (m9_lastHead l G hv_this _ st h) (cwV 0 hts gX9_worst_X9_lastHead rfl rfl rfl hd9_lastHead ⟨Nat.le_of_ble_eq_true rfl, Nat.le_of_ble_eq_true rfl⟩) (pre_V hK hX hI hA hS hv_this rfl rfl []) rfl rfl hl.1 rfl (lv_room (Nat.le_of_ble_eq_true rfl)) dX9_worst_22 ⟨Nat.le_of_ble_eq_true rfl, Nat.le_of_ble_eq_true rfl⟩) hS (fun z5 st6 h H locs hI hS => ?_)
      obtain ⟨g7, h⟩ := h
      obtain ⟨g8, h⟩ := h
      refine r_icmp_gt (tgt := 78) hx hb dX9_worst_25 (by decide) g7 g8 (fun c9 => ?_) (fun c9 => ?_)
      · replace h := h.1 c9
        refine lv_iload hx hb dX9_worst_78 (lv_at hl 4 rfl) ?_
        exact r_iret hx hb hr hlocks hK hI hS (Qp := Q) h dX9_worst_80
      · replace h := h.2 c9
        refine lv_aload_n hx hb dX9_worst_28 rfl (lv_at hl 0 rfl) ?_
        refine lv_iload_n hx hb dX9_worst_29 rfl (lv_at hl 1 rfl) ?_
        refine lv_iload_n hx hb dX9_worst_30 rfl (lv_at hl 2 rfl) ?_
        refine lv_iload hx hb dX9_worst_31 (lv_at hl 6 rfl) ?_
        refine r_calll (va_runV (As := [.int (iI a0), .int (iI a1), .int (iI v7x19)]) (rest := []) ⟨hx, hb, hml, hown, hts⟩ (m9_all l G hv_this _ st6 a0 a1 v7x19 h) (cwV 3 hts gX9_worst_X9_all rfl rfl rfl hd9_all ⟨Nat.le_of_ble_eq_true rfl, Nat.le_of_ble_eq_true rfl⟩) (pre_V hK hX hI hA hS hv_this rfl rfl [.int (iI a0), .int (iI a1), .int (iI v7x19)]) rfl rfl hl.1 rfl (lv_room (Nat.le_of_ble_eq_true rfl)) dX9_worst_33 ⟨Nat.le_of_ble_eq_true rfl, Nat.le_of_ble_eq_true rfl⟩) hS (fun z10 st11 h H locs hI hS => ?_)
        refine lv_lstore (lv' := [(8, .long (lI z10)), (0, .ref (G.2.2.1 9 0)), (1, .int (iI a0)), (2, .int (iI a1)), (3, .int (iI a2)), (4, .int (iI v4x19)), (5, .long (lI v5x19)), (7, .int (iI v7x19))]) hx hb dX9_worst_36 hl (by decide) rfl (fun ls hl => ?_)
        refine lv_iload_n hx hb dX9_worst_38 rfl (lv_at hl 4 rfl) ?_
        obtain ⟨g12, h⟩ := h
        refine r_if_eq (tgt := 53) hx hb dX9_worst_39 (by decide) g12 (fun c13 => ?_) (fun c13 => ?_)
        · replace h := h.1 c13
          refine lv_lload hx hb dX9_worst_53 (lv_at hl 0 rfl) ?_
          refine lv_lload hx hb dX9_worst_55 (lv_at hl 6 rfl) ?_
          obtain ⟨g14, h⟩ := h
          obtain ⟨g15, h⟩ := h
          refine r_lcmp_lt (tgt := 64) hx hb dX9_worst_57 dX9_worst_58 (by decide) g14 g15 (fun c16 => ?_) (fun c16 => ?_)
          · replace h := h.1 c16
            exact J64 st11 v7x19 z10 _ _ ls hI hS (lv_sub hl [1, 2, 3, 4, 7, 0] rfl) h
          · replace h := h.2 c16
            refine lv_goto (tgt := 72) hx hb dX9_worst_61 (by decide) ?_
            exact J72 st11 v4x19 v5x19 v7x19 _ _ ls hI hS (lv_sub hl [1, 2, 3, 4, 5, 6, 7] rfl) h
        · replace h := h.2 c13
          refine lv_lload hx hb dX9_worst_42 (lv_at hl 0 rfl) ?_
          refine lv_lload hx hb dX9_worst_44 (lv_at hl 6 rfl) ?_
          obtain ⟨g17, h⟩ := h
          obtain ⟨g18, h⟩ := h
          refine r_lcmp_gt (tgt := 64) hx hb dX9_worst_46 dX9_worst_47 (by decide) g17 g18 (fun c19 => ?_) (fun c19 => ?_)
          · replace h := h.1 c19
            exact J64 st11 v7x19 z10 _ _ ls hI hS (lv_sub hl [1, 2, 3, 4, 7, 0] rfl) h
          · replace h := h.2 c19
            refine lv_goto (tgt := 72) hx hb dX9_worst_50 (by decide) ?_
            exact J72 st11 v4x19 v5x19 v7x19 _ _ ls hI hS (lv_sub hl [1, 2, 3, 4, 5, 6, 7] rfl) h
  unfold f9_worst at h
  refine lv_aload_n hx hb dX9_worst_0 rfl (lv_at hl 0 rfl) ?_
  refine r_callv (va_runV (As := []) (rest := []) ⟨hx, hb, hml, hown, hts⟩ (m9_lays l G hv_this _ st h) (cwV 0 hts gX9_worst_X9_lays rfl rfl rfl hd9_lays ⟨Nat.le_of_ble_eq_true rfl, Nat.le_of_ble_eq_true rfl⟩) (pre_V hK hX hI hA hS hv_this rfl rfl []) rfl rfl hl.1 rfl (lv_room (Nat.le_of_ble_eq_true rfl)) dX9_worst_1 ⟨Nat.le_of_ble_eq_true rfl, Nat.le_of_ble_eq_true rfl⟩) hS (fun st2 h H locs hI hS => ?_)
  refine r_iconst (n := 0) hx hb dX9_worst_4 ?_
  refine lv_istore (lv' := [(4, .int (iI 0)), (0, .ref (G.2.2.1 9 0)), (1, .int (iI a0)), (2, .int (iI a1)), (3, .int (iI a2))]) hx hb dX9_worst_5 hl (by decide) rfl (fun ls hl => ?_)
  refine lv_aload_n hx hb dX9_worst_7 rfl (lv_at hl 1 rfl) ?_
  refine lv_iload_n hx hb dX9_worst_8 rfl (lv_at hl 2 rfl) ?_
  refine lv_iload_n hx hb dX9_worst_9 rfl (lv_at hl 3 rfl) ?_
  refine r_iconst (n := 0) hx hb dX9_worst_10 ?_
  refine r_calll (va_runV (As := [.int (iI a0), .int (iI a1), .int (iI 0)]) (rest := []) ⟨hx, hb, hml, hown, hts⟩ (m9_all l G hv_this _ st2 a0 a1 0 h) (cwV 3 hts gX9_worst_X9_all rfl rfl rfl hd9_all ⟨Nat.le_of_ble_eq_true rfl, Nat.le_of_ble_eq_true rfl⟩) (pre_V hK hX hI hA hS hv_this rfl rfl [.int (iI a0), .int (iI a1), .int (iI 0)]) rfl rfl hl.1 rfl (lv_room (Nat.le_of_ble_eq_true rfl)) dX9_worst_11 ⟨Nat.le_of_ble_eq_true rfl, Nat.le_of_ble_eq_true rfl⟩) hS (fun z3 st4 h H locs hI hS => ?_)
  refine lv_lstore (lv' := [(5, .long (lI z3)), (4, .int (iI 0)), (0, .ref (G.2.2.1 9 0)), (1, .int (iI a0)), (2, .int (iI a1)), (3, .int (iI a2))]) hx hb dX9_worst_14 hl (by decide) rfl (fun ls hl => ?_)
  refine r_iconst (n := 1) hx hb dX9_worst_16 ?_
  refine lv_istore (lv' := [(7, .int (iI 1)), (5, .long (lI z3)), (4, .int (iI 0)), (0, .ref (G.2.2.1 9 0)), (1, .int (iI a0)), (2, .int (iI a1)), (3, .int (iI a2))]) hx hb dX9_worst_17 hl (by decide) rfl (fun ls hl => ?_)
  obtain ⟨kk, h⟩ := h
  exact L19 kk st4 0 z3 1 _ _ ls hI hS (lv_sub hl [3, 4, 5, 6, 2, 1, 0] rfl) h
theorem hd9_worstForReaction : yX9_worstForReaction.cls = RX9 ∧ yX9_worstForReaction.cls ≠ "java/lang/invoke/MethodHandle" ∧ yX9_worstForReaction.cls ≠ "java/lang/invoke/VarHandle" ∧ (parseMethodDescriptor yX9_worstForReaction.desc).map (fun d => d.parameters.length) = some 2 := by decide +kernel
set_option maxHeartbeats 4000000 in
set_option maxRecDepth 100000 in
theorem m9_worstForReaction (l : Launch) (G : WG)   (hv_this : vM 9 0) (Q : Int → St → Prop) (st : St) (a0 : Int) (a1 : Int) (h : f9_worstForReaction Q st a0 a1) : Met l yX9_worstForReaction wsX9_worstForReaction ({ frames := 5, cells := 0, slots := 0, locals := 137 }) (PcM vM G st [.ref (G.2.2.1 9 0), .int (iI a0), .int (iI a1)]) (QiM vM G Q) 0 0 G.2.2.2.1 := by
  refine Met.ofW (cc := cX9_worstForReaction) (maxL := 3) (ret := (some .int)) (by decide) rfl ?_
  intro p e s m args below meth c s₁ B hml hvv
  obtain ⟨rfl, hA, hI, hK, hX⟩ := hvv
  have hx := B.exec
  have hb := B.bytes
  have hr := B.returns
  have hts := atoms_spec (ws := wsX9_worstForReaction) B.pre
  have hown : s.vm.findClass RX9 = some m.cls := findClass_of_methodNamed B.named
  have hlocks := B.notSynchronized
  have hS : va_S G.2.2.2.1 s.heap s.heap [] := va_S.rf
  have in9 : ∀ w ∈ wsX90, w ∈ wsX9_worstForReaction := by decide +kernel
  have lk_46 := hts (.fieldLink RX9 46 "BeamLinesModel" "thrown" "I") (by decide +kernel)
  have hl := lv_entry ([.ref (G.2.2.1 9 0), .int (iI a0), .int (iI a1)]) (n := 3) (Nat.le_of_ble_eq_true rfl)
  rw [lg_entry_eq]
  generalize (lg_sl ([.ref (G.2.2.1 9 0), .int (iI a0), .int (iI a1)]) ++ List.replicate (3 - (lg_sl ([.ref (G.2.2.1 9 0), .int (iI a0), .int (iI a1)])).length) Slot.unset).toArray = ls at hl ⊢
  have hl : lv_has ls 3 [(0, .ref (G.2.2.1 9 0)), (1, .int (iI a0)), (2, .int (iI a1))] := hl
  have J14 : ∀ (st : St) (s0x14 : Int) (H : Heap) (locs : List Loc) (ls : Array Slot), Iv vM G st H → va_S G.2.2.2.1 s.heap H locs → lv_has ls 3 [(0, .ref (G.2.2.1 9 0)), (1, .int (iI a0)), (2, .int (iI a1))] → f9_worstForReaction_j14 Q a0 a1 st s0x14 → W p l e (headSpec wsX9_worstForReaction ({ frames := 5, cells := 0, slots := 0, locals := 137 })).room s m ([.ref (G.2.2.1 9 0), .int (iI a0), .int (iI a1)] : List Value).toArray below meth c H locs 0 0 (MQ below (QiM vM G Q) ([.ref (G.2.2.1 9 0), .int (iI a0), .int (iI a1)] : List Value).toArray s 0 0 G.2.2.2.1) (F0 m 14 ls [.int (iI s0x14), .ref (G.2.2.1 9 0)]) := by
    intro st s0x14 H locs ls hI hS hl h
    unfold f9_worstForReaction_j14 at h
    refine pp_9_6 hx hb hts in9 hown hK hI hS hv_this lk_46 dX9_worstForReaction_14 (fun st5 hst5 H locs hI hS => ?_)
    replace h := h st5 hst5
    refine lv_aload_n hx hb dX9_worstForReaction_17 rfl (lv_at hl 0 rfl) ?_
    refine gg_9_6 hx hb hts in9 hown hK hI hv_this lk_46 dX9_worstForReaction_18 ?_
    obtain ⟨g6, h⟩ := h
    refine r_if_le (tgt := 28) hx hb dX9_worstForReaction_21 (by decide) g6 (fun c7 => ?_) (fun c7 => ?_)
    · replace h := h.1 c7
      refine lv_aload_n hx hb dX9_worstForReaction_28 rfl (lv_at hl 0 rfl) ?_
      refine r_iconst (n := 0) hx hb dX9_worstForReaction_29 ?_
      refine lv_iload_n hx hb dX9_worstForReaction_30 rfl (lv_at hl 1 rfl) ?_
      refine lv_iload_n hx hb dX9_worstForReaction_31 rfl (lv_at hl 2 rfl) ?_
      refine r_calli (va_runV (As := [.int (iI 0), .int (iI a0), .int (iI a1)]) (rest := []) ⟨hx, hb, hml, hown, hts⟩ (m9_worst l G hv_this _ st5 0 a0 a1 h) (cwV 3 hts gX9_worstForReaction_X9_worst rfl rfl rfl hd9_worst ⟨Nat.le_of_ble_eq_true rfl, Nat.le_of_ble_eq_true rfl⟩) (pre_V hK hX hI hA hS hv_this rfl rfl [.int (iI 0), .int (iI a0), .int (iI a1)]) rfl rfl hl.1 rfl (lv_room (Nat.le_of_ble_eq_true rfl)) dX9_worstForReaction_32 ⟨Nat.le_of_ble_eq_true rfl, Nat.le_of_ble_eq_true rfl⟩) hS (fun z8 st9 h H locs hI hS => ?_)
      exact r_iret hx hb hr hlocks hK hI hS (Qp := Q) h dX9_worstForReaction_35
    · replace h := h.2 c7
      refine r_iconst (n := 0) hx hb dX9_worstForReaction_24 ?_
      refine lv_goto (tgt := 35) hx hb dX9_worstForReaction_25 (by decide) ?_
      exact r_iret hx hb hr hlocks hK hI hS (Qp := Q) h dX9_worstForReaction_35
  unfold f9_worstForReaction at h
  refine lv_aload_n hx hb dX9_worstForReaction_0 rfl (lv_at hl 0 rfl) ?_
  refine lv_aload_n hx hb dX9_worstForReaction_1 rfl (lv_at hl 0 rfl) ?_
  refine lv_iload_n hx hb dX9_worstForReaction_2 rfl (lv_at hl 1 rfl) ?_
  refine r_calli (va_runV (As := [.int (iI a0)]) (rest := [.ref (G.2.2.1 9 0)]) ⟨hx, hb, hml, hown, hts⟩ (m9_isSupport l G hv_this _ st a0 h) (cwV 1 hts gX9_worstForReaction_X9_isSupport rfl rfl rfl hd9_isSupport ⟨Nat.le_of_ble_eq_true rfl, Nat.le_of_ble_eq_true rfl⟩) (pre_V hK hX hI hA hS hv_this rfl rfl [.int (iI a0)]) rfl rfl hl.1 rfl (lv_room (Nat.le_of_ble_eq_true rfl)) dX9_worstForReaction_3 ⟨Nat.le_of_ble_eq_true rfl, Nat.le_of_ble_eq_true rfl⟩) hS (fun z1 st2 h H locs hI hS => ?_)
  obtain ⟨g3, h⟩ := h
  refine r_if_eq (tgt := 13) hx hb dX9_worstForReaction_6 (by decide) g3 (fun c4 => ?_) (fun c4 => ?_)
  · replace h := h.1 c4
    refine r_iconst (n := 1) hx hb dX9_worstForReaction_13 ?_
    exact J14 st2 1 _ _ ls hI hS (lv_sub hl [0, 1, 2] rfl) h
  · replace h := h.2 c4
    refine r_iconst (n := 0) hx hb dX9_worstForReaction_9 ?_
    refine lv_goto (tgt := 14) hx hb dX9_worstForReaction_10 (by decide) ?_
    exact J14 st2 0 _ _ ls hI hS (lv_sub hl [0, 1, 2] rfl) h
theorem hd9_worstForShear : yX9_worstForShear.cls = RX9 ∧ yX9_worstForShear.cls ≠ "java/lang/invoke/MethodHandle" ∧ yX9_worstForShear.cls ≠ "java/lang/invoke/VarHandle" ∧ (parseMethodDescriptor yX9_worstForShear.desc).map (fun d => d.parameters.length) = some 2 := by decide +kernel
set_option maxHeartbeats 4000000 in
set_option maxRecDepth 100000 in
theorem m9_worstForShear (l : Launch) (G : WG)   (hv_this : vM 9 0) (Q : Int → St → Prop) (st : St) (a0 : Int) (a1 : Int) (h : f9_worstForShear Q st a0 a1) : Met l yX9_worstForShear wsX9_worstForShear ({ frames := 5, cells := 0, slots := 0, locals := 137 }) (PcM vM G st [.ref (G.2.2.1 9 0), .int (iI a0), .int (iI a1)]) (QiM vM G Q) 0 0 G.2.2.2.1 := by
  refine Met.ofW (cc := cX9_worstForShear) (maxL := 3) (ret := (some .int)) (by decide) rfl ?_
  intro p e s m args below meth c s₁ B hml hvv
  obtain ⟨rfl, hA, hI, hK, hX⟩ := hvv
  have hx := B.exec
  have hb := B.bytes
  have hr := B.returns
  have hts := atoms_spec (ws := wsX9_worstForShear) B.pre
  have hown : s.vm.findClass RX9 = some m.cls := findClass_of_methodNamed B.named
  have hlocks := B.notSynchronized
  have hS : va_S G.2.2.2.1 s.heap s.heap [] := va_S.rf
  have in9 : ∀ w ∈ wsX90, w ∈ wsX9_worstForShear := by decide +kernel
  have lk_46 := hts (.fieldLink RX9 46 "BeamLinesModel" "thrown" "I") (by decide +kernel)
  have hl := lv_entry ([.ref (G.2.2.1 9 0), .int (iI a0), .int (iI a1)]) (n := 3) (Nat.le_of_ble_eq_true rfl)
  rw [lg_entry_eq]
  generalize (lg_sl ([.ref (G.2.2.1 9 0), .int (iI a0), .int (iI a1)]) ++ List.replicate (3 - (lg_sl ([.ref (G.2.2.1 9 0), .int (iI a0), .int (iI a1)])).length) Slot.unset).toArray = ls at hl ⊢
  have hl : lv_has ls 3 [(0, .ref (G.2.2.1 9 0)), (1, .int (iI a0)), (2, .int (iI a1))] := hl
  have J14 : ∀ (st : St) (s0x14 : Int) (H : Heap) (locs : List Loc) (ls : Array Slot), Iv vM G st H → va_S G.2.2.2.1 s.heap H locs → lv_has ls 3 [(0, .ref (G.2.2.1 9 0)), (1, .int (iI a0)), (2, .int (iI a1))] → f9_worstForShear_j14 Q a0 a1 st s0x14 → W p l e (headSpec wsX9_worstForShear ({ frames := 5, cells := 0, slots := 0, locals := 137 })).room s m ([.ref (G.2.2.1 9 0), .int (iI a0), .int (iI a1)] : List Value).toArray below meth c H locs 0 0 (MQ below (QiM vM G Q) ([.ref (G.2.2.1 9 0), .int (iI a0), .int (iI a1)] : List Value).toArray s 0 0 G.2.2.2.1) (F0 m 14 ls [.int (iI s0x14), .ref (G.2.2.1 9 0)]) := by
    intro st s0x14 H locs ls hI hS hl h
    unfold f9_worstForShear_j14 at h
    refine pp_9_6 hx hb hts in9 hown hK hI hS hv_this lk_46 dX9_worstForShear_14 (fun st5 hst5 H locs hI hS => ?_)
    replace h := h st5 hst5
    refine lv_aload_n hx hb dX9_worstForShear_17 rfl (lv_at hl 0 rfl) ?_
    refine gg_9_6 hx hb hts in9 hown hK hI hv_this lk_46 dX9_worstForShear_18 ?_
    obtain ⟨g6, h⟩ := h
    refine r_if_le (tgt := 28) hx hb dX9_worstForShear_21 (by decide) g6 (fun c7 => ?_) (fun c7 => ?_)
    · replace h := h.1 c7
      refine lv_aload_n hx hb dX9_worstForShear_28 rfl (lv_at hl 0 rfl) ?_
      refine r_iconst (n := 1) hx hb dX9_worstForShear_29 ?_
      refine lv_iload_n hx hb dX9_worstForShear_30 rfl (lv_at hl 1 rfl) ?_
      refine lv_iload_n hx hb dX9_worstForShear_31 rfl (lv_at hl 2 rfl) ?_
      refine r_calli (va_runV (As := [.int (iI 1), .int (iI a0), .int (iI a1)]) (rest := []) ⟨hx, hb, hml, hown, hts⟩ (m9_worst l G hv_this _ st5 1 a0 a1 h) (cwV 3 hts gX9_worstForShear_X9_worst rfl rfl rfl hd9_worst ⟨Nat.le_of_ble_eq_true rfl, Nat.le_of_ble_eq_true rfl⟩) (pre_V hK hX hI hA hS hv_this rfl rfl [.int (iI 1), .int (iI a0), .int (iI a1)]) rfl rfl hl.1 rfl (lv_room (Nat.le_of_ble_eq_true rfl)) dX9_worstForShear_32 ⟨Nat.le_of_ble_eq_true rfl, Nat.le_of_ble_eq_true rfl⟩) hS (fun z8 st9 h H locs hI hS => ?_)
      exact r_iret hx hb hr hlocks hK hI hS (Qp := Q) h dX9_worstForShear_35
    · replace h := h.2 c7
      refine r_iconst (n := 0) hx hb dX9_worstForShear_24 ?_
      refine lv_goto (tgt := 35) hx hb dX9_worstForShear_25 (by decide) ?_
      exact r_iret hx hb hr hlocks hK hI hS (Qp := Q) h dX9_worstForShear_35
  unfold f9_worstForShear at h
  refine lv_aload_n hx hb dX9_worstForShear_0 rfl (lv_at hl 0 rfl) ?_
  refine lv_aload_n hx hb dX9_worstForShear_1 rfl (lv_at hl 0 rfl) ?_
  refine lv_iload_n hx hb dX9_worstForShear_2 rfl (lv_at hl 1 rfl) ?_
  refine r_calli (va_runV (As := [.int (iI a0)]) (rest := [.ref (G.2.2.1 9 0)]) ⟨hx, hb, hml, hown, hts⟩ (m9_isField l G hv_this _ st a0 h) (cwV 1 hts gX9_worstForShear_X9_isField rfl rfl rfl hd9_isField ⟨Nat.le_of_ble_eq_true rfl, Nat.le_of_ble_eq_true rfl⟩) (pre_V hK hX hI hA hS hv_this rfl rfl [.int (iI a0)]) rfl rfl hl.1 rfl (lv_room (Nat.le_of_ble_eq_true rfl)) dX9_worstForShear_3 ⟨Nat.le_of_ble_eq_true rfl, Nat.le_of_ble_eq_true rfl⟩) hS (fun z1 st2 h H locs hI hS => ?_)
  obtain ⟨g3, h⟩ := h
  refine r_if_eq (tgt := 13) hx hb dX9_worstForShear_6 (by decide) g3 (fun c4 => ?_) (fun c4 => ?_)
  · replace h := h.1 c4
    refine r_iconst (n := 1) hx hb dX9_worstForShear_13 ?_
    exact J14 st2 1 _ _ ls hI hS (lv_sub hl [0, 1, 2] rfl) h
  · replace h := h.2 c4
    refine r_iconst (n := 0) hx hb dX9_worstForShear_9 ?_
    refine lv_goto (tgt := 14) hx hb dX9_worstForShear_10 (by decide) ?_
    exact J14 st2 0 _ _ ls hI hS (lv_sub hl [0, 1, 2] rfl) h
theorem hd9_worstForMoment : yX9_worstForMoment.cls = RX9 ∧ yX9_worstForMoment.cls ≠ "java/lang/invoke/MethodHandle" ∧ yX9_worstForMoment.cls ≠ "java/lang/invoke/VarHandle" ∧ (parseMethodDescriptor yX9_worstForMoment.desc).map (fun d => d.parameters.length) = some 2 := by decide +kernel
set_option maxHeartbeats 4000000 in
set_option maxRecDepth 100000 in
theorem m9_worstForMoment (l : Launch) (G : WG)   (hv_this : vM 9 0) (Q : Int → St → Prop) (st : St) (a0 : Int) (a1 : Int) (h : f9_worstForMoment Q st a0 a1) : Met l yX9_worstForMoment wsX9_worstForMoment ({ frames := 5, cells := 0, slots := 0, locals := 137 }) (PcM vM G st [.ref (G.2.2.1 9 0), .int (iI a0), .int (iI a1)]) (QiM vM G Q) 0 0 G.2.2.2.1 := by
  refine Met.ofW (cc := cX9_worstForMoment) (maxL := 3) (ret := (some .int)) (by decide) rfl ?_
  intro p e s m args below meth c s₁ B hml hvv
  obtain ⟨rfl, hA, hI, hK, hX⟩ := hvv
  have hx := B.exec
  have hb := B.bytes
  have hr := B.returns
  have hts := atoms_spec (ws := wsX9_worstForMoment) B.pre
  have hown : s.vm.findClass RX9 = some m.cls := findClass_of_methodNamed B.named
  have hlocks := B.notSynchronized
  have hS : va_S G.2.2.2.1 s.heap s.heap [] := va_S.rf
  have in9 : ∀ w ∈ wsX90, w ∈ wsX9_worstForMoment := by decide +kernel
  have lk_46 := hts (.fieldLink RX9 46 "BeamLinesModel" "thrown" "I") (by decide +kernel)
  have hl := lv_entry ([.ref (G.2.2.1 9 0), .int (iI a0), .int (iI a1)]) (n := 3) (Nat.le_of_ble_eq_true rfl)
  rw [lg_entry_eq]
  generalize (lg_sl ([.ref (G.2.2.1 9 0), .int (iI a0), .int (iI a1)]) ++ List.replicate (3 - (lg_sl ([.ref (G.2.2.1 9 0), .int (iI a0), .int (iI a1)])).length) Slot.unset).toArray = ls at hl ⊢
  have hl : lv_has ls 3 [(0, .ref (G.2.2.1 9 0)), (1, .int (iI a0)), (2, .int (iI a1))] := hl
  have J14 : ∀ (st : St) (s0x14 : Int) (H : Heap) (locs : List Loc) (ls : Array Slot), Iv vM G st H → va_S G.2.2.2.1 s.heap H locs → lv_has ls 3 [(0, .ref (G.2.2.1 9 0)), (1, .int (iI a0)), (2, .int (iI a1))] → f9_worstForMoment_j14 Q a0 a1 st s0x14 → W p l e (headSpec wsX9_worstForMoment ({ frames := 5, cells := 0, slots := 0, locals := 137 })).room s m ([.ref (G.2.2.1 9 0), .int (iI a0), .int (iI a1)] : List Value).toArray below meth c H locs 0 0 (MQ below (QiM vM G Q) ([.ref (G.2.2.1 9 0), .int (iI a0), .int (iI a1)] : List Value).toArray s 0 0 G.2.2.2.1) (F0 m 14 ls [.int (iI s0x14), .ref (G.2.2.1 9 0)]) := by
    intro st s0x14 H locs ls hI hS hl h
    unfold f9_worstForMoment_j14 at h
    refine pp_9_6 hx hb hts in9 hown hK hI hS hv_this lk_46 dX9_worstForMoment_14 (fun st5 hst5 H locs hI hS => ?_)
    replace h := h st5 hst5
    refine lv_aload_n hx hb dX9_worstForMoment_17 rfl (lv_at hl 0 rfl) ?_
    refine gg_9_6 hx hb hts in9 hown hK hI hv_this lk_46 dX9_worstForMoment_18 ?_
    obtain ⟨g6, h⟩ := h
    refine r_if_le (tgt := 28) hx hb dX9_worstForMoment_21 (by decide) g6 (fun c7 => ?_) (fun c7 => ?_)
    · replace h := h.1 c7
      refine lv_aload_n hx hb dX9_worstForMoment_28 rfl (lv_at hl 0 rfl) ?_
      refine r_iconst (n := 2) hx hb dX9_worstForMoment_29 ?_
      refine lv_iload_n hx hb dX9_worstForMoment_30 rfl (lv_at hl 1 rfl) ?_
      refine lv_iload_n hx hb dX9_worstForMoment_31 rfl (lv_at hl 2 rfl) ?_
      refine r_calli (va_runV (As := [.int (iI 2), .int (iI a0), .int (iI a1)]) (rest := []) ⟨hx, hb, hml, hown, hts⟩ (m9_worst l G hv_this _ st5 2 a0 a1 h) (cwV 3 hts gX9_worstForMoment_X9_worst rfl rfl rfl hd9_worst ⟨Nat.le_of_ble_eq_true rfl, Nat.le_of_ble_eq_true rfl⟩) (pre_V hK hX hI hA hS hv_this rfl rfl [.int (iI 2), .int (iI a0), .int (iI a1)]) rfl rfl hl.1 rfl (lv_room (Nat.le_of_ble_eq_true rfl)) dX9_worstForMoment_32 ⟨Nat.le_of_ble_eq_true rfl, Nat.le_of_ble_eq_true rfl⟩) hS (fun z8 st9 h H locs hI hS => ?_)
      exact r_iret hx hb hr hlocks hK hI hS (Qp := Q) h dX9_worstForMoment_35
    · replace h := h.2 c7
      refine r_iconst (n := 0) hx hb dX9_worstForMoment_24 ?_
      refine lv_goto (tgt := 35) hx hb dX9_worstForMoment_25 (by decide) ?_
      exact r_iret hx hb hr hlocks hK hI hS (Qp := Q) h dX9_worstForMoment_35
  unfold f9_worstForMoment at h
  refine lv_aload_n hx hb dX9_worstForMoment_0 rfl (lv_at hl 0 rfl) ?_
  refine lv_aload_n hx hb dX9_worstForMoment_1 rfl (lv_at hl 0 rfl) ?_
  refine lv_iload_n hx hb dX9_worstForMoment_2 rfl (lv_at hl 1 rfl) ?_
  refine r_calli (va_runV (As := [.int (iI a0)]) (rest := [.ref (G.2.2.1 9 0)]) ⟨hx, hb, hml, hown, hts⟩ (m9_isPlace l G hv_this _ st a0 h) (cwV 1 hts gX9_worstForMoment_X9_isPlace rfl rfl rfl hd9_isPlace ⟨Nat.le_of_ble_eq_true rfl, Nat.le_of_ble_eq_true rfl⟩) (pre_V hK hX hI hA hS hv_this rfl rfl [.int (iI a0)]) rfl rfl hl.1 rfl (lv_room (Nat.le_of_ble_eq_true rfl)) dX9_worstForMoment_3 ⟨Nat.le_of_ble_eq_true rfl, Nat.le_of_ble_eq_true rfl⟩) hS (fun z1 st2 h H locs hI hS => ?_)
  obtain ⟨g3, h⟩ := h
  refine r_if_eq (tgt := 13) hx hb dX9_worstForMoment_6 (by decide) g3 (fun c4 => ?_) (fun c4 => ?_)
  · replace h := h.1 c4
    refine r_iconst (n := 1) hx hb dX9_worstForMoment_13 ?_
    exact J14 st2 1 _ _ ls hI hS (lv_sub hl [0, 1, 2] rfl) h
  · replace h := h.2 c4
    refine r_iconst (n := 0) hx hb dX9_worstForMoment_9 ?_
    refine lv_goto (tgt := 14) hx hb dX9_worstForMoment_10 (by decide) ?_
    exact J14 st2 0 _ _ ls hI hS (lv_sub hl [0, 1, 2] rfl) h
theorem hd9_size : yX9_size.cls ≠ "java/lang/invoke/MethodHandle" ∧ yX9_size.cls ≠ "java/lang/invoke/VarHandle" ∧ (parseMethodDescriptor yX9_size.desc).map (fun d => d.parameters.length) = some 1 := by decide +kernel
set_option maxHeartbeats 4000000 in
set_option maxRecDepth 100000 in
theorem m9_size (l : Launch) (G : WG)    (Q : Int → St → Prop) (st : St) (a0 : Int) (h : f9_size Q st a0) : Met l yX9_size wsX9_size ({ frames := 0, cells := 0, slots := 0, locals := 0 }) (PcM vM G st [.long (lI a0)]) (QlM vM G Q) 0 0 G.2.2.2.1 := by
  refine Met.ofW (cc := cX9_size) (maxL := 2) (ret := (some .long)) (by decide) rfl ?_
  intro p e s m args below meth c s₁ B hml hvv
  obtain ⟨rfl, hA, hI, hK, hX⟩ := hvv
  have hx := B.exec
  have hb := B.bytes
  have hr := B.returns
  have hts := atoms_spec (ws := wsX9_size) B.pre
  have hown : s.vm.findClass RX9 = some m.cls := findClass_of_methodNamed B.named
  have hlocks := B.notSynchronized
  have hS : va_S G.2.2.2.1 s.heap s.heap [] := va_S.rf
  have hl := lv_entry ([.long (lI a0)]) (n := 2) (Nat.le_of_ble_eq_true rfl)
  rw [lg_entry_eq]
  generalize (lg_sl ([.long (lI a0)]) ++ List.replicate (2 - (lg_sl ([.long (lI a0)])).length) Slot.unset).toArray = ls at hl ⊢
  have hl : lv_has ls 2 [(0, .long (lI a0))] := hl
  unfold f9_size at h
  refine lv_lload_n hx hb dX9_size_0 rfl (lv_at hl 0 rfl) ?_
  refine r_lconst (z := 0) hx hb dX9_size_1 rfl ?_
  obtain ⟨g1, h⟩ := h
  refine r_lcmp_ge (tgt := 11) hx hb dX9_size_2 dX9_size_3 (by decide) g1 (inL_mk rfl) (fun c2 => ?_) (fun c2 => ?_)
  · replace h := h.1 c2
    refine lv_lload_n hx hb dX9_size_11 rfl (lv_at hl 0 rfl) ?_
    exact r_lret hx hb hr hlocks hK hI hS (Qp := Q) h dX9_size_12
  · replace h := h.2 c2
    refine lv_lload_n hx hb dX9_size_6 rfl (lv_at hl 0 rfl) ?_
    refine r_lneg hx hb dX9_size_7 ?_
    refine lv_goto (tgt := 12) hx hb dX9_size_8 (by decide) ?_
    exact r_lret hx hb hr hlocks hK hI hS (Qp := Q) h dX9_size_12
theorem hd9_greatestAt : yX9_greatestAt.cls = RX9 ∧ yX9_greatestAt.cls ≠ "java/lang/invoke/MethodHandle" ∧ yX9_greatestAt.cls ≠ "java/lang/invoke/VarHandle" ∧ (parseMethodDescriptor yX9_greatestAt.desc).map (fun d => d.parameters.length) = some 1 := by decide +kernel
set_option maxHeartbeats 4000000 in
set_option maxRecDepth 100000 in
theorem m9_greatestAt (l : Launch) (G : WG)   (hv_this : vM 9 0) (Q : Int → St → Prop) (st : St) (a0 : Int) (h : f9_greatestAt Q st a0) : Met l yX9_greatestAt wsX9_greatestAt ({ frames := 4, cells := 0, slots := 0, locals := 96 }) (PcM vM G st [.ref (G.2.2.1 9 0), .int (iI a0)]) (QlM vM G Q) 0 0 G.2.2.2.1 := by
  refine Met.ofW (cc := cX9_greatestAt) (maxL := 5) (ret := (some .long)) (by decide) rfl ?_
  intro p e s m args below meth c s₁ B hml hvv
  obtain ⟨rfl, hA, hI, hK, hX⟩ := hvv
  have hx := B.exec
  have hb := B.bytes
  have hr := B.returns
  have hts := atoms_spec (ws := wsX9_greatestAt) B.pre
  have hown : s.vm.findClass RX9 = some m.cls := findClass_of_methodNamed B.named
  have hlocks := B.notSynchronized
  have hS : va_S G.2.2.2.1 s.heap s.heap [] := va_S.rf
  have ml_286 : (Cond.methodLink RX9 286 Lib.MathLoose.max_long.x).before _ s = true ∧ (Cond.static Lib.MathLoose.max_long.x).before _ s = true ∧ (Cond.initialized "java/lang/Math").before _ s = true ∧ (Cond.code Lib.MathLoose.max_long.x Lib.MathLoose.max_long.code 4 (some .long)).before _ s = true := ⟨hts _ (by decide +kernel), hts _ (by decide +kernel), hts _ (by decide +kernel), hts _ (by decide +kernel)⟩
  have hl := lv_entry ([.ref (G.2.2.1 9 0), .int (iI a0)]) (n := 5) (Nat.le_of_ble_eq_true rfl)
  rw [lg_entry_eq]
  generalize (lg_sl ([.ref (G.2.2.1 9 0), .int (iI a0)]) ++ List.replicate (5 - (lg_sl ([.ref (G.2.2.1 9 0), .int (iI a0)])).length) Slot.unset).toArray = ls at hl ⊢
  have hl : lv_has ls 5 [(0, .ref (G.2.2.1 9 0)), (1, .int (iI a0))] := hl
  have L5 : ∀ (n5 : Nat), ∀ (st : St) (v2x5 : Int) (v4x5 : Int) (H : Heap) (locs : List Loc) (ls : Array Slot), Iv vM G st H → va_S G.2.2.2.1 s.heap H locs → lv_has ls 5 [(0, .ref (G.2.2.1 9 0)), (1, .int (iI a0)), (2, .long (lI v2x5)), (4, .int (iI v4x5))] → f9_greatestAt_l5 Q a0 n5 st v2x5 v4x5 → W p l e (headSpec wsX9_greatestAt ({ frames := 4, cells := 0, slots := 0, locals := 96 })).room s m ([.ref (G.2.2.1 9 0), .int (iI a0)] : List Value).toArray below meth c H locs 0 0 (MQ below (QlM vM G Q) ([.ref (G.2.2.1 9 0), .int (iI a0)] : List Value).toArray s 0 0 G.2.2.2.1) (F0 m 5 ls []) := by
    intro n5
    induction n5 with
    | zero =>
      intro st v2x5 v4x5 H locs ls hI hS hl h
      exact h.elim
    | succ n5 ih5 =>
      intro st v2x5 v4x5 H locs ls hI hS hl h
      unfold f9_greatestAt_l5 at h
      refine lv_iload hx hb dX9_greatestAt_5 (lv_at hl 3 rfl) ?_
      refine lv_aload_n hx hb dX9_greatestAt_7 rfl (lv_at hl 0 rfl) ?_
      refine r_calli (va_runV (As := []) (rest := [.int (iI v4x5)]) ⟨hx, hb, hml, hown, hts⟩ (m9_lastHead l G hv_this _ st h) (cwV 0 hts gX9_greatestAt_X9_lastHead rfl rfl rfl hd9_lastHead ⟨Nat.le_of_ble_eq_true rfl, Nat.le_of_ble_eq_true rfl⟩) (pre_V hK hX hI hA hS hv_this rfl rfl []) rfl rfl hl.1 rfl (lv_room (Nat.le_of_ble_eq_true rfl)) dX9_greatestAt_8 ⟨Nat.le_of_ble_eq_true rfl, Nat.le_of_ble_eq_true rfl⟩) hS (fun z1 st2 h H locs hI hS => ?_)
      obtain ⟨g3, h⟩ := h
      obtain ⟨g4, h⟩ := h
      refine r_icmp_gt (tgt := 36) hx hb dX9_greatestAt_11 (by decide) g3 g4 (fun c5 => ?_) (fun c5 => ?_)
      · replace h := h.1 c5
        refine lv_lload_n hx hb dX9_greatestAt_36 rfl (lv_at hl 2 rfl) ?_
        exact r_lret hx hb hr hlocks hK hI hS (Qp := Q) h dX9_greatestAt_37
      · replace h := h.2 c5
        refine lv_lload_n hx hb dX9_greatestAt_14 rfl (lv_at hl 2 rfl) ?_
        refine lv_aload_n hx hb dX9_greatestAt_15 rfl (lv_at hl 0 rfl) ?_
        refine r_iconst (n := 2) hx hb dX9_greatestAt_16 ?_
        refine lv_iload_n hx hb dX9_greatestAt_17 rfl (lv_at hl 1 rfl) ?_
        refine lv_iload hx hb dX9_greatestAt_18 (lv_at hl 3 rfl) ?_
        refine r_calll (va_runV (As := [.int (iI 2), .int (iI a0), .int (iI v4x5)]) (rest := [.long (lI v2x5)]) ⟨hx, hb, hml, hown, hts⟩ (m9_all l G hv_this _ st2 2 a0 v4x5 h) (cwV 3 hts gX9_greatestAt_X9_all rfl rfl rfl hd9_all ⟨Nat.le_of_ble_eq_true rfl, Nat.le_of_ble_eq_true rfl⟩) (pre_V hK hX hI hA hS hv_this rfl rfl [.int (iI 2), .int (iI a0), .int (iI v4x5)]) rfl rfl hl.1 rfl (lv_room (Nat.le_of_ble_eq_true rfl)) dX9_greatestAt_20 ⟨Nat.le_of_ble_eq_true rfl, Nat.le_of_ble_eq_true rfl⟩) hS (fun z6 st7 h H locs hI hS => ?_)
        refine r_calll (va_runS (As := [.long (lI z6)]) (rest := [.long (lI v2x5)]) ⟨hx, hb, hml, hown, hts⟩ (m9_size l G _ st7 z6 h) (va_cwS 1 hts gX9_greatestAt_X9_size rfl rfl rfl hd9_size ⟨Nat.le_of_ble_eq_true rfl, Nat.le_of_ble_eq_true rfl⟩) (pre_S hK hX hI hA hS [.long (lI z6)]) rfl rfl hl.1 rfl (lv_room (Nat.le_of_ble_eq_true rfl)) dX9_greatestAt_23 ⟨Nat.le_of_ble_eq_true rfl, Nat.le_of_ble_eq_true rfl⟩) hS (fun z8 st9 h H locs hI hS => ?_)
        obtain ⟨g10, h⟩ := h
        obtain ⟨g11, h⟩ := h
        refine r_mmax_long hx hb (hml.trans hl.1.symm) hown ml_286 dX9_greatestAt_26 g10 g11 ⟨Nat.le_of_ble_eq_true rfl, Nat.le_of_ble_eq_true rfl, Nat.zero_le _, Nat.zero_le _⟩ (Nat.le_of_ble_eq_true rfl) ?_
        refine r_topl (fun x12 hx12 => ?_)
        replace h := h x12 hx12
        refine lv_lstore_n (lv' := [(2, .long (lI x12)), (0, .ref (G.2.2.1 9 0)), (1, .int (iI a0)), (4, .int (iI v4x5))]) hx hb dX9_greatestAt_29 rfl hl (by decide) rfl (fun ls hl => ?_)
        obtain ⟨x13, hx13⟩ : ∃ z : Int, z = v4x5 + 1 := ⟨_, rfl⟩
        replace h := h x13 hx13
        refine lv_iinc (v := iI x13) (lv' := [(4, .int (iI x13)), (2, .long (lI x12)), (0, .ref (G.2.2.1 9 0)), (1, .int (iI a0))]) hx hb dX9_greatestAt_30 hl (k := 3) rfl (by rw [hx13]; exact iI_add _ _) (by decide) rfl (fun ls hl => ?_)
        refine lv_goto (tgt := 5) hx hb dX9_greatestAt_33 (by decide) ?_
        exact ih5 st9 x12 x13 _ _ ls hI hS (lv_sub hl [2, 3, 1, 0] rfl) h
  unfold f9_greatestAt at h
  refine r_lconst (z := 0) hx hb dX9_greatestAt_0 rfl ?_
  refine lv_lstore_n (lv' := [(2, .long (lI 0)), (0, .ref (G.2.2.1 9 0)), (1, .int (iI a0))]) hx hb dX9_greatestAt_1 rfl hl (by decide) rfl (fun ls hl => ?_)
  refine r_iconst (n := 0) hx hb dX9_greatestAt_2 ?_
  refine lv_istore (lv' := [(4, .int (iI 0)), (2, .long (lI 0)), (0, .ref (G.2.2.1 9 0)), (1, .int (iI a0))]) hx hb dX9_greatestAt_3 hl (by decide) rfl (fun ls hl => ?_)
  obtain ⟨kk, h⟩ := h
  exact L5 kk st 0 0 _ _ ls hI hS (lv_sub hl [2, 3, 1, 0] rfl) h
theorem hd9_worstPlace : yX9_worstPlace.cls = RX9 ∧ yX9_worstPlace.cls ≠ "java/lang/invoke/MethodHandle" ∧ yX9_worstPlace.cls ≠ "java/lang/invoke/VarHandle" ∧ (parseMethodDescriptor yX9_worstPlace.desc).map (fun d => d.parameters.length) = some 0 := by decide +kernel
set_option maxHeartbeats 4000000 in
set_option maxRecDepth 100000 in
theorem m9_worstPlace (l : Launch) (G : WG)   (hv_this : vM 9 0) (Q : Int → St → Prop) (st : St)  (h : f9_worstPlace Q st) : Met l yX9_worstPlace wsX9_worstPlace ({ frames := 5, cells := 0, slots := 0, locals := 120 }) (PcM vM G st [.ref (G.2.2.1 9 0)]) (QiM vM G Q) 0 0 G.2.2.2.1 := by
  refine Met.ofW (cc := cX9_worstPlace) (maxL := 7) (ret := (some .int)) (by decide) rfl ?_
  intro p e s m args below meth c s₁ B hml hvv
  obtain ⟨rfl, hA, hI, hK, hX⟩ := hvv
  have hx := B.exec
  have hb := B.bytes
  have hr := B.returns
  have hts := atoms_spec (ws := wsX9_worstPlace) B.pre
  have hown : s.vm.findClass RX9 = some m.cls := findClass_of_methodNamed B.named
  have hlocks := B.notSynchronized
  have hS : va_S G.2.2.2.1 s.heap s.heap [] := va_S.rf
  have kc_288 : (Jvm.Cond.constantLong RX9 288 (lI (-1))).before _ s = true := hts (.constantLong RX9 288 (-1)) (by decide +kernel)
  have hl := lv_entry ([.ref (G.2.2.1 9 0)]) (n := 7) (Nat.le_of_ble_eq_true rfl)
  rw [lg_entry_eq]
  generalize (lg_sl ([.ref (G.2.2.1 9 0)]) ++ List.replicate (7 - (lg_sl ([.ref (G.2.2.1 9 0)])).length) Slot.unset).toArray = ls at hl ⊢
  have hl : lv_has ls 7 [(0, .ref (G.2.2.1 9 0))] := hl
  have L9 : ∀ (n9 : Nat), ∀ (st : St) (v1x9 : Int) (v2x9 : Int) (v4x9 : Int) (H : Heap) (locs : List Loc) (ls : Array Slot), Iv vM G st H → va_S G.2.2.2.1 s.heap H locs → lv_has ls 7 [(0, .ref (G.2.2.1 9 0)), (1, .int (iI v1x9)), (2, .long (lI v2x9)), (4, .int (iI v4x9))] → f9_worstPlace_l9 Q n9 st v1x9 v2x9 v4x9 → W p l e (headSpec wsX9_worstPlace ({ frames := 5, cells := 0, slots := 0, locals := 120 })).room s m ([.ref (G.2.2.1 9 0)] : List Value).toArray below meth c H locs 0 0 (MQ below (QiM vM G Q) ([.ref (G.2.2.1 9 0)] : List Value).toArray s 0 0 G.2.2.2.1) (F0 m 9 ls []) := by
    intro n9
    induction n9 with
    | zero =>
      intro st v1x9 v2x9 v4x9 H locs ls hI hS hl h
      exact h.elim
    | succ n9 ih9 =>
      have J42 : ∀ (st : St) (v1x42 : Int) (v2x42 : Int) (v4x42 : Int) (H : Heap) (locs : List Loc) (ls : Array Slot), Iv vM G st H → va_S G.2.2.2.1 s.heap H locs → lv_has ls 7 [(0, .ref (G.2.2.1 9 0)), (1, .int (iI v1x42)), (2, .long (lI v2x42)), (4, .int (iI v4x42))] → f9_worstPlace_j42 (fun st v1x9 v2x9 v4x9 => f9_worstPlace_l9 Q n9 st v1x9 v2x9 v4x9) Q st v1x42 v2x42 v4x42 → W p l e (headSpec wsX9_worstPlace ({ frames := 5, cells := 0, slots := 0, locals := 120 })).room s m ([.ref (G.2.2.1 9 0)] : List Value).toArray below meth c H locs 0 0 (MQ below (QiM vM G Q) ([.ref (G.2.2.1 9 0)] : List Value).toArray s 0 0 G.2.2.2.1) (F0 m 42 ls []) := by
        intro st v1x42 v2x42 v4x42 H locs ls hI hS hl h
        unfold f9_worstPlace_j42 at h
        obtain ⟨x11, hx11⟩ : ∃ z : Int, z = v4x42 + 1 := ⟨_, rfl⟩
        replace h := h x11 hx11
        refine lv_iinc (v := iI x11) (lv' := [(4, .int (iI x11)), (0, .ref (G.2.2.1 9 0)), (1, .int (iI v1x42)), (2, .long (lI v2x42))]) hx hb dX9_worstPlace_42 hl (k := 3) rfl (by rw [hx11]; exact iI_add _ _) (by decide) rfl (fun ls hl => ?_)
        refine lv_goto (tgt := 9) hx hb dX9_worstPlace_45 (by decide) ?_
        exact ih9 st v1x42 v2x42 x11 _ _ ls hI hS (lv_sub hl [1, 2, 3, 0] rfl) h
      intro st v1x9 v2x9 v4x9 H locs ls hI hS hl h
      unfold f9_worstPlace_l9 at h
      refine lv_iload hx hb dX9_worstPlace_9 (lv_at hl 3 rfl) ?_
      refine lv_aload_n hx hb dX9_worstPlace_11 rfl (lv_at hl 0 rfl) ?_
      refine r_calli (va_runV (As := []) (rest := [.int (iI v4x9)]) ⟨hx, hb, hml, hown, hts⟩ (m9_places l G hv_this _ st h) (cwV 0 hts gX9_worstPlace_X9_places rfl rfl rfl hd9_places ⟨Nat.le_of_ble_eq_true rfl, Nat.le_of_ble_eq_true rfl⟩) (pre_V hK hX hI hA hS hv_this rfl rfl []) rfl rfl hl.1 rfl (lv_room (Nat.le_of_ble_eq_true rfl)) dX9_worstPlace_12 ⟨Nat.le_of_ble_eq_true rfl, Nat.le_of_ble_eq_true rfl⟩) hS (fun z1 st2 h H locs hI hS => ?_)
      obtain ⟨g3, h⟩ := h
      obtain ⟨g4, h⟩ := h
      refine r_icmp_ge (tgt := 48) hx hb dX9_worstPlace_15 (by decide) g3 g4 (fun c5 => ?_) (fun c5 => ?_)
      · replace h := h.1 c5
        refine lv_iload_n hx hb dX9_worstPlace_48 rfl (lv_at hl 1 rfl) ?_
        exact r_iret hx hb hr hlocks hK hI hS (Qp := Q) h dX9_worstPlace_49
      · replace h := h.2 c5
        refine lv_aload_n hx hb dX9_worstPlace_18 rfl (lv_at hl 0 rfl) ?_
        refine lv_iload hx hb dX9_worstPlace_19 (lv_at hl 3 rfl) ?_
        refine r_calll (va_runV (As := [.int (iI v4x9)]) (rest := []) ⟨hx, hb, hml, hown, hts⟩ (m9_greatestAt l G hv_this _ st2 v4x9 h) (cwV 1 hts gX9_worstPlace_X9_greatestAt rfl rfl rfl hd9_greatestAt ⟨Nat.le_of_ble_eq_true rfl, Nat.le_of_ble_eq_true rfl⟩) (pre_V hK hX hI hA hS hv_this rfl rfl [.int (iI v4x9)]) rfl rfl hl.1 rfl (lv_room (Nat.le_of_ble_eq_true rfl)) dX9_worstPlace_21 ⟨Nat.le_of_ble_eq_true rfl, Nat.le_of_ble_eq_true rfl⟩) hS (fun z6 st7 h H locs hI hS => ?_)
        refine lv_lstore (lv' := [(5, .long (lI z6)), (0, .ref (G.2.2.1 9 0)), (1, .int (iI v1x9)), (2, .long (lI v2x9)), (4, .int (iI v4x9))]) hx hb dX9_worstPlace_24 hl (by decide) rfl (fun ls hl => ?_)
        refine lv_lload hx hb dX9_worstPlace_26 (lv_at hl 0 rfl) ?_
        refine lv_lload_n hx hb dX9_worstPlace_28 rfl (lv_at hl 3 rfl) ?_
        obtain ⟨g8, h⟩ := h
        obtain ⟨g9, h⟩ := h
        refine r_lcmp_gt (tgt := 36) hx hb dX9_worstPlace_29 dX9_worstPlace_30 (by decide) g8 g9 (fun c10 => ?_) (fun c10 => ?_)
        · replace h := h.1 c10
          refine lv_lload hx hb dX9_worstPlace_36 (lv_at hl 0 rfl) ?_
          refine lv_lstore_n (lv' := [(2, .long (lI z6)), (5, .long (lI z6)), (0, .ref (G.2.2.1 9 0)), (1, .int (iI v1x9)), (4, .int (iI v4x9))]) hx hb dX9_worstPlace_38 rfl hl (by decide) rfl (fun ls hl => ?_)
          refine lv_iload hx hb dX9_worstPlace_39 (lv_at hl 4 rfl) ?_
          refine lv_istore_n (lv' := [(1, .int (iI v4x9)), (2, .long (lI z6)), (5, .long (lI z6)), (0, .ref (G.2.2.1 9 0)), (4, .int (iI v4x9))]) hx hb dX9_worstPlace_41 rfl hl (by decide) rfl (fun ls hl => ?_)
          exact J42 st7 v4x9 z6 v4x9 _ _ ls hI hS (lv_sub hl [3, 0, 1, 4] rfl) h
        · replace h := h.2 c10
          refine lv_goto (tgt := 42) hx hb dX9_worstPlace_33 (by decide) ?_
          exact J42 st7 v1x9 v2x9 v4x9 _ _ ls hI hS (lv_sub hl [1, 2, 3, 4] rfl) h
  unfold f9_worstPlace at h
  refine r_iconst (n := 0) hx hb dX9_worstPlace_0 ?_
  refine lv_istore_n (lv' := [(1, .int (iI 0)), (0, .ref (G.2.2.1 9 0))]) hx hb dX9_worstPlace_1 rfl hl (by decide) rfl (fun ls hl => ?_)
  refine lv_ldc2 (v := lI (-1)) hx hb hown kc_288 dX9_worstPlace_2 ?_
  refine lv_lstore_n (lv' := [(2, .long (lI (-1))), (1, .int (iI 0)), (0, .ref (G.2.2.1 9 0))]) hx hb dX9_worstPlace_5 rfl hl (by decide) rfl (fun ls hl => ?_)
  refine r_iconst (n := 0) hx hb dX9_worstPlace_6 ?_
  refine lv_istore (lv' := [(4, .int (iI 0)), (2, .long (lI (-1))), (1, .int (iI 0)), (0, .ref (G.2.2.1 9 0))]) hx hb dX9_worstPlace_7 hl (by decide) rfl (fun ls hl => ?_)
  obtain ⟨kk, h⟩ := h
  exact L9 kk st 0 (-1) 0 _ _ ls hI hS (lv_sub hl [3, 2, 1, 0] rfl) h
theorem hd9_worstSection : yX9_worstSection.cls = RX9 ∧ yX9_worstSection.cls ≠ "java/lang/invoke/MethodHandle" ∧ yX9_worstSection.cls ≠ "java/lang/invoke/VarHandle" ∧ (parseMethodDescriptor yX9_worstSection.desc).map (fun d => d.parameters.length) = some 0 := by decide +kernel
set_option maxHeartbeats 4000000 in
set_option maxRecDepth 100000 in
theorem m9_worstSection (l : Launch) (G : WG)   (hv_this : vM 9 0) (Q : Int → St → Prop) (st : St)  (h : f9_worstSection Q st) : Met l yX9_worstSection wsX9_worstSection ({ frames := 6, cells := 0, slots := 0, locals := 146 }) (PcM vM G st [.ref (G.2.2.1 9 0)]) (QiM vM G Q) 0 0 G.2.2.2.1 := by
  refine Met.ofW (cc := cX9_worstSection) (maxL := 1) (ret := (some .int)) (by decide) rfl ?_
  intro p e s m args below meth c s₁ B hml hvv
  obtain ⟨rfl, hA, hI, hK, hX⟩ := hvv
  have hx := B.exec
  have hb := B.bytes
  have hr := B.returns
  have hts := atoms_spec (ws := wsX9_worstSection) B.pre
  have hown : s.vm.findClass RX9 = some m.cls := findClass_of_methodNamed B.named
  have hlocks := B.notSynchronized
  have hS : va_S G.2.2.2.1 s.heap s.heap [] := va_S.rf
  have in9 : ∀ w ∈ wsX90, w ∈ wsX9_worstSection := by decide +kernel
  have lk_46 := hts (.fieldLink RX9 46 "BeamLinesModel" "thrown" "I") (by decide +kernel)
  have hl := lv_entry ([.ref (G.2.2.1 9 0)]) (n := 1) (Nat.le_of_ble_eq_true rfl)
  rw [lg_entry_eq]
  generalize (lg_sl ([.ref (G.2.2.1 9 0)]) ++ List.replicate (1 - (lg_sl ([.ref (G.2.2.1 9 0)])).length) Slot.unset).toArray = ls at hl ⊢
  have hl : lv_has ls 1 [(0, .ref (G.2.2.1 9 0))] := hl
  unfold f9_worstSection at h
  refine lv_aload_n hx hb dX9_worstSection_0 rfl (lv_at hl 0 rfl) ?_
  refine r_iconst (n := 0) hx hb dX9_worstSection_1 ?_
  refine pp_9_6 hx hb hts in9 hown hK hI hS hv_this lk_46 dX9_worstSection_2 (fun st1 hst1 H locs hI hS => ?_)
  replace h := h st1 hst1
  refine lv_aload_n hx hb dX9_worstSection_5 rfl (lv_at hl 0 rfl) ?_
  refine r_callv (va_runV (As := []) (rest := []) ⟨hx, hb, hml, hown, hts⟩ (m9_lays l G hv_this _ st1 h) (cwV 0 hts gX9_worstSection_X9_lays rfl rfl rfl hd9_lays ⟨Nat.le_of_ble_eq_true rfl, Nat.le_of_ble_eq_true rfl⟩) (pre_V hK hX hI hA hS hv_this rfl rfl []) rfl rfl hl.1 rfl (lv_room (Nat.le_of_ble_eq_true rfl)) dX9_worstSection_6 ⟨Nat.le_of_ble_eq_true rfl, Nat.le_of_ble_eq_true rfl⟩) hS (fun st3 h H locs hI hS => ?_)
  refine lv_aload_n hx hb dX9_worstSection_9 rfl (lv_at hl 0 rfl) ?_
  refine r_calli (va_runV (As := []) (rest := []) ⟨hx, hb, hml, hown, hts⟩ (m9_worstPlace l G hv_this _ st3 h) (cwV 0 hts gX9_worstSection_X9_worstPlace rfl rfl rfl hd9_worstPlace ⟨Nat.le_of_ble_eq_true rfl, Nat.le_of_ble_eq_true rfl⟩) (pre_V hK hX hI hA hS hv_this rfl rfl []) rfl rfl hl.1 rfl (lv_room (Nat.le_of_ble_eq_true rfl)) dX9_worstSection_10 ⟨Nat.le_of_ble_eq_true rfl, Nat.le_of_ble_eq_true rfl⟩) hS (fun z4 st5 h H locs hI hS => ?_)
  exact r_iret hx hb hr hlocks hK hI hS (Qp := Q) h dX9_worstSection_13
theorem hd9_dangerAt : yX9_dangerAt.cls = RX9 ∧ yX9_dangerAt.cls ≠ "java/lang/invoke/MethodHandle" ∧ yX9_dangerAt.cls ≠ "java/lang/invoke/VarHandle" ∧ (parseMethodDescriptor yX9_dangerAt.desc).map (fun d => d.parameters.length) = some 1 := by decide +kernel
set_option maxHeartbeats 4000000 in
set_option maxRecDepth 100000 in
theorem m9_dangerAt (l : Launch) (G : WG)   (hv_this : vM 9 0) (Q : Int → St → Prop) (st : St) (a0 : Int) (h : f9_dangerAt Q st a0) : Met l yX9_dangerAt wsX9_dangerAt ({ frames := 4, cells := 0, slots := 0, locals := 96 }) (PcM vM G st [.ref (G.2.2.1 9 0), .int (iI a0)]) (QiM vM G Q) 0 0 G.2.2.2.1 := by
  refine Met.ofW (cc := cX9_dangerAt) (maxL := 7) (ret := (some .int)) (by decide) rfl ?_
  intro p e s m args below meth c s₁ B hml hvv
  obtain ⟨rfl, hA, hI, hK, hX⟩ := hvv
  have hx := B.exec
  have hb := B.bytes
  have hr := B.returns
  have hts := atoms_spec (ws := wsX9_dangerAt) B.pre
  have hown : s.vm.findClass RX9 = some m.cls := findClass_of_methodNamed B.named
  have hlocks := B.notSynchronized
  have hS : va_S G.2.2.2.1 s.heap s.heap [] := va_S.rf
  have in9 : ∀ w ∈ wsX90, w ∈ wsX9_dangerAt := by decide +kernel
  have lk_7 := hts (.fieldLink RX9 7 "BeamLinesModel" "a" "[I") (by decide +kernel)
  have lk_227 := hts (.fieldLink RX9 227 "BeamLinesModel" "unit" "J") (by decide +kernel)
  have hl := lv_entry ([.ref (G.2.2.1 9 0), .int (iI a0)]) (n := 7) (Nat.le_of_ble_eq_true rfl)
  rw [lg_entry_eq]
  generalize (lg_sl ([.ref (G.2.2.1 9 0), .int (iI a0)]) ++ List.replicate (7 - (lg_sl ([.ref (G.2.2.1 9 0), .int (iI a0)])).length) Slot.unset).toArray = ls at hl ⊢
  have hl : lv_has ls 7 [(0, .ref (G.2.2.1 9 0)), (1, .int (iI a0))] := hl
  have L110 : ∀ (n110 : Nat), ∀ (st : St) (v4x110 : Int) (H : Heap) (locs : List Loc) (ls : Array Slot), Iv vM G st H → va_S G.2.2.2.1 s.heap H locs → lv_has ls 7 [(0, .ref (G.2.2.1 9 0)), (1, .int (iI a0)), (4, .int (iI v4x110))] → f9_dangerAt_l110 Q a0 n110 st v4x110 → W p l e (headSpec wsX9_dangerAt ({ frames := 4, cells := 0, slots := 0, locals := 96 })).room s m ([.ref (G.2.2.1 9 0), .int (iI a0)] : List Value).toArray below meth c H locs 0 0 (MQ below (QiM vM G Q) ([.ref (G.2.2.1 9 0), .int (iI a0)] : List Value).toArray s 0 0 G.2.2.2.1) (F0 m 110 ls []) := by
    intro n110
    induction n110 with
    | zero =>
      intro st v4x110 H locs ls hI hS hl h
      exact h.elim
    | succ n110 ih110 =>
      intro st v4x110 H locs ls hI hS hl h
      unfold f9_dangerAt_l110 at h
      refine lv_iload hx hb dX9_dangerAt_110 (lv_at hl 2 rfl) ?_
      refine lv_aload_n hx hb dX9_dangerAt_112 rfl (lv_at hl 0 rfl) ?_
      refine r_calli (va_runV (As := []) (rest := [.int (iI v4x110)]) ⟨hx, hb, hml, hown, hts⟩ (m9_places l G hv_this _ st h) (cwV 0 hts gX9_dangerAt_X9_places rfl rfl rfl hd9_places ⟨Nat.le_of_ble_eq_true rfl, Nat.le_of_ble_eq_true rfl⟩) (pre_V hK hX hI hA hS hv_this rfl rfl []) rfl rfl hl.1 rfl (lv_room (Nat.le_of_ble_eq_true rfl)) dX9_dangerAt_113 ⟨Nat.le_of_ble_eq_true rfl, Nat.le_of_ble_eq_true rfl⟩) hS (fun z29 st30 h H locs hI hS => ?_)
      obtain ⟨g31, h⟩ := h
      obtain ⟨g32, h⟩ := h
      refine r_icmp_ge (tgt := 154) hx hb dX9_dangerAt_116 (by decide) g31 g32 (fun c33 => ?_) (fun c33 => ?_)
      · replace h := h.1 c33
        refine r_iconst (n := 0) hx hb dX9_dangerAt_154 ?_
        exact r_iret hx hb hr hlocks hK hI hS (Qp := Q) h dX9_dangerAt_155
      · replace h := h.2 c33
        refine lv_aload_n hx hb dX9_dangerAt_119 rfl (lv_at hl 0 rfl) ?_
        refine r_iconst (n := 2) hx hb dX9_dangerAt_120 ?_
        refine lv_iload hx hb dX9_dangerAt_121 (lv_at hl 2 rfl) ?_
        refine lv_iload_n hx hb dX9_dangerAt_123 rfl (lv_at hl 1 rfl) ?_
        refine r_calll (va_runV (As := [.int (iI 2), .int (iI v4x110), .int (iI a0)]) (rest := []) ⟨hx, hb, hml, hown, hts⟩ (m9_all l G hv_this _ st30 2 v4x110 a0 h) (cwV 3 hts gX9_dangerAt_X9_all rfl rfl rfl hd9_all ⟨Nat.le_of_ble_eq_true rfl, Nat.le_of_ble_eq_true rfl⟩) (pre_V hK hX hI hA hS hv_this rfl rfl [.int (iI 2), .int (iI v4x110), .int (iI a0)]) rfl rfl hl.1 rfl (lv_room (Nat.le_of_ble_eq_true rfl)) dX9_dangerAt_124 ⟨Nat.le_of_ble_eq_true rfl, Nat.le_of_ble_eq_true rfl⟩) hS (fun z34 st35 h H locs hI hS => ?_)
        refine r_calll (va_runS (As := [.long (lI z34)]) (rest := []) ⟨hx, hb, hml, hown, hts⟩ (m9_size l G _ st35 z34 h) (va_cwS 1 hts gX9_dangerAt_X9_size rfl rfl rfl hd9_size ⟨Nat.le_of_ble_eq_true rfl, Nat.le_of_ble_eq_true rfl⟩) (pre_S hK hX hI hA hS [.long (lI z34)]) rfl rfl hl.1 rfl (lv_room (Nat.le_of_ble_eq_true rfl)) dX9_dangerAt_127 ⟨Nat.le_of_ble_eq_true rfl, Nat.le_of_ble_eq_true rfl⟩) hS (fun z36 st37 h H locs hI hS => ?_)
        refine lv_aload_n hx hb dX9_dangerAt_130 rfl (lv_at hl 0 rfl) ?_
        refine gg_9_0 hx hb hts in9 hown hK hI hv_this lk_7 dX9_dangerAt_131 ?_
        refine r_iconst (n := 1) hx hb dX9_dangerAt_134 ?_
        refine r_iald hx hb hK hI (K := 30) (vrM_9_0 hv_this) rfl (mlen_le _) dX9_dangerAt_135 (by decide) (by decide) ?_
        obtain ⟨g38, h⟩ := h
        refine r_i2l hx hb dX9_dangerAt_136 g38 ?_
        refine lv_aload_n hx hb dX9_dangerAt_137 rfl (lv_at hl 0 rfl) ?_
        refine gg_9_18 hx hb hts in9 hown hK hI hv_this lk_227 dX9_dangerAt_138 ?_
        refine r_lmul hx hb dX9_dangerAt_141 ?_
        obtain ⟨g39, h⟩ := h
        obtain ⟨g40, h⟩ := h
        refine r_lcmp_le (tgt := 148) hx hb dX9_dangerAt_142 dX9_dangerAt_143 (by decide) g39 g40 (fun c41 => ?_) (fun c41 => ?_)
        · replace h := h.1 c41
          obtain ⟨x42, hx42⟩ : ∃ z : Int, z = v4x110 + 1 := ⟨_, rfl⟩
          replace h := h x42 hx42
          refine lv_iinc (v := iI x42) (lv' := [(4, .int (iI x42)), (0, .ref (G.2.2.1 9 0)), (1, .int (iI a0))]) hx hb dX9_dangerAt_148 hl (k := 2) rfl (by rw [hx42]; exact iI_add _ _) (by decide) rfl (fun ls hl => ?_)
          refine lv_goto (tgt := 110) hx hb dX9_dangerAt_151 (by decide) ?_
          exact ih110 st37 x42 _ _ ls hI hS (lv_sub hl [1, 2, 0] rfl) h
        · replace h := h.2 c41
          refine r_iconst (n := 3) hx hb dX9_dangerAt_146 ?_
          exact r_iret hx hb hr hlocks hK hI hS (Qp := Q) h dX9_dangerAt_147
  have J97 : ∀ (st : St) (v2x97 : Int) (H : Heap) (locs : List Loc) (ls : Array Slot), Iv vM G st H → va_S G.2.2.2.1 s.heap H locs → lv_has ls 7 [(2, .int (iI v2x97))] → f9_dangerAt_j97 Q st v2x97 → W p l e (headSpec wsX9_dangerAt ({ frames := 4, cells := 0, slots := 0, locals := 96 })).room s m ([.ref (G.2.2.1 9 0), .int (iI a0)] : List Value).toArray below meth c H locs 0 0 (MQ below (QiM vM G Q) ([.ref (G.2.2.1 9 0), .int (iI a0)] : List Value).toArray s 0 0 G.2.2.2.1) (F0 m 97 ls []) := by
    intro st v2x97 H locs ls hI hS hl h
    unfold f9_dangerAt_j97 at h
    refine lv_iload_n hx hb dX9_dangerAt_97 rfl (lv_at hl 0 rfl) ?_
    obtain ⟨g27, h⟩ := h
    refine r_if_eq (tgt := 105) hx hb dX9_dangerAt_98 (by decide) g27 (fun c28 => ?_) (fun c28 => ?_)
    · replace h := h.1 c28
      refine r_iconst (n := 2) hx hb dX9_dangerAt_105 ?_
      exact r_iret hx hb hr hlocks hK hI hS (Qp := Q) h dX9_dangerAt_106
    · replace h := h.2 c28
      refine r_iconst (n := 1) hx hb dX9_dangerAt_101 ?_
      refine lv_goto (tgt := 106) hx hb dX9_dangerAt_102 (by decide) ?_
      exact r_iret hx hb hr hlocks hK hI hS (Qp := Q) h dX9_dangerAt_106
  have L7 : ∀ (n7 : Nat), ∀ (st : St) (v2x7 : Int) (v3x7 : Int) (v4x7 : Int) (H : Heap) (locs : List Loc) (ls : Array Slot), Iv vM G st H → va_S G.2.2.2.1 s.heap H locs → lv_has ls 7 [(0, .ref (G.2.2.1 9 0)), (1, .int (iI a0)), (2, .int (iI v2x7)), (3, .int (iI v3x7)), (4, .int (iI v4x7))] → f9_dangerAt_l7 Q a0 n7 st v2x7 v3x7 v4x7 → W p l e (headSpec wsX9_dangerAt ({ frames := 4, cells := 0, slots := 0, locals := 96 })).room s m ([.ref (G.2.2.1 9 0), .int (iI a0)] : List Value).toArray below meth c H locs 0 0 (MQ below (QiM vM G Q) ([.ref (G.2.2.1 9 0), .int (iI a0)] : List Value).toArray s 0 0 G.2.2.2.1) (F0 m 7 ls []) := by
    intro n7
    induction n7 with
    | zero =>
      intro st v2x7 v3x7 v4x7 H locs ls hI hS hl h
      exact h.elim
    | succ n7 ih7 =>
      have J82 : ∀ (st : St) (v2x82 : Int) (v4x82 : Int) (s0x82 : Int) (H : Heap) (locs : List Loc) (ls : Array Slot), Iv vM G st H → va_S G.2.2.2.1 s.heap H locs → lv_has ls 7 [(0, .ref (G.2.2.1 9 0)), (1, .int (iI a0)), (2, .int (iI v2x82)), (4, .int (iI v4x82))] → f9_dangerAt_j82 (fun st v2x7 v3x7 v4x7 => f9_dangerAt_l7 Q a0 n7 st v2x7 v3x7 v4x7) Q a0 st v2x82 v4x82 s0x82 → W p l e (headSpec wsX9_dangerAt ({ frames := 4, cells := 0, slots := 0, locals := 96 })).room s m ([.ref (G.2.2.1 9 0), .int (iI a0)] : List Value).toArray below meth c H locs 0 0 (MQ below (QiM vM G Q) ([.ref (G.2.2.1 9 0), .int (iI a0)] : List Value).toArray s 0 0 G.2.2.2.1) (F0 m 82 ls [.int (iI s0x82)]) := by
        intro st v2x82 v4x82 s0x82 H locs ls hI hS hl h
        unfold f9_dangerAt_j82 at h
        refine lv_istore_n (lv' := [(3, .int (iI s0x82)), (0, .ref (G.2.2.1 9 0)), (1, .int (iI a0)), (2, .int (iI v2x82)), (4, .int (iI v4x82))]) hx hb dX9_dangerAt_82 rfl hl (by decide) rfl (fun ls hl => ?_)
        obtain ⟨x26, hx26⟩ : ∃ z : Int, z = v4x82 + 1 := ⟨_, rfl⟩
        replace h := h x26 hx26
        refine lv_iinc (v := iI x26) (lv' := [(4, .int (iI x26)), (3, .int (iI s0x82)), (0, .ref (G.2.2.1 9 0)), (1, .int (iI a0)), (2, .int (iI v2x82))]) hx hb dX9_dangerAt_83 hl (k := 4) rfl (by rw [hx26]; exact iI_add _ _) (by decide) rfl (fun ls hl => ?_)
        refine lv_goto (tgt := 7) hx hb dX9_dangerAt_86 (by decide) ?_
        exact ih7 st v2x82 s0x82 x26 _ _ ls hI hS (lv_sub hl [2, 3, 4, 1, 0] rfl) h
      have J81 : ∀ (st : St) (v2x81 : Int) (v4x81 : Int) (H : Heap) (locs : List Loc) (ls : Array Slot), Iv vM G st H → va_S G.2.2.2.1 s.heap H locs → lv_has ls 7 [(0, .ref (G.2.2.1 9 0)), (1, .int (iI a0)), (2, .int (iI v2x81)), (4, .int (iI v4x81))] → f9_dangerAt_j81 (fun st v2x7 v3x7 v4x7 => f9_dangerAt_l7 Q a0 n7 st v2x7 v3x7 v4x7) Q a0 st v2x81 v4x81 → W p l e (headSpec wsX9_dangerAt ({ frames := 4, cells := 0, slots := 0, locals := 96 })).room s m ([.ref (G.2.2.1 9 0), .int (iI a0)] : List Value).toArray below meth c H locs 0 0 (MQ below (QiM vM G Q) ([.ref (G.2.2.1 9 0), .int (iI a0)] : List Value).toArray s 0 0 G.2.2.2.1) (F0 m 81 ls []) := by
        intro st v2x81 v4x81 H locs ls hI hS hl h
        unfold f9_dangerAt_j81 at h
        refine r_iconst (n := 0) hx hb dX9_dangerAt_81 ?_
        exact J82 st v2x81 v4x81 0 _ _ ls hI hS (lv_sub hl [0, 1, 2, 3] rfl) h
      have J77 : ∀ (st : St) (v2x77 : Int) (v4x77 : Int) (H : Heap) (locs : List Loc) (ls : Array Slot), Iv vM G st H → va_S G.2.2.2.1 s.heap H locs → lv_has ls 7 [(0, .ref (G.2.2.1 9 0)), (1, .int (iI a0)), (2, .int (iI v2x77)), (4, .int (iI v4x77))] → f9_dangerAt_j77 (fun st v2x7 v3x7 v4x7 => f9_dangerAt_l7 Q a0 n7 st v2x7 v3x7 v4x7) Q a0 st v2x77 v4x77 → W p l e (headSpec wsX9_dangerAt ({ frames := 4, cells := 0, slots := 0, locals := 96 })).room s m ([.ref (G.2.2.1 9 0), .int (iI a0)] : List Value).toArray below meth c H locs 0 0 (MQ below (QiM vM G Q) ([.ref (G.2.2.1 9 0), .int (iI a0)] : List Value).toArray s 0 0 G.2.2.2.1) (F0 m 77 ls []) := by
        intro st v2x77 v4x77 H locs ls hI hS hl h
        unfold f9_dangerAt_j77 at h
        refine r_iconst (n := 1) hx hb dX9_dangerAt_77 ?_
        refine lv_goto (tgt := 82) hx hb dX9_dangerAt_78 (by decide) ?_
        exact J82 st v2x77 v4x77 1 _ _ ls hI hS (lv_sub hl [0, 1, 2, 3] rfl) h
      have J44 : ∀ (st : St) (v3x44 : Int) (v4x44 : Int) (v5x44 : Int) (s0x44 : Int) (H : Heap) (locs : List Loc) (ls : Array Slot), Iv vM G st H → va_S G.2.2.2.1 s.heap H locs → lv_has ls 7 [(0, .ref (G.2.2.1 9 0)), (1, .int (iI a0)), (3, .int (iI v3x44)), (4, .int (iI v4x44)), (5, .long (lI v5x44))] → f9_dangerAt_j44 (fun st v2x7 v3x7 v4x7 => f9_dangerAt_l7 Q a0 n7 st v2x7 v3x7 v4x7) Q a0 st v3x44 v4x44 v5x44 s0x44 → W p l e (headSpec wsX9_dangerAt ({ frames := 4, cells := 0, slots := 0, locals := 96 })).room s m ([.ref (G.2.2.1 9 0), .int (iI a0)] : List Value).toArray below meth c H locs 0 0 (MQ below (QiM vM G Q) ([.ref (G.2.2.1 9 0), .int (iI a0)] : List Value).toArray s 0 0 G.2.2.2.1) (F0 m 44 ls [.int (iI s0x44)]) := by
        intro st v3x44 v4x44 v5x44 s0x44 H locs ls hI hS hl h
        unfold f9_dangerAt_j44 at h
        refine lv_istore_n (lv' := [(2, .int (iI s0x44)), (0, .ref (G.2.2.1 9 0)), (1, .int (iI a0)), (3, .int (iI v3x44)), (4, .int (iI v4x44)), (5, .long (lI v5x44))]) hx hb dX9_dangerAt_44 rfl hl (by decide) rfl (fun ls hl => ?_)
        refine lv_iload_n hx hb dX9_dangerAt_45 rfl (lv_at hl 3 rfl) ?_
        obtain ⟨g14, h⟩ := h
        refine r_if_ne (tgt := 77) hx hb dX9_dangerAt_46 (by decide) g14 (fun c15 => ?_) (fun c15 => ?_)
        · replace h := h.2 c15
          exact J77 st s0x44 v4x44 _ _ ls hI hS (lv_sub hl [1, 2, 0, 4] rfl) h
        · replace h := h.1 c15
          refine lv_aload_n hx hb dX9_dangerAt_49 rfl (lv_at hl 1 rfl) ?_
          refine lv_iload hx hb dX9_dangerAt_50 (lv_at hl 4 rfl) ?_
          refine r_calli (va_runV (As := [.int (iI v4x44)]) (rest := []) ⟨hx, hb, hml, hown, hts⟩ (m9_bearsOf l G hv_this _ st v4x44 h) (cwV 1 hts gX9_dangerAt_X9_bearsOf rfl rfl rfl hd9_bearsOf ⟨Nat.le_of_ble_eq_true rfl, Nat.le_of_ble_eq_true rfl⟩) (pre_V hK hX hI hA hS hv_this rfl rfl [.int (iI v4x44)]) rfl rfl hl.1 rfl (lv_room (Nat.le_of_ble_eq_true rfl)) dX9_dangerAt_52 ⟨Nat.le_of_ble_eq_true rfl, Nat.le_of_ble_eq_true rfl⟩) hS (fun z16 st17 h H locs hI hS => ?_)
          refine r_iconst (n := (-1)) hx hb dX9_dangerAt_55 ?_
          obtain ⟨g18, h⟩ := h
          refine r_icmp_eq (tgt := 81) hx hb dX9_dangerAt_56 (by decide) g18 (inI_mk rfl) (fun c19 => ?_) (fun c19 => ?_)
          · replace h := h.1 c19
            exact J81 st17 s0x44 v4x44 _ _ ls hI hS (lv_sub hl [1, 2, 0, 4] rfl) h
          · replace h := h.2 c19
            refine lv_lload hx hb dX9_dangerAt_59 (lv_at hl 5 rfl) ?_
            refine lv_aload_n hx hb dX9_dangerAt_61 rfl (lv_at hl 1 rfl) ?_
            refine lv_iload hx hb dX9_dangerAt_62 (lv_at hl 4 rfl) ?_
            refine r_calli (va_runV (As := [.int (iI v4x44)]) (rest := [.long (lI v5x44)]) ⟨hx, hb, hml, hown, hts⟩ (m9_bearsOf l G hv_this _ st17 v4x44 h) (cwV 1 hts gX9_dangerAt_X9_bearsOf rfl rfl rfl hd9_bearsOf ⟨Nat.le_of_ble_eq_true rfl, Nat.le_of_ble_eq_true rfl⟩) (pre_V hK hX hI hA hS hv_this rfl rfl [.int (iI v4x44)]) rfl rfl hl.1 rfl (lv_room (Nat.le_of_ble_eq_true rfl)) dX9_dangerAt_64 ⟨Nat.le_of_ble_eq_true rfl, Nat.le_of_ble_eq_true rfl⟩) hS (fun z20 st21 h H locs hI hS => ?_)
            obtain ⟨g22, h⟩ := h
            refine r_i2l hx hb dX9_dangerAt_67 g22 ?_
            refine lv_aload_n hx hb dX9_dangerAt_68 rfl (lv_at hl 1 rfl) ?_
            refine gg_9_18 hx hb hts in9 hown hK hI hv_this lk_227 dX9_dangerAt_69 ?_
            refine r_lmul hx hb dX9_dangerAt_72 ?_
            obtain ⟨g23, h⟩ := h
            obtain ⟨g24, h⟩ := h
            refine r_lcmp_le (tgt := 81) hx hb dX9_dangerAt_73 dX9_dangerAt_74 (by decide) g23 g24 (fun c25 => ?_) (fun c25 => ?_)
            · replace h := h.1 c25
              exact J81 st21 s0x44 v4x44 _ _ ls hI hS (lv_sub hl [1, 2, 0, 4] rfl) h
            · replace h := h.2 c25
              exact J77 st21 s0x44 v4x44 _ _ ls hI hS (lv_sub hl [1, 2, 0, 4] rfl) h
      have J39 : ∀ (st : St) (v3x39 : Int) (v4x39 : Int) (v5x39 : Int) (H : Heap) (locs : List Loc) (ls : Array Slot), Iv vM G st H → va_S G.2.2.2.1 s.heap H locs → lv_has ls 7 [(0, .ref (G.2.2.1 9 0)), (1, .int (iI a0)), (3, .int (iI v3x39)), (4, .int (iI v4x39)), (5, .long (lI v5x39))] → f9_dangerAt_j39 (fun st v2x7 v3x7 v4x7 => f9_dangerAt_l7 Q a0 n7 st v2x7 v3x7 v4x7) Q a0 st v3x39 v4x39 v5x39 → W p l e (headSpec wsX9_dangerAt ({ frames := 4, cells := 0, slots := 0, locals := 96 })).room s m ([.ref (G.2.2.1 9 0), .int (iI a0)] : List Value).toArray below meth c H locs 0 0 (MQ below (QiM vM G Q) ([.ref (G.2.2.1 9 0), .int (iI a0)] : List Value).toArray s 0 0 G.2.2.2.1) (F0 m 39 ls []) := by
        intro st v3x39 v4x39 v5x39 H locs ls hI hS hl h
        unfold f9_dangerAt_j39 at h
        refine r_iconst (n := 1) hx hb dX9_dangerAt_39 ?_
        refine lv_goto (tgt := 44) hx hb dX9_dangerAt_40 (by decide) ?_
        exact J44 st v3x39 v4x39 v5x39 1 _ _ ls hI hS (lv_sub hl [0, 1, 2, 3, 4] rfl) h
      intro st v2x7 v3x7 v4x7 H locs ls hI hS hl h
      unfold f9_dangerAt_l7 at h
      refine lv_iload hx hb dX9_dangerAt_7 (lv_at hl 4 rfl) ?_
      refine lv_aload_n hx hb dX9_dangerAt_9 rfl (lv_at hl 0 rfl) ?_
      refine gg_9_0 hx hb hts in9 hown hK hI hv_this lk_7 dX9_dangerAt_10 ?_
      refine r_iconst (n := 2) hx hb dX9_dangerAt_13 ?_
      refine r_iald hx hb hK hI (K := 30) (vrM_9_0 hv_this) rfl (mlen_le _) dX9_dangerAt_14 (by decide) (by decide) ?_
      obtain ⟨g1, h⟩ := h
      obtain ⟨g2, h⟩ := h
      refine r_icmp_ge (tgt := 89) hx hb dX9_dangerAt_15 (by decide) g1 g2 (fun c3 => ?_) (fun c3 => ?_)
      · replace h := h.1 c3
        refine lv_iload_n hx hb dX9_dangerAt_89 rfl (lv_at hl 2 rfl) ?_
        obtain ⟨g4, h⟩ := h
        refine r_if_ne (tgt := 97) hx hb dX9_dangerAt_90 (by decide) g4 (fun c5 => ?_) (fun c5 => ?_)
        · replace h := h.2 c5
          exact J97 st v2x7 _ _ ls hI hS (lv_sub hl [2] rfl) h
        · replace h := h.1 c5
          refine lv_iload_n hx hb dX9_dangerAt_93 rfl (lv_at hl 3 rfl) ?_
          obtain ⟨g6, h⟩ := h
          refine r_if_eq (tgt := 107) hx hb dX9_dangerAt_94 (by decide) g6 (fun c7 => ?_) (fun c7 => ?_)
          · replace h := h.1 c7
            refine r_iconst (n := 0) hx hb dX9_dangerAt_107 ?_
            refine lv_istore (lv' := [(4, .int (iI 0)), (0, .ref (G.2.2.1 9 0)), (1, .int (iI a0)), (2, .int (iI v2x7)), (3, .int (iI v3x7))]) hx hb dX9_dangerAt_108 hl (by decide) rfl (fun ls hl => ?_)
            obtain ⟨kk, h⟩ := h
            exact L110 kk st 0 _ _ ls hI hS (lv_sub hl [1, 2, 0] rfl) h
          · replace h := h.2 c7
            exact J97 st v2x7 _ _ ls hI hS (lv_sub hl [2] rfl) h
      · replace h := h.2 c3
        refine lv_aload_n hx hb dX9_dangerAt_18 rfl (lv_at hl 0 rfl) ?_
        refine r_iconst (n := 0) hx hb dX9_dangerAt_19 ?_
        refine lv_iload hx hb dX9_dangerAt_20 (lv_at hl 4 rfl) ?_
        refine lv_iload_n hx hb dX9_dangerAt_22 rfl (lv_at hl 1 rfl) ?_
        refine r_calll (va_runV (As := [.int (iI 0), .int (iI v4x7), .int (iI a0)]) (rest := []) ⟨hx, hb, hml, hown, hts⟩ (m9_all l G hv_this _ st 0 v4x7 a0 h) (cwV 3 hts gX9_dangerAt_X9_all rfl rfl rfl hd9_all ⟨Nat.le_of_ble_eq_true rfl, Nat.le_of_ble_eq_true rfl⟩) (pre_V hK hX hI hA hS hv_this rfl rfl [.int (iI 0), .int (iI v4x7), .int (iI a0)]) rfl rfl hl.1 rfl (lv_room (Nat.le_of_ble_eq_true rfl)) dX9_dangerAt_23 ⟨Nat.le_of_ble_eq_true rfl, Nat.le_of_ble_eq_true rfl⟩) hS (fun z8 st9 h H locs hI hS => ?_)
        refine lv_lstore (lv' := [(5, .long (lI z8)), (0, .ref (G.2.2.1 9 0)), (1, .int (iI a0)), (2, .int (iI v2x7)), (3, .int (iI v3x7)), (4, .int (iI v4x7))]) hx hb dX9_dangerAt_26 hl (by decide) rfl (fun ls hl => ?_)
        refine lv_iload_n hx hb dX9_dangerAt_28 rfl (lv_at hl 3 rfl) ?_
        obtain ⟨g10, h⟩ := h
        refine r_if_ne (tgt := 39) hx hb dX9_dangerAt_29 (by decide) g10 (fun c11 => ?_) (fun c11 => ?_)
        · replace h := h.2 c11
          exact J39 st9 v3x7 v4x7 z8 _ _ ls hI hS (lv_sub hl [1, 2, 4, 5, 0] rfl) h
        · replace h := h.1 c11
          refine lv_lload hx hb dX9_dangerAt_32 (lv_at hl 0 rfl) ?_
          refine r_lconst (z := 0) hx hb dX9_dangerAt_34 rfl ?_
          obtain ⟨g12, h⟩ := h
          refine r_lcmp_ge (tgt := 43) hx hb dX9_dangerAt_35 dX9_dangerAt_36 (by decide) g12 (inL_mk rfl) (fun c13 => ?_) (fun c13 => ?_)
          · replace h := h.1 c13
            refine r_iconst (n := 0) hx hb dX9_dangerAt_43 ?_
            exact J44 st9 v3x7 v4x7 z8 0 _ _ ls hI hS (lv_sub hl [1, 2, 4, 5, 0] rfl) h
          · replace h := h.2 c13
            exact J39 st9 v3x7 v4x7 z8 _ _ ls hI hS (lv_sub hl [1, 2, 4, 5, 0] rfl) h
  unfold f9_dangerAt at h
  refine r_iconst (n := 0) hx hb dX9_dangerAt_0 ?_
  refine lv_istore_n (lv' := [(2, .int (iI 0)), (0, .ref (G.2.2.1 9 0)), (1, .int (iI a0))]) hx hb dX9_dangerAt_1 rfl hl (by decide) rfl (fun ls hl => ?_)
  refine r_iconst (n := 0) hx hb dX9_dangerAt_2 ?_
  refine lv_istore_n (lv' := [(3, .int (iI 0)), (2, .int (iI 0)), (0, .ref (G.2.2.1 9 0)), (1, .int (iI a0))]) hx hb dX9_dangerAt_3 rfl hl (by decide) rfl (fun ls hl => ?_)
  refine r_iconst (n := 0) hx hb dX9_dangerAt_4 ?_
  refine lv_istore (lv' := [(4, .int (iI 0)), (3, .int (iI 0)), (2, .int (iI 0)), (0, .ref (G.2.2.1 9 0)), (1, .int (iI a0))]) hx hb dX9_dangerAt_5 hl (by decide) rfl (fun ls hl => ?_)
  obtain ⟨kk, h⟩ := h
  exact L7 kk st 0 0 0 _ _ ls hI hS (lv_sub hl [3, 4, 2, 1, 0] rfl) h
theorem hd9_danger : yX9_danger.cls = RX9 ∧ yX9_danger.cls ≠ "java/lang/invoke/MethodHandle" ∧ yX9_danger.cls ≠ "java/lang/invoke/VarHandle" ∧ (parseMethodDescriptor yX9_danger.desc).map (fun d => d.parameters.length) = some 1 := by decide +kernel
set_option maxHeartbeats 4000000 in
set_option maxRecDepth 100000 in
theorem m9_danger (l : Launch) (G : WG)   (hv_this : vM 9 0) (Q : Int → St → Prop) (st : St) (a0 : Int) (h : f9_danger Q st a0) : Met l yX9_danger wsX9_danger ({ frames := 5, cells := 0, slots := 0, locals := 122 }) (PcM vM G st [.ref (G.2.2.1 9 0), .int (iI a0)]) (QiM vM G Q) 0 0 G.2.2.2.1 := by
  refine Met.ofW (cc := cX9_danger) (maxL := 2) (ret := (some .int)) (by decide) rfl ?_
  intro p e s m args below meth c s₁ B hml hvv
  obtain ⟨rfl, hA, hI, hK, hX⟩ := hvv
  have hx := B.exec
  have hb := B.bytes
  have hr := B.returns
  have hts := atoms_spec (ws := wsX9_danger) B.pre
  have hown : s.vm.findClass RX9 = some m.cls := findClass_of_methodNamed B.named
  have hlocks := B.notSynchronized
  have hS : va_S G.2.2.2.1 s.heap s.heap [] := va_S.rf
  have in9 : ∀ w ∈ wsX90, w ∈ wsX9_danger := by decide +kernel
  have lk_46 := hts (.fieldLink RX9 46 "BeamLinesModel" "thrown" "I") (by decide +kernel)
  have hl := lv_entry ([.ref (G.2.2.1 9 0), .int (iI a0)]) (n := 2) (Nat.le_of_ble_eq_true rfl)
  rw [lg_entry_eq]
  generalize (lg_sl ([.ref (G.2.2.1 9 0), .int (iI a0)]) ++ List.replicate (2 - (lg_sl ([.ref (G.2.2.1 9 0), .int (iI a0)])).length) Slot.unset).toArray = ls at hl ⊢
  have hl : lv_has ls 2 [(0, .ref (G.2.2.1 9 0)), (1, .int (iI a0))] := hl
  have J14 : ∀ (st : St) (s0x14 : Int) (H : Heap) (locs : List Loc) (ls : Array Slot), Iv vM G st H → va_S G.2.2.2.1 s.heap H locs → lv_has ls 2 [(0, .ref (G.2.2.1 9 0)), (1, .int (iI a0))] → f9_danger_j14 Q a0 st s0x14 → W p l e (headSpec wsX9_danger ({ frames := 5, cells := 0, slots := 0, locals := 122 })).room s m ([.ref (G.2.2.1 9 0), .int (iI a0)] : List Value).toArray below meth c H locs 0 0 (MQ below (QiM vM G Q) ([.ref (G.2.2.1 9 0), .int (iI a0)] : List Value).toArray s 0 0 G.2.2.2.1) (F0 m 14 ls [.int (iI s0x14), .ref (G.2.2.1 9 0)]) := by
    intro st s0x14 H locs ls hI hS hl h
    unfold f9_danger_j14 at h
    refine pp_9_6 hx hb hts in9 hown hK hI hS hv_this lk_46 dX9_danger_14 (fun st5 hst5 H locs hI hS => ?_)
    replace h := h st5 hst5
    refine lv_aload_n hx hb dX9_danger_17 rfl (lv_at hl 0 rfl) ?_
    refine gg_9_6 hx hb hts in9 hown hK hI hv_this lk_46 dX9_danger_18 ?_
    obtain ⟨g6, h⟩ := h
    refine r_if_le (tgt := 26) hx hb dX9_danger_21 (by decide) g6 (fun c7 => ?_) (fun c7 => ?_)
    · replace h := h.1 c7
      refine lv_aload_n hx hb dX9_danger_26 rfl (lv_at hl 0 rfl) ?_
      refine r_callv (va_runV (As := []) (rest := []) ⟨hx, hb, hml, hown, hts⟩ (m9_lays l G hv_this _ st5 h) (cwV 0 hts gX9_danger_X9_lays rfl rfl rfl hd9_lays ⟨Nat.le_of_ble_eq_true rfl, Nat.le_of_ble_eq_true rfl⟩) (pre_V hK hX hI hA hS hv_this rfl rfl []) rfl rfl hl.1 rfl (lv_room (Nat.le_of_ble_eq_true rfl)) dX9_danger_27 ⟨Nat.le_of_ble_eq_true rfl, Nat.le_of_ble_eq_true rfl⟩) hS (fun st9 h H locs hI hS => ?_)
      refine lv_aload_n hx hb dX9_danger_30 rfl (lv_at hl 0 rfl) ?_
      refine lv_iload_n hx hb dX9_danger_31 rfl (lv_at hl 1 rfl) ?_
      refine r_calli (va_runV (As := [.int (iI a0)]) (rest := []) ⟨hx, hb, hml, hown, hts⟩ (m9_dangerAt l G hv_this _ st9 a0 h) (cwV 1 hts gX9_danger_X9_dangerAt rfl rfl rfl hd9_dangerAt ⟨Nat.le_of_ble_eq_true rfl, Nat.le_of_ble_eq_true rfl⟩) (pre_V hK hX hI hA hS hv_this rfl rfl [.int (iI a0)]) rfl rfl hl.1 rfl (lv_room (Nat.le_of_ble_eq_true rfl)) dX9_danger_32 ⟨Nat.le_of_ble_eq_true rfl, Nat.le_of_ble_eq_true rfl⟩) hS (fun z10 st11 h H locs hI hS => ?_)
      exact r_iret hx hb hr hlocks hK hI hS (Qp := Q) h dX9_danger_35
    · replace h := h.2 c7
      refine r_iconst (n := 0) hx hb dX9_danger_24 ?_
      exact r_iret hx hb hr hlocks hK hI hS (Qp := Q) h dX9_danger_25
  unfold f9_danger at h
  refine lv_aload_n hx hb dX9_danger_0 rfl (lv_at hl 0 rfl) ?_
  refine lv_aload_n hx hb dX9_danger_1 rfl (lv_at hl 0 rfl) ?_
  refine lv_iload_n hx hb dX9_danger_2 rfl (lv_at hl 1 rfl) ?_
  refine r_calli (va_runV (As := [.int (iI a0)]) (rest := [.ref (G.2.2.1 9 0)]) ⟨hx, hb, hml, hown, hts⟩ (m9_isHead l G hv_this _ st a0 h) (cwV 1 hts gX9_danger_X9_isHead rfl rfl rfl hd9_isHead ⟨Nat.le_of_ble_eq_true rfl, Nat.le_of_ble_eq_true rfl⟩) (pre_V hK hX hI hA hS hv_this rfl rfl [.int (iI a0)]) rfl rfl hl.1 rfl (lv_room (Nat.le_of_ble_eq_true rfl)) dX9_danger_3 ⟨Nat.le_of_ble_eq_true rfl, Nat.le_of_ble_eq_true rfl⟩) hS (fun z1 st2 h H locs hI hS => ?_)
  obtain ⟨g3, h⟩ := h
  refine r_if_eq (tgt := 13) hx hb dX9_danger_6 (by decide) g3 (fun c4 => ?_) (fun c4 => ?_)
  · replace h := h.1 c4
    refine r_iconst (n := 1) hx hb dX9_danger_13 ?_
    exact J14 st2 1 _ _ ls hI hS (lv_sub hl [0, 1] rfl) h
  · replace h := h.2 c4
    refine r_iconst (n := 0) hx hb dX9_danger_9 ?_
    refine lv_goto (tgt := 14) hx hb dX9_danger_10 (by decide) ?_
    exact J14 st2 0 _ _ ls hI hS (lv_sub hl [0, 1] rfl) h
theorem hd9_firstBad : yX9_firstBad.cls = RX9 ∧ yX9_firstBad.cls ≠ "java/lang/invoke/MethodHandle" ∧ yX9_firstBad.cls ≠ "java/lang/invoke/VarHandle" ∧ (parseMethodDescriptor yX9_firstBad.desc).map (fun d => d.parameters.length) = some 0 := by decide +kernel
set_option maxHeartbeats 4000000 in
set_option maxRecDepth 100000 in
theorem m9_firstBad (l : Launch) (G : WG)   (hv_this : vM 9 0) (Q : Int → St → Prop) (st : St)  (h : f9_firstBad Q st) : Met l yX9_firstBad wsX9_firstBad ({ frames := 5, cells := 0, slots := 0, locals := 122 }) (PcM vM G st [.ref (G.2.2.1 9 0)]) (QiM vM G Q) 0 0 G.2.2.2.1 := by
  refine Met.ofW (cc := cX9_firstBad) (maxL := 2) (ret := (some .int)) (by decide) rfl ?_
  intro p e s m args below meth c s₁ B hml hvv
  obtain ⟨rfl, hA, hI, hK, hX⟩ := hvv
  have hx := B.exec
  have hb := B.bytes
  have hr := B.returns
  have hts := atoms_spec (ws := wsX9_firstBad) B.pre
  have hown : s.vm.findClass RX9 = some m.cls := findClass_of_methodNamed B.named
  have hlocks := B.notSynchronized
  have hS : va_S G.2.2.2.1 s.heap s.heap [] := va_S.rf
  have hl := lv_entry ([.ref (G.2.2.1 9 0)]) (n := 2) (Nat.le_of_ble_eq_true rfl)
  rw [lg_entry_eq]
  generalize (lg_sl ([.ref (G.2.2.1 9 0)]) ++ List.replicate (2 - (lg_sl ([.ref (G.2.2.1 9 0)])).length) Slot.unset).toArray = ls at hl ⊢
  have hl : lv_has ls 2 [(0, .ref (G.2.2.1 9 0))] := hl
  have L2 : ∀ (n2 : Nat), ∀ (st : St) (v1x2 : Int) (H : Heap) (locs : List Loc) (ls : Array Slot), Iv vM G st H → va_S G.2.2.2.1 s.heap H locs → lv_has ls 2 [(0, .ref (G.2.2.1 9 0)), (1, .int (iI v1x2))] → f9_firstBad_l2 Q n2 st v1x2 → W p l e (headSpec wsX9_firstBad ({ frames := 5, cells := 0, slots := 0, locals := 122 })).room s m ([.ref (G.2.2.1 9 0)] : List Value).toArray below meth c H locs 0 0 (MQ below (QiM vM G Q) ([.ref (G.2.2.1 9 0)] : List Value).toArray s 0 0 G.2.2.2.1) (F0 m 2 ls []) := by
    intro n2
    induction n2 with
    | zero =>
      intro st v1x2 H locs ls hI hS hl h
      exact h.elim
    | succ n2 ih2 =>
      intro st v1x2 H locs ls hI hS hl h
      unfold f9_firstBad_l2 at h
      refine lv_iload_n hx hb dX9_firstBad_2 rfl (lv_at hl 1 rfl) ?_
      refine lv_aload_n hx hb dX9_firstBad_3 rfl (lv_at hl 0 rfl) ?_
      refine r_calli (va_runV (As := []) (rest := [.int (iI v1x2)]) ⟨hx, hb, hml, hown, hts⟩ (m9_lastHead l G hv_this _ st h) (cwV 0 hts gX9_firstBad_X9_lastHead rfl rfl rfl hd9_lastHead ⟨Nat.le_of_ble_eq_true rfl, Nat.le_of_ble_eq_true rfl⟩) (pre_V hK hX hI hA hS hv_this rfl rfl []) rfl rfl hl.1 rfl (lv_room (Nat.le_of_ble_eq_true rfl)) dX9_firstBad_4 ⟨Nat.le_of_ble_eq_true rfl, Nat.le_of_ble_eq_true rfl⟩) hS (fun z1 st2 h H locs hI hS => ?_)
      obtain ⟨g3, h⟩ := h
      obtain ⟨g4, h⟩ := h
      refine r_icmp_gt (tgt := 26) hx hb dX9_firstBad_7 (by decide) g3 g4 (fun c5 => ?_) (fun c5 => ?_)
      · replace h := h.1 c5
        refine r_iconst (n := (-1)) hx hb dX9_firstBad_26 ?_
        exact r_iret hx hb hr hlocks hK hI hS (Qp := Q) h dX9_firstBad_27
      · replace h := h.2 c5
        refine lv_aload_n hx hb dX9_firstBad_10 rfl (lv_at hl 0 rfl) ?_
        refine lv_iload_n hx hb dX9_firstBad_11 rfl (lv_at hl 1 rfl) ?_
        refine r_calli (va_runV (As := [.int (iI v1x2)]) (rest := []) ⟨hx, hb, hml, hown, hts⟩ (m9_dangerAt l G hv_this _ st2 v1x2 h) (cwV 1 hts gX9_firstBad_X9_dangerAt rfl rfl rfl hd9_dangerAt ⟨Nat.le_of_ble_eq_true rfl, Nat.le_of_ble_eq_true rfl⟩) (pre_V hK hX hI hA hS hv_this rfl rfl [.int (iI v1x2)]) rfl rfl hl.1 rfl (lv_room (Nat.le_of_ble_eq_true rfl)) dX9_firstBad_12 ⟨Nat.le_of_ble_eq_true rfl, Nat.le_of_ble_eq_true rfl⟩) hS (fun z6 st7 h H locs hI hS => ?_)
        obtain ⟨g8, h⟩ := h
        refine r_if_le (tgt := 20) hx hb dX9_firstBad_15 (by decide) g8 (fun c9 => ?_) (fun c9 => ?_)
        · replace h := h.1 c9
          obtain ⟨x10, hx10⟩ : ∃ z : Int, z = v1x2 + 1 := ⟨_, rfl⟩
          replace h := h x10 hx10
          refine lv_iinc (v := iI x10) (lv' := [(1, .int (iI x10)), (0, .ref (G.2.2.1 9 0))]) hx hb dX9_firstBad_20 hl (k := 1) rfl (by rw [hx10]; exact iI_add _ _) (by decide) rfl (fun ls hl => ?_)
          refine lv_goto (tgt := 2) hx hb dX9_firstBad_23 (by decide) ?_
          exact ih2 st7 x10 _ _ ls hI hS (lv_sub hl [1, 0] rfl) h
        · replace h := h.2 c9
          refine lv_iload_n hx hb dX9_firstBad_18 rfl (lv_at hl 1 rfl) ?_
          exact r_iret hx hb hr hlocks hK hI hS (Qp := Q) h dX9_firstBad_19
  unfold f9_firstBad at h
  refine r_iconst (n := 0) hx hb dX9_firstBad_0 ?_
  refine lv_istore_n (lv' := [(1, .int (iI 0)), (0, .ref (G.2.2.1 9 0))]) hx hb dX9_firstBad_1 rfl hl (by decide) rfl (fun ls hl => ?_)
  obtain ⟨kk, h⟩ := h
  exact L2 kk st 0 _ _ ls hI hS (lv_sub hl [1, 0] rfl) h
theorem hd9_firstDanger : yX9_firstDanger.cls = RX9 ∧ yX9_firstDanger.cls ≠ "java/lang/invoke/MethodHandle" ∧ yX9_firstDanger.cls ≠ "java/lang/invoke/VarHandle" ∧ (parseMethodDescriptor yX9_firstDanger.desc).map (fun d => d.parameters.length) = some 0 := by decide +kernel
set_option maxHeartbeats 4000000 in
set_option maxRecDepth 100000 in
theorem m9_firstDanger (l : Launch) (G : WG)   (hv_this : vM 9 0) (Q : Int → St → Prop) (st : St)  (h : f9_firstDanger Q st) : Met l yX9_firstDanger wsX9_firstDanger ({ frames := 6, cells := 0, slots := 0, locals := 143 }) (PcM vM G st [.ref (G.2.2.1 9 0)]) (QiM vM G Q) 0 0 G.2.2.2.1 := by
  refine Met.ofW (cc := cX9_firstDanger) (maxL := 1) (ret := (some .int)) (by decide) rfl ?_
  intro p e s m args below meth c s₁ B hml hvv
  obtain ⟨rfl, hA, hI, hK, hX⟩ := hvv
  have hx := B.exec
  have hb := B.bytes
  have hr := B.returns
  have hts := atoms_spec (ws := wsX9_firstDanger) B.pre
  have hown : s.vm.findClass RX9 = some m.cls := findClass_of_methodNamed B.named
  have hlocks := B.notSynchronized
  have hS : va_S G.2.2.2.1 s.heap s.heap [] := va_S.rf
  have in9 : ∀ w ∈ wsX90, w ∈ wsX9_firstDanger := by decide +kernel
  have lk_46 := hts (.fieldLink RX9 46 "BeamLinesModel" "thrown" "I") (by decide +kernel)
  have hl := lv_entry ([.ref (G.2.2.1 9 0)]) (n := 1) (Nat.le_of_ble_eq_true rfl)
  rw [lg_entry_eq]
  generalize (lg_sl ([.ref (G.2.2.1 9 0)]) ++ List.replicate (1 - (lg_sl ([.ref (G.2.2.1 9 0)])).length) Slot.unset).toArray = ls at hl ⊢
  have hl : lv_has ls 1 [(0, .ref (G.2.2.1 9 0))] := hl
  unfold f9_firstDanger at h
  refine lv_aload_n hx hb dX9_firstDanger_0 rfl (lv_at hl 0 rfl) ?_
  refine r_iconst (n := 0) hx hb dX9_firstDanger_1 ?_
  refine pp_9_6 hx hb hts in9 hown hK hI hS hv_this lk_46 dX9_firstDanger_2 (fun st1 hst1 H locs hI hS => ?_)
  replace h := h st1 hst1
  refine lv_aload_n hx hb dX9_firstDanger_5 rfl (lv_at hl 0 rfl) ?_
  refine r_callv (va_runV (As := []) (rest := []) ⟨hx, hb, hml, hown, hts⟩ (m9_lays l G hv_this _ st1 h) (cwV 0 hts gX9_firstDanger_X9_lays rfl rfl rfl hd9_lays ⟨Nat.le_of_ble_eq_true rfl, Nat.le_of_ble_eq_true rfl⟩) (pre_V hK hX hI hA hS hv_this rfl rfl []) rfl rfl hl.1 rfl (lv_room (Nat.le_of_ble_eq_true rfl)) dX9_firstDanger_6 ⟨Nat.le_of_ble_eq_true rfl, Nat.le_of_ble_eq_true rfl⟩) hS (fun st3 h H locs hI hS => ?_)
  refine lv_aload_n hx hb dX9_firstDanger_9 rfl (lv_at hl 0 rfl) ?_
  refine r_calli (va_runV (As := []) (rest := []) ⟨hx, hb, hml, hown, hts⟩ (m9_firstBad l G hv_this _ st3 h) (cwV 0 hts gX9_firstDanger_X9_firstBad rfl rfl rfl hd9_firstBad ⟨Nat.le_of_ble_eq_true rfl, Nat.le_of_ble_eq_true rfl⟩) (pre_V hK hX hI hA hS hv_this rfl rfl []) rfl rfl hl.1 rfl (lv_room (Nat.le_of_ble_eq_true rfl)) dX9_firstDanger_10 ⟨Nat.le_of_ble_eq_true rfl, Nat.le_of_ble_eq_true rfl⟩) hS (fun z4 st5 h H locs hI hS => ?_)
  exact r_iret hx hb hr hlocks hK hI hS (Qp := Q) h dX9_firstDanger_13
theorem hd9_lifting : yX9_lifting.cls = RX9 ∧ yX9_lifting.cls ≠ "java/lang/invoke/MethodHandle" ∧ yX9_lifting.cls ≠ "java/lang/invoke/VarHandle" ∧ (parseMethodDescriptor yX9_lifting.desc).map (fun d => d.parameters.length) = some 0 := by decide +kernel
set_option maxHeartbeats 4000000 in
set_option maxRecDepth 100000 in
theorem m9_lifting (l : Launch) (G : WG)   (hv_this : vM 9 0) (Q : Int → St → Prop) (st : St)  (h : f9_lifting Q st) : Met l yX9_lifting wsX9_lifting ({ frames := 4, cells := 0, slots := 0, locals := 108 }) (PcM vM G st [.ref (G.2.2.1 9 0)]) (QiM vM G Q) 0 0 G.2.2.2.1 := by
  refine Met.ofW (cc := cX9_lifting) (maxL := 4) (ret := (some .int)) (by decide) rfl ?_
  intro p e s m args below meth c s₁ B hml hvv
  obtain ⟨rfl, hA, hI, hK, hX⟩ := hvv
  have hx := B.exec
  have hb := B.bytes
  have hr := B.returns
  have hts := atoms_spec (ws := wsX9_lifting) B.pre
  have hown : s.vm.findClass RX9 = some m.cls := findClass_of_methodNamed B.named
  have hlocks := B.notSynchronized
  have hS : va_S G.2.2.2.1 s.heap s.heap [] := va_S.rf
  have in9 : ∀ w ∈ wsX90, w ∈ wsX9_lifting := by decide +kernel
  have lk_7 := hts (.fieldLink RX9 7 "BeamLinesModel" "a" "[I") (by decide +kernel)
  have lk_46 := hts (.fieldLink RX9 46 "BeamLinesModel" "thrown" "I") (by decide +kernel)
  have hl := lv_entry ([.ref (G.2.2.1 9 0)]) (n := 4) (Nat.le_of_ble_eq_true rfl)
  rw [lg_entry_eq]
  generalize (lg_sl ([.ref (G.2.2.1 9 0)]) ++ List.replicate (4 - (lg_sl ([.ref (G.2.2.1 9 0)])).length) Slot.unset).toArray = ls at hl ⊢
  have hl : lv_has ls 4 [(0, .ref (G.2.2.1 9 0))] := hl
  have L13 : ∀ (n13 : Nat), ∀ (st : St) (v1x13 : Int) (v2x13 : Int) (H : Heap) (locs : List Loc) (ls : Array Slot), Iv vM G st H → va_S G.2.2.2.1 s.heap H locs → lv_has ls 4 [(0, .ref (G.2.2.1 9 0)), (1, .int (iI v1x13)), (2, .int (iI v2x13))] → f9_lifting_l13 Q n13 st v1x13 v2x13 → W p l e (headSpec wsX9_lifting ({ frames := 4, cells := 0, slots := 0, locals := 108 })).room s m ([.ref (G.2.2.1 9 0)] : List Value).toArray below meth c H locs 0 0 (MQ below (QiM vM G Q) ([.ref (G.2.2.1 9 0)] : List Value).toArray s 0 0 G.2.2.2.1) (F0 m 13 ls []) := by
    intro n13
    induction n13 with
    | zero =>
      intro st v1x13 v2x13 H locs ls hI hS hl h
      exact h.elim
    | succ n13 ih13 =>
      have L25 : ∀ (v2x25 : Int) (n25 : Nat), ∀ (st : St) (v1x25 : Int) (v3x25 : Int) (H : Heap) (locs : List Loc) (ls : Array Slot), Iv vM G st H → va_S G.2.2.2.1 s.heap H locs → lv_has ls 4 [(0, .ref (G.2.2.1 9 0)), (1, .int (iI v1x25)), (2, .int (iI v2x25)), (3, .int (iI v3x25))] → f9_lifting_l25 (fun st v1x13 v2x13 => f9_lifting_l13 Q n13 st v1x13 v2x13) Q v2x25 n25 st v1x25 v3x25 → W p l e (headSpec wsX9_lifting ({ frames := 4, cells := 0, slots := 0, locals := 108 })).room s m ([.ref (G.2.2.1 9 0)] : List Value).toArray below meth c H locs 0 0 (MQ below (QiM vM G Q) ([.ref (G.2.2.1 9 0)] : List Value).toArray s 0 0 G.2.2.2.1) (F0 m 25 ls []) := by
        intro v2x25 n25
        induction n25 with
        | zero =>
          intro st v1x25 v3x25 H locs ls hI hS hl h
          exact h.elim
        | succ n25 ih25 =>
          have J53 : ∀ (st : St) (v3x53 : Int) (s0x53 : Int) (s1x53 : Int) (H : Heap) (locs : List Loc) (ls : Array Slot), Iv vM G st H → va_S G.2.2.2.1 s.heap H locs → lv_has ls 4 [(0, .ref (G.2.2.1 9 0)), (2, .int (iI v2x25)), (3, .int (iI v3x53))] → f9_lifting_j53 (fun st v1x13 v2x13 => f9_lifting_l13 Q n13 st v1x13 v2x13) (fun st v1x25 v3x25 => f9_lifting_l25 (fun st v1x13 v2x13 => f9_lifting_l13 Q n13 st v1x13 v2x13) Q v2x25 n25 st v1x25 v3x25) Q v2x25 st v3x53 s0x53 s1x53 → W p l e (headSpec wsX9_lifting ({ frames := 4, cells := 0, slots := 0, locals := 108 })).room s m ([.ref (G.2.2.1 9 0)] : List Value).toArray below meth c H locs 0 0 (MQ below (QiM vM G Q) ([.ref (G.2.2.1 9 0)] : List Value).toArray s 0 0 G.2.2.2.1) (F0 m 53 ls [.int (iI s0x53), .int (iI s1x53)]) := by
            intro st v3x53 s0x53 s1x53 H locs ls hI hS hl h
            unfold f9_lifting_j53 at h
            refine r_ior hx hb dX9_lifting_53 ?_
            refine r_topi (fun x17 hx17 => ?_)
            replace h := h x17 hx17
            refine lv_istore_n (lv' := [(1, .int (iI x17)), (0, .ref (G.2.2.1 9 0)), (2, .int (iI v2x25)), (3, .int (iI v3x53))]) hx hb dX9_lifting_54 rfl hl (by decide) rfl (fun ls hl => ?_)
            obtain ⟨x18, hx18⟩ : ∃ z : Int, z = v3x53 + 1 := ⟨_, rfl⟩
            replace h := h x18 hx18
            refine lv_iinc (v := iI x18) (lv' := [(3, .int (iI x18)), (1, .int (iI x17)), (0, .ref (G.2.2.1 9 0)), (2, .int (iI v2x25))]) hx hb dX9_lifting_55 hl (k := 3) rfl (by rw [hx18]; exact iI_add _ _) (by decide) rfl (fun ls hl => ?_)
            refine lv_goto (tgt := 25) hx hb dX9_lifting_58 (by decide) ?_
            exact ih25 st x17 x18 _ _ ls hI hS (lv_sub hl [2, 1, 3, 0] rfl) h
          intro st v1x25 v3x25 H locs ls hI hS hl h
          unfold f9_lifting_l25 at h
          refine lv_iload_n hx hb dX9_lifting_25 rfl (lv_at hl 3 rfl) ?_
          refine lv_aload_n hx hb dX9_lifting_26 rfl (lv_at hl 0 rfl) ?_
          refine r_calli (va_runV (As := []) (rest := [.int (iI v3x25)]) ⟨hx, hb, hml, hown, hts⟩ (m9_lastHead l G hv_this _ st h) (cwV 0 hts gX9_lifting_X9_lastHead rfl rfl rfl hd9_lastHead ⟨Nat.le_of_ble_eq_true rfl, Nat.le_of_ble_eq_true rfl⟩) (pre_V hK hX hI hA hS hv_this rfl rfl []) rfl rfl hl.1 rfl (lv_room (Nat.le_of_ble_eq_true rfl)) dX9_lifting_27 ⟨Nat.le_of_ble_eq_true rfl, Nat.le_of_ble_eq_true rfl⟩) hS (fun z7 st8 h H locs hI hS => ?_)
          obtain ⟨g9, h⟩ := h
          obtain ⟨g10, h⟩ := h
          refine r_icmp_gt (tgt := 61) hx hb dX9_lifting_30 (by decide) g9 g10 (fun c11 => ?_) (fun c11 => ?_)
          · replace h := h.1 c11
            obtain ⟨x12, hx12⟩ : ∃ z : Int, z = v2x25 + 1 := ⟨_, rfl⟩
            replace h := h x12 hx12
            refine lv_iinc (v := iI x12) (lv' := [(2, .int (iI x12)), (0, .ref (G.2.2.1 9 0)), (1, .int (iI v1x25)), (3, .int (iI v3x25))]) hx hb dX9_lifting_61 hl (k := 2) rfl (by rw [hx12]; exact iI_add _ _) (by decide) rfl (fun ls hl => ?_)
            refine lv_goto (tgt := 13) hx hb dX9_lifting_64 (by decide) ?_
            exact ih13 st8 v1x25 x12 _ _ ls hI hS (lv_sub hl [1, 2, 0] rfl) h
          · replace h := h.2 c11
            refine lv_iload_n hx hb dX9_lifting_33 rfl (lv_at hl 1 rfl) ?_
            refine lv_aload_n hx hb dX9_lifting_34 rfl (lv_at hl 0 rfl) ?_
            refine r_iconst (n := 0) hx hb dX9_lifting_35 ?_
            refine lv_iload_n hx hb dX9_lifting_36 rfl (lv_at hl 2 rfl) ?_
            refine lv_iload_n hx hb dX9_lifting_37 rfl (lv_at hl 3 rfl) ?_
            refine r_calll (va_runV (As := [.int (iI 0), .int (iI v2x25), .int (iI v3x25)]) (rest := [.int (iI v1x25)]) ⟨hx, hb, hml, hown, hts⟩ (m9_all l G hv_this _ st8 0 v2x25 v3x25 h) (cwV 3 hts gX9_lifting_X9_all rfl rfl rfl hd9_all ⟨Nat.le_of_ble_eq_true rfl, Nat.le_of_ble_eq_true rfl⟩) (pre_V hK hX hI hA hS hv_this rfl rfl [.int (iI 0), .int (iI v2x25), .int (iI v3x25)]) rfl rfl hl.1 rfl (lv_room (Nat.le_of_ble_eq_true rfl)) dX9_lifting_38 ⟨Nat.le_of_ble_eq_true rfl, Nat.le_of_ble_eq_true rfl⟩) hS (fun z13 st14 h H locs hI hS => ?_)
            refine r_lconst (z := 0) hx hb dX9_lifting_41 rfl ?_
            obtain ⟨g15, h⟩ := h
            refine r_lcmp_ge (tgt := 52) hx hb dX9_lifting_42 dX9_lifting_43 (by decide) g15 (inL_mk rfl) (fun c16 => ?_) (fun c16 => ?_)
            · replace h := h.1 c16
              refine r_iconst (n := 0) hx hb dX9_lifting_52 ?_
              exact J53 st14 v3x25 0 v1x25 _ _ ls hI hS (lv_sub hl [0, 2, 3] rfl) h
            · replace h := h.2 c16
              refine r_iconst (n := 1) hx hb dX9_lifting_46 ?_
              refine lv_iload_n hx hb dX9_lifting_47 rfl (lv_at hl 2 rfl) ?_
              refine r_ishl hx hb dX9_lifting_48 ?_
              refine lv_goto (tgt := 53) hx hb dX9_lifting_49 (by decide) ?_
              exact J53 st14 v3x25 (ishl 1 v2x25) v1x25 _ _ ls hI hS (lv_sub hl [0, 2, 3] rfl) h
      intro st v1x13 v2x13 H locs ls hI hS hl h
      unfold f9_lifting_l13 at h
      refine lv_iload_n hx hb dX9_lifting_13 rfl (lv_at hl 2 rfl) ?_
      refine lv_aload_n hx hb dX9_lifting_14 rfl (lv_at hl 0 rfl) ?_
      refine gg_9_0 hx hb hts in9 hown hK hI hv_this lk_7 dX9_lifting_15 ?_
      refine r_iconst (n := 2) hx hb dX9_lifting_18 ?_
      refine r_iald hx hb hK hI (K := 30) (vrM_9_0 hv_this) rfl (mlen_le _) dX9_lifting_19 (by decide) (by decide) ?_
      obtain ⟨g4, h⟩ := h
      obtain ⟨g5, h⟩ := h
      refine r_icmp_ge (tgt := 67) hx hb dX9_lifting_20 (by decide) g4 g5 (fun c6 => ?_) (fun c6 => ?_)
      · replace h := h.1 c6
        refine lv_iload_n hx hb dX9_lifting_67 rfl (lv_at hl 1 rfl) ?_
        exact r_iret hx hb hr hlocks hK hI hS (Qp := Q) h dX9_lifting_68
      · replace h := h.2 c6
        refine r_iconst (n := 0) hx hb dX9_lifting_23 ?_
        refine lv_istore_n (lv' := [(3, .int (iI 0)), (0, .ref (G.2.2.1 9 0)), (1, .int (iI v1x13)), (2, .int (iI v2x13))]) hx hb dX9_lifting_24 rfl hl (by decide) rfl (fun ls hl => ?_)
        obtain ⟨kk, h⟩ := h
        exact L25 v2x13 kk st v1x13 0 _ _ ls hI hS (lv_sub hl [1, 2, 3, 0] rfl) h
  unfold f9_lifting at h
  refine lv_aload_n hx hb dX9_lifting_0 rfl (lv_at hl 0 rfl) ?_
  refine r_iconst (n := 0) hx hb dX9_lifting_1 ?_
  refine pp_9_6 hx hb hts in9 hown hK hI hS hv_this lk_46 dX9_lifting_2 (fun st1 hst1 H locs hI hS => ?_)
  replace h := h st1 hst1
  refine lv_aload_n hx hb dX9_lifting_5 rfl (lv_at hl 0 rfl) ?_
  refine r_callv (va_runV (As := []) (rest := []) ⟨hx, hb, hml, hown, hts⟩ (m9_lays l G hv_this _ st1 h) (cwV 0 hts gX9_lifting_X9_lays rfl rfl rfl hd9_lays ⟨Nat.le_of_ble_eq_true rfl, Nat.le_of_ble_eq_true rfl⟩) (pre_V hK hX hI hA hS hv_this rfl rfl []) rfl rfl hl.1 rfl (lv_room (Nat.le_of_ble_eq_true rfl)) dX9_lifting_6 ⟨Nat.le_of_ble_eq_true rfl, Nat.le_of_ble_eq_true rfl⟩) hS (fun st3 h H locs hI hS => ?_)
  refine r_iconst (n := 0) hx hb dX9_lifting_9 ?_
  refine lv_istore_n (lv' := [(1, .int (iI 0)), (0, .ref (G.2.2.1 9 0))]) hx hb dX9_lifting_10 rfl hl (by decide) rfl (fun ls hl => ?_)
  refine r_iconst (n := 0) hx hb dX9_lifting_11 ?_
  refine lv_istore_n (lv' := [(2, .int (iI 0)), (1, .int (iI 0)), (0, .ref (G.2.2.1 9 0))]) hx hb dX9_lifting_12 rfl hl (by decide) rfl (fun ls hl => ?_)
  obtain ⟨kk, h⟩ := h
  exact L13 kk st3 0 0 _ _ ls hI hS (lv_sub hl [2, 1, 0] rfl) h
theorem hd9_noHinge : yX9_noHinge.cls = RX9 ∧ yX9_noHinge.cls ≠ "java/lang/invoke/MethodHandle" ∧ yX9_noHinge.cls ≠ "java/lang/invoke/VarHandle" ∧ (parseMethodDescriptor yX9_noHinge.desc).map (fun d => d.parameters.length) = some 2 := by decide +kernel
set_option maxHeartbeats 4000000 in
set_option maxRecDepth 100000 in
theorem m9_noHinge (l : Launch) (G : WG)   (hv_this : vM 9 0) (Q : Int → St → Prop) (st : St) (a0 : Int) (a1 : Int) (h : f9_noHinge Q st a0 a1) : Met l yX9_noHinge wsX9_noHinge ({ frames := 4, cells := 0, slots := 0, locals := 100 }) (PcM vM G st [.ref (G.2.2.1 9 0), .int (iI a0), .int (iI a1)]) (QiM vM G Q) 0 0 G.2.2.2.1 := by
  refine Met.ofW (cc := cX9_noHinge) (maxL := 5) (ret := (some .int)) (by decide) rfl ?_
  intro p e s m args below meth c s₁ B hml hvv
  obtain ⟨rfl, hA, hI, hK, hX⟩ := hvv
  have hx := B.exec
  have hb := B.bytes
  have hr := B.returns
  have hts := atoms_spec (ws := wsX9_noHinge) B.pre
  have hown : s.vm.findClass RX9 = some m.cls := findClass_of_methodNamed B.named
  have hlocks := B.notSynchronized
  have hS : va_S G.2.2.2.1 s.heap s.heap [] := va_S.rf
  have in9 : ∀ w ∈ wsX90, w ∈ wsX9_noHinge := by decide +kernel
  have lk_7 := hts (.fieldLink RX9 7 "BeamLinesModel" "a" "[I") (by decide +kernel)
  have lk_13 := hts (.fieldLink RX9 13 "BeamLinesModel" "aside" "[I") (by decide +kernel)
  have hl := lv_entry ([.ref (G.2.2.1 9 0), .int (iI a0), .int (iI a1)]) (n := 5) (Nat.le_of_ble_eq_true rfl)
  rw [lg_entry_eq]
  generalize (lg_sl ([.ref (G.2.2.1 9 0), .int (iI a0), .int (iI a1)]) ++ List.replicate (5 - (lg_sl ([.ref (G.2.2.1 9 0), .int (iI a0), .int (iI a1)])).length) Slot.unset).toArray = ls at hl ⊢
  have hl : lv_has ls 5 [(0, .ref (G.2.2.1 9 0)), (1, .int (iI a0)), (2, .int (iI a1))] := hl
  have J27 : ∀ (st : St) (H : Heap) (locs : List Loc) (ls : Array Slot), Iv vM G st H → va_S G.2.2.2.1 s.heap H locs → lv_has ls 5 [(0, .ref (G.2.2.1 9 0)), (1, .int (iI a0)), (2, .int (iI a1))] → f9_noHinge_j27 Q a0 a1 st → W p l e (headSpec wsX9_noHinge ({ frames := 4, cells := 0, slots := 0, locals := 100 })).room s m ([.ref (G.2.2.1 9 0), .int (iI a0), .int (iI a1)] : List Value).toArray below meth c H locs 0 0 (MQ below (QiM vM G Q) ([.ref (G.2.2.1 9 0), .int (iI a0), .int (iI a1)] : List Value).toArray s 0 0 G.2.2.2.1) (F0 m 27 ls []) := by
    intro st H locs ls hI hS hl h
    unfold f9_noHinge_j27 at h
    refine lv_aload_n hx hb dX9_noHinge_27 rfl (lv_at hl 0 rfl) ?_
    refine gg_9_1 hx hb hts in9 hown hK hI hv_this lk_13 dX9_noHinge_28 ?_
    refine r_iconst (n := 0) hx hb dX9_noHinge_31 ?_
    refine lv_aload_n hx hb dX9_noHinge_32 rfl (lv_at hl 0 rfl) ?_
    refine gg_9_0 hx hb hts in9 hown hK hI hv_this lk_7 dX9_noHinge_33 ?_
    refine r_iconst (n := 0) hx hb dX9_noHinge_36 ?_
    refine r_callv (va_runS (As := [.ref (G.2.2.1 30 1), .int (iI 0), .ref (G.2.2.1 30 0), .int (iI 0)]) (rest := []) ⟨hx, hb, hml, hown, hts⟩ (m9_copies l G 1 0 (vrM_9_1 hv_this) (vrM_9_0 hv_this) _ st 0 0 h) (va_cwS 4 hts gX9_noHinge_X9_copies rfl rfl rfl hd9_copies ⟨Nat.le_of_ble_eq_true rfl, Nat.le_of_ble_eq_true rfl⟩) (pre_S hK hX hI hA hS [.ref (G.2.2.1 30 1), .int (iI 0), .ref (G.2.2.1 30 0), .int (iI 0)]) rfl rfl hl.1 rfl (lv_room (Nat.le_of_ble_eq_true rfl)) dX9_noHinge_37 ⟨Nat.le_of_ble_eq_true rfl, Nat.le_of_ble_eq_true rfl⟩) hS (fun st13 h H locs hI hS => ?_)
    refine lv_aload_n hx hb dX9_noHinge_40 rfl (lv_at hl 0 rfl) ?_
    refine lv_iload_n hx hb dX9_noHinge_41 rfl (lv_at hl 1 rfl) ?_
    refine r_callv (va_runV (As := [.int (iI a0)]) (rest := []) ⟨hx, hb, hml, hown, hts⟩ (m9_dropsHinge l G hv_this _ st13 a0 h) (cwV 1 hts gX9_noHinge_X9_dropsHinge rfl rfl rfl hd9_dropsHinge ⟨Nat.le_of_ble_eq_true rfl, Nat.le_of_ble_eq_true rfl⟩) (pre_V hK hX hI hA hS hv_this rfl rfl [.int (iI a0)]) rfl rfl hl.1 rfl (lv_room (Nat.le_of_ble_eq_true rfl)) dX9_noHinge_42 ⟨Nat.le_of_ble_eq_true rfl, Nat.le_of_ble_eq_true rfl⟩) hS (fun st15 h H locs hI hS => ?_)
    refine lv_aload_n hx hb dX9_noHinge_45 rfl (lv_at hl 0 rfl) ?_
    refine lv_iload_n hx hb dX9_noHinge_46 rfl (lv_at hl 2 rfl) ?_
    refine r_callv (va_runV (As := [.int (iI a1)]) (rest := []) ⟨hx, hb, hml, hown, hts⟩ (m9_addsHinge l G hv_this _ st15 a1 h) (cwV 1 hts gX9_noHinge_X9_addsHinge rfl rfl rfl hd9_addsHinge ⟨Nat.le_of_ble_eq_true rfl, Nat.le_of_ble_eq_true rfl⟩) (pre_V hK hX hI hA hS hv_this rfl rfl [.int (iI a1)]) rfl rfl hl.1 rfl (lv_room (Nat.le_of_ble_eq_true rfl)) dX9_noHinge_47 ⟨Nat.le_of_ble_eq_true rfl, Nat.le_of_ble_eq_true rfl⟩) hS (fun st17 h H locs hI hS => ?_)
    refine lv_aload_n hx hb dX9_noHinge_50 rfl (lv_at hl 0 rfl) ?_
    refine r_calli (va_runV (As := []) (rest := []) ⟨hx, hb, hml, hown, hts⟩ (m9_isStanding l G hv_this _ st17 h) (cwV 0 hts gX9_noHinge_X9_isStanding rfl rfl rfl hd9_isStanding ⟨Nat.le_of_ble_eq_true rfl, Nat.le_of_ble_eq_true rfl⟩) (pre_V hK hX hI hA hS hv_this rfl rfl []) rfl rfl hl.1 rfl (lv_room (Nat.le_of_ble_eq_true rfl)) dX9_noHinge_51 ⟨Nat.le_of_ble_eq_true rfl, Nat.le_of_ble_eq_true rfl⟩) hS (fun z18 st19 h H locs hI hS => ?_)
    refine lv_istore (lv' := [(4, .int (iI z18)), (0, .ref (G.2.2.1 9 0)), (1, .int (iI a0)), (2, .int (iI a1))]) hx hb dX9_noHinge_54 hl (by decide) rfl (fun ls hl => ?_)
    refine lv_aload_n hx hb dX9_noHinge_56 rfl (lv_at hl 1 rfl) ?_
    refine gg_9_0 hx hb hts in9 hown hK hI hv_this lk_7 dX9_noHinge_57 ?_
    refine r_iconst (n := 0) hx hb dX9_noHinge_60 ?_
    refine lv_aload_n hx hb dX9_noHinge_61 rfl (lv_at hl 1 rfl) ?_
    refine gg_9_1 hx hb hts in9 hown hK hI hv_this lk_13 dX9_noHinge_62 ?_
    refine r_iconst (n := 0) hx hb dX9_noHinge_65 ?_
    refine r_callv (va_runS (As := [.ref (G.2.2.1 30 0), .int (iI 0), .ref (G.2.2.1 30 1), .int (iI 0)]) (rest := []) ⟨hx, hb, hml, hown, hts⟩ (m9_copies l G 0 1 (vrM_9_0 hv_this) (vrM_9_1 hv_this) _ st19 0 0 h) (va_cwS 4 hts gX9_noHinge_X9_copies rfl rfl rfl hd9_copies ⟨Nat.le_of_ble_eq_true rfl, Nat.le_of_ble_eq_true rfl⟩) (pre_S hK hX hI hA hS [.ref (G.2.2.1 30 0), .int (iI 0), .ref (G.2.2.1 30 1), .int (iI 0)]) rfl rfl hl.1 rfl (lv_room (Nat.le_of_ble_eq_true rfl)) dX9_noHinge_66 ⟨Nat.le_of_ble_eq_true rfl, Nat.le_of_ble_eq_true rfl⟩) hS (fun st21 h H locs hI hS => ?_)
    refine lv_iload hx hb dX9_noHinge_69 (lv_at hl 0 rfl) ?_
    obtain ⟨g22, h⟩ := h
    refine r_if_eq (tgt := 78) hx hb dX9_noHinge_71 (by decide) g22 (fun c23 => ?_) (fun c23 => ?_)
    · replace h := h.1 c23
      refine r_iconst (n := 2) hx hb dX9_noHinge_78 ?_
      exact r_iret hx hb hr hlocks hK hI hS (Qp := Q) h dX9_noHinge_79
    · replace h := h.2 c23
      refine r_iconst (n := 0) hx hb dX9_noHinge_74 ?_
      refine lv_goto (tgt := 79) hx hb dX9_noHinge_75 (by decide) ?_
      exact r_iret hx hb hr hlocks hK hI hS (Qp := Q) h dX9_noHinge_79
  unfold f9_noHinge at h
  refine lv_aload_n hx hb dX9_noHinge_0 rfl (lv_at hl 0 rfl) ?_
  refine lv_iload_n hx hb dX9_noHinge_1 rfl (lv_at hl 2 rfl) ?_
  refine r_calli (va_runV (As := [.int (iI a1)]) (rest := []) ⟨hx, hb, hml, hown, hts⟩ (m9_hingeAt l G hv_this _ st a1 h) (cwV 1 hts gX9_noHinge_X9_hingeAt rfl rfl rfl hd9_hingeAt ⟨Nat.le_of_ble_eq_true rfl, Nat.le_of_ble_eq_true rfl⟩) (pre_V hK hX hI hA hS hv_this rfl rfl [.int (iI a1)]) rfl rfl hl.1 rfl (lv_room (Nat.le_of_ble_eq_true rfl)) dX9_noHinge_2 ⟨Nat.le_of_ble_eq_true rfl, Nat.le_of_ble_eq_true rfl⟩) hS (fun z1 st2 h H locs hI hS => ?_)
  refine lv_istore_n (lv' := [(3, .int (iI z1)), (0, .ref (G.2.2.1 9 0)), (1, .int (iI a0)), (2, .int (iI a1))]) hx hb dX9_noHinge_5 rfl hl (by decide) rfl (fun ls hl => ?_)
  refine lv_aload_n hx hb dX9_noHinge_6 rfl (lv_at hl 1 rfl) ?_
  refine lv_iload_n hx hb dX9_noHinge_7 rfl (lv_at hl 3 rfl) ?_
  refine r_calli (va_runV (As := [.int (iI a1)]) (rest := []) ⟨hx, hb, hml, hown, hts⟩ (m9_supportAt l G hv_this _ st2 a1 h) (cwV 1 hts gX9_noHinge_X9_supportAt rfl rfl rfl hd9_supportAt ⟨Nat.le_of_ble_eq_true rfl, Nat.le_of_ble_eq_true rfl⟩) (pre_V hK hX hI hA hS hv_this rfl rfl [.int (iI a1)]) rfl rfl hl.1 rfl (lv_room (Nat.le_of_ble_eq_true rfl)) dX9_noHinge_8 ⟨Nat.le_of_ble_eq_true rfl, Nat.le_of_ble_eq_true rfl⟩) hS (fun z3 st4 h H locs hI hS => ?_)
  refine r_iconst (n := (-1)) hx hb dX9_noHinge_11 ?_
  obtain ⟨g5, h⟩ := h
  refine r_icmp_ne (tgt := 25) hx hb dX9_noHinge_12 (by decide) g5 (inI_mk rfl) (fun c6 => ?_) (fun c6 => ?_)
  · replace h := h.2 c6
    refine r_iconst (n := 1) hx hb dX9_noHinge_25 ?_
    exact r_iret hx hb hr hlocks hK hI hS (Qp := Q) h dX9_noHinge_26
  · replace h := h.1 c6
    refine lv_iload_n hx hb dX9_noHinge_15 rfl (lv_at hl 0 rfl) ?_
    refine r_iconst (n := (-1)) hx hb dX9_noHinge_16 ?_
    obtain ⟨g7, h⟩ := h
    refine r_icmp_eq (tgt := 27) hx hb dX9_noHinge_17 (by decide) g7 (inI_mk rfl) (fun c8 => ?_) (fun c8 => ?_)
    · replace h := h.1 c8
      exact J27 st4  _ _ ls hI hS (lv_sub hl [1, 2, 3] rfl) h
    · replace h := h.2 c8
      refine lv_iload_n hx hb dX9_noHinge_20 rfl (lv_at hl 0 rfl) ?_
      refine lv_iload_n hx hb dX9_noHinge_21 rfl (lv_at hl 2 rfl) ?_
      obtain ⟨g9, h⟩ := h
      obtain ⟨g10, h⟩ := h
      refine r_icmp_eq (tgt := 27) hx hb dX9_noHinge_22 (by decide) g9 g10 (fun c11 => ?_) (fun c11 => ?_)
      · replace h := h.1 c11
        exact J27 st4  _ _ ls hI hS (lv_sub hl [1, 2, 3] rfl) h
      · replace h := h.2 c11
        refine r_iconst (n := 1) hx hb dX9_noHinge_25 ?_
        exact r_iret hx hb hr hlocks hK hI hS (Qp := Q) h dX9_noHinge_26
theorem hd9_noPlace : yX9_noPlace.cls = RX9 ∧ yX9_noPlace.cls ≠ "java/lang/invoke/MethodHandle" ∧ yX9_noPlace.cls ≠ "java/lang/invoke/VarHandle" ∧ (parseMethodDescriptor yX9_noPlace.desc).map (fun d => d.parameters.length) = some 2 := by decide +kernel
set_option maxHeartbeats 4000000 in
set_option maxRecDepth 100000 in
theorem m9_noPlace (l : Launch) (G : WG)   (hv_this : vM 9 0) (Q : Int → St → Prop) (st : St) (a0 : Int) (a1 : Int) (h : f9_noPlace Q st a0 a1) : Met l yX9_noPlace wsX9_noPlace ({ frames := 2, cells := 0, slots := 0, locals := 43 }) (PcM vM G st [.ref (G.2.2.1 9 0), .int (iI a0), .int (iI a1)]) (QiM vM G Q) 0 0 G.2.2.2.1 := by
  refine Met.ofW (cc := cX9_noPlace) (maxL := 3) (ret := (some .int)) (by decide) rfl ?_
  intro p e s m args below meth c s₁ B hml hvv
  obtain ⟨rfl, hA, hI, hK, hX⟩ := hvv
  have hx := B.exec
  have hb := B.bytes
  have hr := B.returns
  have hts := atoms_spec (ws := wsX9_noPlace) B.pre
  have hown : s.vm.findClass RX9 = some m.cls := findClass_of_methodNamed B.named
  have hlocks := B.notSynchronized
  have hS : va_S G.2.2.2.1 s.heap s.heap [] := va_S.rf
  have in9 : ∀ w ∈ wsX90, w ∈ wsX9_noPlace := by decide +kernel
  have lk_7 := hts (.fieldLink RX9 7 "BeamLinesModel" "a" "[I") (by decide +kernel)
  have hl := lv_entry ([.ref (G.2.2.1 9 0), .int (iI a0), .int (iI a1)]) (n := 3) (Nat.le_of_ble_eq_true rfl)
  rw [lg_entry_eq]
  generalize (lg_sl ([.ref (G.2.2.1 9 0), .int (iI a0), .int (iI a1)]) ++ List.replicate (3 - (lg_sl ([.ref (G.2.2.1 9 0), .int (iI a0), .int (iI a1)])).length) Slot.unset).toArray = ls at hl ⊢
  have hl : lv_has ls 3 [(0, .ref (G.2.2.1 9 0)), (1, .int (iI a0)), (2, .int (iI a1))] := hl
  unfold f9_noPlace at h
  refine lv_aload_n hx hb dX9_noPlace_0 rfl (lv_at hl 0 rfl) ?_
  refine lv_iload_n hx hb dX9_noPlace_1 rfl (lv_at hl 1 rfl) ?_
  refine r_calli (va_runV (As := [.int (iI a0)]) (rest := []) ⟨hx, hb, hml, hown, hts⟩ (m9_isHinge l G hv_this _ st a0 h) (cwV 1 hts gX9_noPlace_X9_isHinge rfl rfl rfl hd9_isHinge ⟨Nat.le_of_ble_eq_true rfl, Nat.le_of_ble_eq_true rfl⟩) (pre_V hK hX hI hA hS hv_this rfl rfl [.int (iI a0)]) rfl rfl hl.1 rfl (lv_room (Nat.le_of_ble_eq_true rfl)) dX9_noPlace_2 ⟨Nat.le_of_ble_eq_true rfl, Nat.le_of_ble_eq_true rfl⟩) hS (fun z1 st2 h H locs hI hS => ?_)
  obtain ⟨g3, h⟩ := h
  refine r_if_ne (tgt := 12) hx hb dX9_noPlace_5 (by decide) g3 (fun c4 => ?_) (fun c4 => ?_)
  · replace h := h.2 c4
    refine lv_iload_n hx hb dX9_noPlace_12 rfl (lv_at hl 2 rfl) ?_
    refine r_iconst (n := 1) hx hb dX9_noPlace_13 ?_
    refine lv_aload_n hx hb dX9_noPlace_14 rfl (lv_at hl 0 rfl) ?_
    refine gg_9_0 hx hb hts in9 hown hK hI hv_this lk_7 dX9_noPlace_15 ?_
    refine r_iconst (n := 0) hx hb dX9_noPlace_18 ?_
    refine r_iald hx hb hK hI (K := 30) (vrM_9_0 hv_this) rfl (mlen_le _) dX9_noPlace_19 (by decide) (by decide) ?_
    refine r_iconst (n := 1) hx hb dX9_noPlace_20 ?_
    refine r_isub hx hb dX9_noPlace_21 ?_
    refine r_calli (va_runS (As := [.int (iI a1), .int (iI 1), .int (iI ((st2 30 0 0 0) - 1))]) (rest := []) ⟨hx, hb, hml, hown, hts⟩ (m9_isIn l G _ st2 a1 1 ((st2 30 0 0 0) - 1) h) (va_cwS 3 hts gX9_noPlace_X9_isIn rfl rfl rfl hd9_isIn ⟨Nat.le_of_ble_eq_true rfl, Nat.le_of_ble_eq_true rfl⟩) (pre_S hK hX hI hA hS [.int (iI a1), .int (iI 1), .int (iI ((st2 30 0 0 0) - 1))]) rfl rfl hl.1 rfl (lv_room (Nat.le_of_ble_eq_true rfl)) dX9_noPlace_22 ⟨Nat.le_of_ble_eq_true rfl, Nat.le_of_ble_eq_true rfl⟩) hS (fun z5 st6 h H locs hI hS => ?_)
    obtain ⟨g7, h⟩ := h
    refine r_if_eq (tgt := 32) hx hb dX9_noPlace_25 (by decide) g7 (fun c8 => ?_) (fun c8 => ?_)
    · replace h := h.1 c8
      refine r_iconst (n := 2) hx hb dX9_noPlace_32 ?_
      exact r_iret hx hb hr hlocks hK hI hS (Qp := Q) h dX9_noPlace_33
    · replace h := h.2 c8
      refine r_iconst (n := 0) hx hb dX9_noPlace_28 ?_
      refine lv_goto (tgt := 33) hx hb dX9_noPlace_29 (by decide) ?_
      exact r_iret hx hb hr hlocks hK hI hS (Qp := Q) h dX9_noPlace_33
  · replace h := h.1 c4
    refine r_iconst (n := 1) hx hb dX9_noPlace_8 ?_
    refine lv_goto (tgt := 33) hx hb dX9_noPlace_9 (by decide) ?_
    exact r_iret hx hb hr hlocks hK hI hS (Qp := Q) h dX9_noPlace_33
theorem hd9_tryHinge : yX9_tryHinge.cls = RX9 ∧ yX9_tryHinge.cls ≠ "java/lang/invoke/MethodHandle" ∧ yX9_tryHinge.cls ≠ "java/lang/invoke/VarHandle" ∧ (parseMethodDescriptor yX9_tryHinge.desc).map (fun d => d.parameters.length) = some 2 := by decide +kernel
set_option maxHeartbeats 4000000 in
set_option maxRecDepth 100000 in
theorem m9_tryHinge (l : Launch) (G : WG)   (hv_this : vM 9 0) (Q : Int → St → Prop) (st : St) (a0 : Int) (a1 : Int) (h : f9_tryHinge Q st a0 a1) : Met l yX9_tryHinge wsX9_tryHinge ({ frames := 5, cells := 0, slots := 0, locals := 124 }) (PcM vM G st [.ref (G.2.2.1 9 0), .int (iI a0), .int (iI a1)]) (QiM vM G Q) 0 0 G.2.2.2.1 := by
  refine Met.ofW (cc := cX9_tryHinge) (maxL := 4) (ret := (some .int)) (by decide) rfl ?_
  intro p e s m args below meth c s₁ B hml hvv
  obtain ⟨rfl, hA, hI, hK, hX⟩ := hvv
  have hx := B.exec
  have hb := B.bytes
  have hr := B.returns
  have hts := atoms_spec (ws := wsX9_tryHinge) B.pre
  have hown : s.vm.findClass RX9 = some m.cls := findClass_of_methodNamed B.named
  have hlocks := B.notSynchronized
  have hS : va_S G.2.2.2.1 s.heap s.heap [] := va_S.rf
  have in9 : ∀ w ∈ wsX90, w ∈ wsX9_tryHinge := by decide +kernel
  have lk_46 := hts (.fieldLink RX9 46 "BeamLinesModel" "thrown" "I") (by decide +kernel)
  have hl := lv_entry ([.ref (G.2.2.1 9 0), .int (iI a0), .int (iI a1)]) (n := 4) (Nat.le_of_ble_eq_true rfl)
  rw [lg_entry_eq]
  generalize (lg_sl ([.ref (G.2.2.1 9 0), .int (iI a0), .int (iI a1)]) ++ List.replicate (4 - (lg_sl ([.ref (G.2.2.1 9 0), .int (iI a0), .int (iI a1)])).length) Slot.unset).toArray = ls at hl ⊢
  have hl : lv_has ls 4 [(0, .ref (G.2.2.1 9 0)), (1, .int (iI a0)), (2, .int (iI a1))] := hl
  unfold f9_tryHinge at h
  refine lv_aload_n hx hb dX9_tryHinge_0 rfl (lv_at hl 0 rfl) ?_
  refine lv_aload_n hx hb dX9_tryHinge_1 rfl (lv_at hl 0 rfl) ?_
  refine lv_iload_n hx hb dX9_tryHinge_2 rfl (lv_at hl 1 rfl) ?_
  refine lv_iload_n hx hb dX9_tryHinge_3 rfl (lv_at hl 2 rfl) ?_
  refine r_calli (va_runV (As := [.int (iI a0), .int (iI a1)]) (rest := [.ref (G.2.2.1 9 0)]) ⟨hx, hb, hml, hown, hts⟩ (m9_noPlace l G hv_this _ st a0 a1 h) (cwV 2 hts gX9_tryHinge_X9_noPlace rfl rfl rfl hd9_noPlace ⟨Nat.le_of_ble_eq_true rfl, Nat.le_of_ble_eq_true rfl⟩) (pre_V hK hX hI hA hS hv_this rfl rfl [.int (iI a0), .int (iI a1)]) rfl rfl hl.1 rfl (lv_room (Nat.le_of_ble_eq_true rfl)) dX9_tryHinge_4 ⟨Nat.le_of_ble_eq_true rfl, Nat.le_of_ble_eq_true rfl⟩) hS (fun z1 st2 h H locs hI hS => ?_)
  refine pp_9_6 hx hb hts in9 hown hK hI hS hv_this lk_46 dX9_tryHinge_7 (fun st3 hst3 H locs hI hS => ?_)
  replace h := h st3 hst3
  refine lv_aload_n hx hb dX9_tryHinge_10 rfl (lv_at hl 0 rfl) ?_
  refine gg_9_6 hx hb hts in9 hown hK hI hv_this lk_46 dX9_tryHinge_11 ?_
  obtain ⟨g4, h⟩ := h
  refine r_if_le (tgt := 19) hx hb dX9_tryHinge_14 (by decide) g4 (fun c5 => ?_) (fun c5 => ?_)
  · replace h := h.1 c5
    refine lv_aload_n hx hb dX9_tryHinge_19 rfl (lv_at hl 0 rfl) ?_
    refine lv_iload_n hx hb dX9_tryHinge_20 rfl (lv_at hl 1 rfl) ?_
    refine lv_iload_n hx hb dX9_tryHinge_21 rfl (lv_at hl 2 rfl) ?_
    refine r_calli (va_runV (As := [.int (iI a0), .int (iI a1)]) (rest := []) ⟨hx, hb, hml, hown, hts⟩ (m9_noHinge l G hv_this _ st3 a0 a1 h) (cwV 2 hts gX9_tryHinge_X9_noHinge rfl rfl rfl hd9_noHinge ⟨Nat.le_of_ble_eq_true rfl, Nat.le_of_ble_eq_true rfl⟩) (pre_V hK hX hI hA hS hv_this rfl rfl [.int (iI a0), .int (iI a1)]) rfl rfl hl.1 rfl (lv_room (Nat.le_of_ble_eq_true rfl)) dX9_tryHinge_22 ⟨Nat.le_of_ble_eq_true rfl, Nat.le_of_ble_eq_true rfl⟩) hS (fun z6 st7 h H locs hI hS => ?_)
    refine lv_istore_n (lv' := [(3, .int (iI z6)), (0, .ref (G.2.2.1 9 0)), (1, .int (iI a0)), (2, .int (iI a1))]) hx hb dX9_tryHinge_25 rfl hl (by decide) rfl (fun ls hl => ?_)
    refine lv_iload_n hx hb dX9_tryHinge_26 rfl (lv_at hl 0 rfl) ?_
    obtain ⟨g8, h⟩ := h
    refine r_if_le (tgt := 37) hx hb dX9_tryHinge_27 (by decide) g8 (fun c9 => ?_) (fun c9 => ?_)
    · replace h := h.1 c9
      refine r_iconst (n := 0) hx hb dX9_tryHinge_37 ?_
      exact r_iret hx hb hr hlocks hK hI hS (Qp := Q) h dX9_tryHinge_38
    · replace h := h.2 c9
      refine r_bipush (n := (-10)) hx hb dX9_tryHinge_30 rfl ?_
      refine lv_iload_n hx hb dX9_tryHinge_32 rfl (lv_at hl 0 rfl) ?_
      refine r_isub hx hb dX9_tryHinge_33 ?_
      refine lv_goto (tgt := 38) hx hb dX9_tryHinge_34 (by decide) ?_
      exact r_iret hx hb hr hlocks hK hI hS (Qp := Q) h dX9_tryHinge_38
  · replace h := h.2 c5
    refine r_iconst (n := 0) hx hb dX9_tryHinge_17 ?_
    exact r_iret hx hb hr hlocks hK hI hS (Qp := Q) h dX9_tryHinge_18
theorem hd9_bestHinge : yX9_bestHinge.cls = RX9 ∧ yX9_bestHinge.cls ≠ "java/lang/invoke/MethodHandle" ∧ yX9_bestHinge.cls ≠ "java/lang/invoke/VarHandle" ∧ (parseMethodDescriptor yX9_bestHinge.desc).map (fun d => d.parameters.length) = some 1 := by decide +kernel
set_option maxHeartbeats 4000000 in
set_option maxRecDepth 100000 in
theorem m9_bestHinge (l : Launch) (G : WG)   (hv_this : vM 9 0) (Q : Int → St → Prop) (st : St) (a0 : Int) (h : f9_bestHinge Q st a0) : Met l yX9_bestHinge wsX9_bestHinge ({ frames := 6, cells := 0, slots := 0, locals := 146 }) (PcM vM G st [.ref (G.2.2.1 9 0), .int (iI a0)]) (QiM vM G Q) 0 0 G.2.2.2.1 := by
  refine Met.ofW (cc := cX9_bestHinge) (maxL := 10) (ret := (some .int)) (by decide) rfl ?_
  intro p e s m args below meth c s₁ B hml hvv
  obtain ⟨rfl, hA, hI, hK, hX⟩ := hvv
  have hx := B.exec
  have hb := B.bytes
  have hr := B.returns
  have hts := atoms_spec (ws := wsX9_bestHinge) B.pre
  have hown : s.vm.findClass RX9 = some m.cls := findClass_of_methodNamed B.named
  have hlocks := B.notSynchronized
  have hS : va_S G.2.2.2.1 s.heap s.heap [] := va_S.rf
  have in9 : ∀ w ∈ wsX90, w ∈ wsX9_bestHinge := by decide +kernel
  have lk_7 := hts (.fieldLink RX9 7 "BeamLinesModel" "a" "[I") (by decide +kernel)
  have lk_40 := hts (.fieldLink RX9 40 "BeamLinesModel" "tried" "[I") (by decide +kernel)
  have lk_46 := hts (.fieldLink RX9 46 "BeamLinesModel" "thrown" "I") (by decide +kernel)
  have lk_227 := hts (.fieldLink RX9 227 "BeamLinesModel" "unit" "J") (by decide +kernel)
  have hl := lv_entry ([.ref (G.2.2.1 9 0), .int (iI a0)]) (n := 10) (Nat.le_of_ble_eq_true rfl)
  rw [lg_entry_eq]
  generalize (lg_sl ([.ref (G.2.2.1 9 0), .int (iI a0)]) ++ List.replicate (10 - (lg_sl ([.ref (G.2.2.1 9 0), .int (iI a0)])).length) Slot.unset).toArray = ls at hl ⊢
  have hl : lv_has ls 10 [(0, .ref (G.2.2.1 9 0)), (1, .int (iI a0))] := hl
  have L36 : ∀ (n36 : Nat), ∀ (st : St) (v2x36 : Int) (v3x36 : Int) (v5x36 : Int) (v7x36 : Int) (H : Heap) (locs : List Loc) (ls : Array Slot), Iv vM G st H → va_S G.2.2.2.1 s.heap H locs → lv_has ls 10 [(0, .ref (G.2.2.1 9 0)), (1, .int (iI a0)), (2, .int (iI v2x36)), (3, .long (lI v3x36)), (5, .long (lI v5x36)), (7, .int (iI v7x36))] → f9_bestHinge_l36 Q a0 n36 st v2x36 v3x36 v5x36 v7x36 → W p l e (headSpec wsX9_bestHinge ({ frames := 6, cells := 0, slots := 0, locals := 146 })).room s m ([.ref (G.2.2.1 9 0), .int (iI a0)] : List Value).toArray below meth c H locs 0 0 (MQ below (QiM vM G Q) ([.ref (G.2.2.1 9 0), .int (iI a0)] : List Value).toArray s 0 0 G.2.2.2.1) (F0 m 36 ls []) := by
    intro n36
    induction n36 with
    | zero =>
      intro st v2x36 v3x36 v5x36 v7x36 H locs ls hI hS hl h
      exact h.elim
    | succ n36 ih36 =>
      have J146 : ∀ (st : St) (v2x146 : Int) (v3x146 : Int) (v5x146 : Int) (v7x146 : Int) (H : Heap) (locs : List Loc) (ls : Array Slot), Iv vM G st H → va_S G.2.2.2.1 s.heap H locs → lv_has ls 10 [(0, .ref (G.2.2.1 9 0)), (1, .int (iI a0)), (2, .int (iI v2x146)), (3, .long (lI v3x146)), (5, .long (lI v5x146)), (7, .int (iI v7x146))] → f9_bestHinge_j146 (fun st v2x36 v3x36 v5x36 v7x36 => f9_bestHinge_l36 Q a0 n36 st v2x36 v3x36 v5x36 v7x36) Q a0 st v2x146 v3x146 v5x146 v7x146 → W p l e (headSpec wsX9_bestHinge ({ frames := 6, cells := 0, slots := 0, locals := 146 })).room s m ([.ref (G.2.2.1 9 0), .int (iI a0)] : List Value).toArray below meth c H locs 0 0 (MQ below (QiM vM G Q) ([.ref (G.2.2.1 9 0), .int (iI a0)] : List Value).toArray s 0 0 G.2.2.2.1) (F0 m 146 ls []) := by
        intro st v2x146 v3x146 v5x146 v7x146 H locs ls hI hS hl h
        unfold f9_bestHinge_j146 at h
        obtain ⟨x35, hx35⟩ : ∃ z : Int, z = v7x146 + 1 := ⟨_, rfl⟩
        replace h := h x35 hx35
        refine lv_iinc (v := iI x35) (lv' := [(7, .int (iI x35)), (0, .ref (G.2.2.1 9 0)), (1, .int (iI a0)), (2, .int (iI v2x146)), (3, .long (lI v3x146)), (5, .long (lI v5x146))]) hx hb dX9_bestHinge_146 hl (k := 5) rfl (by rw [hx35]; exact iI_add _ _) (by decide) rfl (fun ls hl => ?_)
        refine lv_goto (tgt := 36) hx hb dX9_bestHinge_149 (by decide) ?_
        exact ih36 st v2x146 v3x146 v5x146 x35 _ _ ls hI hS (lv_sub hl [1, 2, 3, 4, 5, 0] rfl) h
      have J134 : ∀ (st : St) (v7x134 : Int) (v8x134 : Int) (H : Heap) (locs : List Loc) (ls : Array Slot), Iv vM G st H → va_S G.2.2.2.1 s.heap H locs → lv_has ls 10 [(0, .ref (G.2.2.1 9 0)), (1, .int (iI a0)), (7, .int (iI v7x134)), (8, .long (lI v8x134))] → f9_bestHinge_j134 (fun st v2x36 v3x36 v5x36 v7x36 => f9_bestHinge_l36 Q a0 n36 st v2x36 v3x36 v5x36 v7x36) Q a0 st v7x134 v8x134 → W p l e (headSpec wsX9_bestHinge ({ frames := 6, cells := 0, slots := 0, locals := 146 })).room s m ([.ref (G.2.2.1 9 0), .int (iI a0)] : List Value).toArray below meth c H locs 0 0 (MQ below (QiM vM G Q) ([.ref (G.2.2.1 9 0), .int (iI a0)] : List Value).toArray s 0 0 G.2.2.2.1) (F0 m 134 ls []) := by
        intro st v7x134 v8x134 H locs ls hI hS hl h
        unfold f9_bestHinge_j134 at h
        refine lv_iload hx hb dX9_bestHinge_134 (lv_at hl 2 rfl) ?_
        refine lv_istore_n (lv' := [(2, .int (iI v7x134)), (0, .ref (G.2.2.1 9 0)), (1, .int (iI a0)), (7, .int (iI v7x134)), (8, .long (lI v8x134))]) hx hb dX9_bestHinge_136 rfl hl (by decide) rfl (fun ls hl => ?_)
        refine lv_lload hx hb dX9_bestHinge_137 (lv_at hl 4 rfl) ?_
        refine lv_lstore_n (lv' := [(3, .long (lI v8x134)), (2, .int (iI v7x134)), (0, .ref (G.2.2.1 9 0)), (1, .int (iI a0)), (7, .int (iI v7x134)), (8, .long (lI v8x134))]) hx hb dX9_bestHinge_139 rfl hl (by decide) rfl (fun ls hl => ?_)
        refine lv_aload_n hx hb dX9_bestHinge_140 rfl (lv_at hl 2 rfl) ?_
        refine gg_9_18 hx hb hts in9 hown hK hI hv_this lk_227 dX9_bestHinge_141 ?_
        refine r_topl (fun x34 hx34 => ?_)
        replace h := h x34 hx34
        refine lv_lstore (lv' := [(5, .long (lI x34)), (3, .long (lI v8x134)), (2, .int (iI v7x134)), (0, .ref (G.2.2.1 9 0)), (1, .int (iI a0)), (7, .int (iI v7x134)), (8, .long (lI v8x134))]) hx hb dX9_bestHinge_144 hl (by decide) rfl (fun ls hl => ?_)
        exact J146 st v7x134 v8x134 x34 v7x134 _ _ ls hI hS (lv_sub hl [3, 4, 2, 1, 0, 5] rfl) h
      intro st v2x36 v3x36 v5x36 v7x36 H locs ls hI hS hl h
      unfold f9_bestHinge_l36 at h
      refine lv_iload hx hb dX9_bestHinge_36 (lv_at hl 5 rfl) ?_
      refine lv_aload_n hx hb dX9_bestHinge_38 rfl (lv_at hl 0 rfl) ?_
      refine gg_9_0 hx hb hts in9 hown hK hI hv_this lk_7 dX9_bestHinge_39 ?_
      refine r_iconst (n := 0) hx hb dX9_bestHinge_42 ?_
      refine r_iald hx hb hK hI (K := 30) (vrM_9_0 hv_this) rfl (mlen_le _) dX9_bestHinge_43 (by decide) (by decide) ?_
      obtain ⟨g8, h⟩ := h
      obtain ⟨g9, h⟩ := h
      refine r_icmp_ge (tgt := 152) hx hb dX9_bestHinge_44 (by decide) g8 g9 (fun c10 => ?_) (fun c10 => ?_)
      · replace h := h.1 c10
        refine lv_iload_n hx hb dX9_bestHinge_152 rfl (lv_at hl 2 rfl) ?_
        exact r_iret hx hb hr hlocks hK hI hS (Qp := Q) h dX9_bestHinge_153
      · replace h := h.2 c10
        refine lv_aload_n hx hb dX9_bestHinge_47 rfl (lv_at hl 0 rfl) ?_
        refine lv_iload_n hx hb dX9_bestHinge_48 rfl (lv_at hl 1 rfl) ?_
        refine lv_iload hx hb dX9_bestHinge_49 (lv_at hl 5 rfl) ?_
        refine r_calli (va_runV (As := [.int (iI a0), .int (iI v7x36)]) (rest := []) ⟨hx, hb, hml, hown, hts⟩ (m9_noHinge l G hv_this _ st a0 v7x36 h) (cwV 2 hts gX9_bestHinge_X9_noHinge rfl rfl rfl hd9_noHinge ⟨Nat.le_of_ble_eq_true rfl, Nat.le_of_ble_eq_true rfl⟩) (pre_V hK hX hI hA hS hv_this rfl rfl [.int (iI a0), .int (iI v7x36)]) rfl rfl hl.1 rfl (lv_room (Nat.le_of_ble_eq_true rfl)) dX9_bestHinge_51 ⟨Nat.le_of_ble_eq_true rfl, Nat.le_of_ble_eq_true rfl⟩) hS (fun z11 st12 h H locs hI hS => ?_)
        obtain ⟨g13, h⟩ := h
        refine r_if_le (tgt := 60) hx hb dX9_bestHinge_54 (by decide) g13 (fun c14 => ?_) (fun c14 => ?_)
        · replace h := h.1 c14
          refine lv_aload_n hx hb dX9_bestHinge_60 rfl (lv_at hl 0 rfl) ?_
          refine gg_9_19 hx hb hts in9 hown hK hI hv_this lk_40 dX9_bestHinge_61 ?_
          refine r_iconst (n := 0) hx hb dX9_bestHinge_64 ?_
          refine lv_aload_n hx hb dX9_bestHinge_65 rfl (lv_at hl 0 rfl) ?_
          refine gg_9_0 hx hb hts in9 hown hK hI hv_this lk_7 dX9_bestHinge_66 ?_
          refine r_iconst (n := 0) hx hb dX9_bestHinge_69 ?_
          refine r_callv (va_runS (As := [.ref (G.2.2.1 30 5), .int (iI 0), .ref (G.2.2.1 30 0), .int (iI 0)]) (rest := []) ⟨hx, hb, hml, hown, hts⟩ (m9_copies l G 5 0 (vrM_9_19 hv_this) (vrM_9_0 hv_this) _ st12 0 0 h) (va_cwS 4 hts gX9_bestHinge_X9_copies rfl rfl rfl hd9_copies ⟨Nat.le_of_ble_eq_true rfl, Nat.le_of_ble_eq_true rfl⟩) (pre_S hK hX hI hA hS [.ref (G.2.2.1 30 5), .int (iI 0), .ref (G.2.2.1 30 0), .int (iI 0)]) rfl rfl hl.1 rfl (lv_room (Nat.le_of_ble_eq_true rfl)) dX9_bestHinge_70 ⟨Nat.le_of_ble_eq_true rfl, Nat.le_of_ble_eq_true rfl⟩) hS (fun st16 h H locs hI hS => ?_)
          refine lv_aload_n hx hb dX9_bestHinge_73 rfl (lv_at hl 0 rfl) ?_
          refine lv_iload_n hx hb dX9_bestHinge_74 rfl (lv_at hl 1 rfl) ?_
          refine r_callv (va_runV (As := [.int (iI a0)]) (rest := []) ⟨hx, hb, hml, hown, hts⟩ (m9_dropsHinge l G hv_this _ st16 a0 h) (cwV 1 hts gX9_bestHinge_X9_dropsHinge rfl rfl rfl hd9_dropsHinge ⟨Nat.le_of_ble_eq_true rfl, Nat.le_of_ble_eq_true rfl⟩) (pre_V hK hX hI hA hS hv_this rfl rfl [.int (iI a0)]) rfl rfl hl.1 rfl (lv_room (Nat.le_of_ble_eq_true rfl)) dX9_bestHinge_75 ⟨Nat.le_of_ble_eq_true rfl, Nat.le_of_ble_eq_true rfl⟩) hS (fun st18 h H locs hI hS => ?_)
          refine lv_aload_n hx hb dX9_bestHinge_78 rfl (lv_at hl 0 rfl) ?_
          refine lv_iload hx hb dX9_bestHinge_79 (lv_at hl 5 rfl) ?_
          refine r_callv (va_runV (As := [.int (iI v7x36)]) (rest := []) ⟨hx, hb, hml, hown, hts⟩ (m9_addsHinge l G hv_this _ st18 v7x36 h) (cwV 1 hts gX9_bestHinge_X9_addsHinge rfl rfl rfl hd9_addsHinge ⟨Nat.le_of_ble_eq_true rfl, Nat.le_of_ble_eq_true rfl⟩) (pre_V hK hX hI hA hS hv_this rfl rfl [.int (iI v7x36)]) rfl rfl hl.1 rfl (lv_room (Nat.le_of_ble_eq_true rfl)) dX9_bestHinge_81 ⟨Nat.le_of_ble_eq_true rfl, Nat.le_of_ble_eq_true rfl⟩) hS (fun st20 h H locs hI hS => ?_)
          refine lv_aload_n hx hb dX9_bestHinge_84 rfl (lv_at hl 0 rfl) ?_
          refine r_callv (va_runV (As := []) (rest := []) ⟨hx, hb, hml, hown, hts⟩ (m9_lays l G hv_this _ st20 h) (cwV 0 hts gX9_bestHinge_X9_lays rfl rfl rfl hd9_lays ⟨Nat.le_of_ble_eq_true rfl, Nat.le_of_ble_eq_true rfl⟩) (pre_V hK hX hI hA hS hv_this rfl rfl []) rfl rfl hl.1 rfl (lv_room (Nat.le_of_ble_eq_true rfl)) dX9_bestHinge_85 ⟨Nat.le_of_ble_eq_true rfl, Nat.le_of_ble_eq_true rfl⟩) hS (fun st22 h H locs hI hS => ?_)
          refine lv_aload_n hx hb dX9_bestHinge_88 rfl (lv_at hl 0 rfl) ?_
          refine lv_aload_n hx hb dX9_bestHinge_89 rfl (lv_at hl 0 rfl) ?_
          refine r_calli (va_runV (As := []) (rest := [.ref (G.2.2.1 9 0)]) ⟨hx, hb, hml, hown, hts⟩ (m9_worstPlace l G hv_this _ st22 h) (cwV 0 hts gX9_bestHinge_X9_worstPlace rfl rfl rfl hd9_worstPlace ⟨Nat.le_of_ble_eq_true rfl, Nat.le_of_ble_eq_true rfl⟩) (pre_V hK hX hI hA hS hv_this rfl rfl []) rfl rfl hl.1 rfl (lv_room (Nat.le_of_ble_eq_true rfl)) dX9_bestHinge_90 ⟨Nat.le_of_ble_eq_true rfl, Nat.le_of_ble_eq_true rfl⟩) hS (fun z23 st24 h H locs hI hS => ?_)
          refine r_calll (va_runV (As := [.int (iI z23)]) (rest := []) ⟨hx, hb, hml, hown, hts⟩ (m9_greatestAt l G hv_this _ st24 z23 h) (cwV 1 hts gX9_bestHinge_X9_greatestAt rfl rfl rfl hd9_greatestAt ⟨Nat.le_of_ble_eq_true rfl, Nat.le_of_ble_eq_true rfl⟩) (pre_V hK hX hI hA hS hv_this rfl rfl [.int (iI z23)]) rfl rfl hl.1 rfl (lv_room (Nat.le_of_ble_eq_true rfl)) dX9_bestHinge_93 ⟨Nat.le_of_ble_eq_true rfl, Nat.le_of_ble_eq_true rfl⟩) hS (fun z25 st26 h H locs hI hS => ?_)
          refine lv_lstore (lv' := [(8, .long (lI z25)), (0, .ref (G.2.2.1 9 0)), (1, .int (iI a0)), (2, .int (iI v2x36)), (3, .long (lI v3x36)), (5, .long (lI v5x36)), (7, .int (iI v7x36))]) hx hb dX9_bestHinge_96 hl (by decide) rfl (fun ls hl => ?_)
          refine lv_aload_n hx hb dX9_bestHinge_98 rfl (lv_at hl 1 rfl) ?_
          refine gg_9_0 hx hb hts in9 hown hK hI hv_this lk_7 dX9_bestHinge_99 ?_
          refine r_iconst (n := 0) hx hb dX9_bestHinge_102 ?_
          refine lv_aload_n hx hb dX9_bestHinge_103 rfl (lv_at hl 1 rfl) ?_
          refine gg_9_19 hx hb hts in9 hown hK hI hv_this lk_40 dX9_bestHinge_104 ?_
          refine r_iconst (n := 0) hx hb dX9_bestHinge_107 ?_
          refine r_callv (va_runS (As := [.ref (G.2.2.1 30 0), .int (iI 0), .ref (G.2.2.1 30 5), .int (iI 0)]) (rest := []) ⟨hx, hb, hml, hown, hts⟩ (m9_copies l G 0 5 (vrM_9_0 hv_this) (vrM_9_19 hv_this) _ st26 0 0 h) (va_cwS 4 hts gX9_bestHinge_X9_copies rfl rfl rfl hd9_copies ⟨Nat.le_of_ble_eq_true rfl, Nat.le_of_ble_eq_true rfl⟩) (pre_S hK hX hI hA hS [.ref (G.2.2.1 30 0), .int (iI 0), .ref (G.2.2.1 30 5), .int (iI 0)]) rfl rfl hl.1 rfl (lv_room (Nat.le_of_ble_eq_true rfl)) dX9_bestHinge_108 ⟨Nat.le_of_ble_eq_true rfl, Nat.le_of_ble_eq_true rfl⟩) hS (fun st28 h H locs hI hS => ?_)
          refine lv_iload_n hx hb dX9_bestHinge_111 rfl (lv_at hl 3 rfl) ?_
          refine r_iconst (n := (-1)) hx hb dX9_bestHinge_112 ?_
          obtain ⟨g29, h⟩ := h
          refine r_icmp_eq (tgt := 134) hx hb dX9_bestHinge_113 (by decide) g29 (inI_mk rfl) (fun c30 => ?_) (fun c30 => ?_)
          · replace h := h.1 c30
            exact J134 st28 v7x36 z25 _ _ ls hI hS (lv_sub hl [1, 2, 6, 0] rfl) h
          · replace h := h.2 c30
            refine lv_lload hx hb dX9_bestHinge_116 (lv_at hl 0 rfl) ?_
            refine lv_lload hx hb dX9_bestHinge_118 (lv_at hl 5 rfl) ?_
            refine r_lmul hx hb dX9_bestHinge_120 ?_
            refine lv_lload_n hx hb dX9_bestHinge_121 rfl (lv_at hl 4 rfl) ?_
            refine lv_aload_n hx hb dX9_bestHinge_122 rfl (lv_at hl 1 rfl) ?_
            refine gg_9_18 hx hb hts in9 hown hK hI hv_this lk_227 dX9_bestHinge_123 ?_
            refine r_lmul hx hb dX9_bestHinge_126 ?_
            obtain ⟨g31, h⟩ := h
            obtain ⟨g32, h⟩ := h
            refine r_lcmp_lt (tgt := 134) hx hb dX9_bestHinge_127 dX9_bestHinge_128 (by decide) g31 g32 (fun c33 => ?_) (fun c33 => ?_)
            · replace h := h.1 c33
              exact J134 st28 v7x36 z25 _ _ ls hI hS (lv_sub hl [1, 2, 6, 0] rfl) h
            · replace h := h.2 c33
              refine lv_goto (tgt := 146) hx hb dX9_bestHinge_131 (by decide) ?_
              exact J146 st28 v2x36 v3x36 v5x36 v7x36 _ _ ls hI hS (lv_sub hl [1, 2, 3, 4, 5, 6] rfl) h
        · replace h := h.2 c14
          refine lv_goto (tgt := 146) hx hb dX9_bestHinge_57 (by decide) ?_
          exact J146 st12 v2x36 v3x36 v5x36 v7x36 _ _ ls hI hS (lv_sub hl [0, 1, 2, 3, 4, 5] rfl) h
  have J14 : ∀ (st : St) (s0x14 : Int) (H : Heap) (locs : List Loc) (ls : Array Slot), Iv vM G st H → va_S G.2.2.2.1 s.heap H locs → lv_has ls 10 [(0, .ref (G.2.2.1 9 0)), (1, .int (iI a0))] → f9_bestHinge_j14 Q a0 st s0x14 → W p l e (headSpec wsX9_bestHinge ({ frames := 6, cells := 0, slots := 0, locals := 146 })).room s m ([.ref (G.2.2.1 9 0), .int (iI a0)] : List Value).toArray below meth c H locs 0 0 (MQ below (QiM vM G Q) ([.ref (G.2.2.1 9 0), .int (iI a0)] : List Value).toArray s 0 0 G.2.2.2.1) (F0 m 14 ls [.int (iI s0x14), .ref (G.2.2.1 9 0)]) := by
    intro st s0x14 H locs ls hI hS hl h
    unfold f9_bestHinge_j14 at h
    refine pp_9_6 hx hb hts in9 hown hK hI hS hv_this lk_46 dX9_bestHinge_14 (fun st5 hst5 H locs hI hS => ?_)
    replace h := h st5 hst5
    refine lv_aload_n hx hb dX9_bestHinge_17 rfl (lv_at hl 0 rfl) ?_
    refine gg_9_6 hx hb hts in9 hown hK hI hv_this lk_46 dX9_bestHinge_18 ?_
    obtain ⟨g6, h⟩ := h
    refine r_if_le (tgt := 26) hx hb dX9_bestHinge_21 (by decide) g6 (fun c7 => ?_) (fun c7 => ?_)
    · replace h := h.1 c7
      refine r_iconst (n := (-1)) hx hb dX9_bestHinge_26 ?_
      refine lv_istore_n (lv' := [(2, .int (iI (-1))), (0, .ref (G.2.2.1 9 0)), (1, .int (iI a0))]) hx hb dX9_bestHinge_27 rfl hl (by decide) rfl (fun ls hl => ?_)
      refine r_lconst (z := 0) hx hb dX9_bestHinge_28 rfl ?_
      refine lv_lstore_n (lv' := [(3, .long (lI 0)), (2, .int (iI (-1))), (0, .ref (G.2.2.1 9 0)), (1, .int (iI a0))]) hx hb dX9_bestHinge_29 rfl hl (by decide) rfl (fun ls hl => ?_)
      refine r_lconst (z := 1) hx hb dX9_bestHinge_30 rfl ?_
      refine lv_lstore (lv' := [(5, .long (lI 1)), (3, .long (lI 0)), (2, .int (iI (-1))), (0, .ref (G.2.2.1 9 0)), (1, .int (iI a0))]) hx hb dX9_bestHinge_31 hl (by decide) rfl (fun ls hl => ?_)
      refine r_iconst (n := 1) hx hb dX9_bestHinge_33 ?_
      refine lv_istore (lv' := [(7, .int (iI 1)), (5, .long (lI 1)), (3, .long (lI 0)), (2, .int (iI (-1))), (0, .ref (G.2.2.1 9 0)), (1, .int (iI a0))]) hx hb dX9_bestHinge_34 hl (by decide) rfl (fun ls hl => ?_)
      obtain ⟨kk, h⟩ := h
      exact L36 kk st5 (-1) 0 1 1 _ _ ls hI hS (lv_sub hl [4, 5, 3, 2, 1, 0] rfl) h
    · replace h := h.2 c7
      refine r_iconst (n := 0) hx hb dX9_bestHinge_24 ?_
      exact r_iret hx hb hr hlocks hK hI hS (Qp := Q) h dX9_bestHinge_25
  unfold f9_bestHinge at h
  refine lv_aload_n hx hb dX9_bestHinge_0 rfl (lv_at hl 0 rfl) ?_
  refine lv_aload_n hx hb dX9_bestHinge_1 rfl (lv_at hl 0 rfl) ?_
  refine lv_iload_n hx hb dX9_bestHinge_2 rfl (lv_at hl 1 rfl) ?_
  refine r_calli (va_runV (As := [.int (iI a0)]) (rest := [.ref (G.2.2.1 9 0)]) ⟨hx, hb, hml, hown, hts⟩ (m9_isHinge l G hv_this _ st a0 h) (cwV 1 hts gX9_bestHinge_X9_isHinge rfl rfl rfl hd9_isHinge ⟨Nat.le_of_ble_eq_true rfl, Nat.le_of_ble_eq_true rfl⟩) (pre_V hK hX hI hA hS hv_this rfl rfl [.int (iI a0)]) rfl rfl hl.1 rfl (lv_room (Nat.le_of_ble_eq_true rfl)) dX9_bestHinge_3 ⟨Nat.le_of_ble_eq_true rfl, Nat.le_of_ble_eq_true rfl⟩) hS (fun z1 st2 h H locs hI hS => ?_)
  obtain ⟨g3, h⟩ := h
  refine r_if_eq (tgt := 13) hx hb dX9_bestHinge_6 (by decide) g3 (fun c4 => ?_) (fun c4 => ?_)
  · replace h := h.1 c4
    refine r_iconst (n := 1) hx hb dX9_bestHinge_13 ?_
    exact J14 st2 1 _ _ ls hI hS (lv_sub hl [0, 1] rfl) h
  · replace h := h.2 c4
    refine r_iconst (n := 0) hx hb dX9_bestHinge_9 ?_
    refine lv_goto (tgt := 14) hx hb dX9_bestHinge_10 (by decide) ?_
    exact J14 st2 0 _ _ ls hI hS (lv_sub hl [0, 1] rfl) h
theorem hd9_strongest : yX9_strongest.cls = RX9 ∧ yX9_strongest.cls ≠ "java/lang/invoke/MethodHandle" ∧ yX9_strongest.cls ≠ "java/lang/invoke/VarHandle" ∧ (parseMethodDescriptor yX9_strongest.desc).map (fun d => d.parameters.length) = some 0 := by decide +kernel
set_option maxHeartbeats 4000000 in
set_option maxRecDepth 100000 in
theorem m9_strongest (l : Launch) (G : WG)   (hv_this : vM 9 0) (Q : Int → St → Prop) (st : St)  (h : f9_strongest Q st) : Met l yX9_strongest wsX9_strongest ({ frames := 6, cells := 0, slots := 0, locals := 143 }) (PcM vM G st [.ref (G.2.2.1 9 0)]) (QiM vM G Q) 0 0 G.2.2.2.1 := by
  refine Met.ofW (cc := cX9_strongest) (maxL := 3) (ret := (some .int)) (by decide) rfl ?_
  intro p e s m args below meth c s₁ B hml hvv
  obtain ⟨rfl, hA, hI, hK, hX⟩ := hvv
  have hx := B.exec
  have hb := B.bytes
  have hr := B.returns
  have hts := atoms_spec (ws := wsX9_strongest) B.pre
  have hown : s.vm.findClass RX9 = some m.cls := findClass_of_methodNamed B.named
  have hlocks := B.notSynchronized
  have hS : va_S G.2.2.2.1 s.heap s.heap [] := va_S.rf
  have in9 : ∀ w ∈ wsX90, w ∈ wsX9_strongest := by decide +kernel
  have lk_7 := hts (.fieldLink RX9 7 "BeamLinesModel" "a" "[I") (by decide +kernel)
  have lk_40 := hts (.fieldLink RX9 40 "BeamLinesModel" "tried" "[I") (by decide +kernel)
  have lk_46 := hts (.fieldLink RX9 46 "BeamLinesModel" "thrown" "I") (by decide +kernel)
  have hl := lv_entry ([.ref (G.2.2.1 9 0)]) (n := 3) (Nat.le_of_ble_eq_true rfl)
  rw [lg_entry_eq]
  generalize (lg_sl ([.ref (G.2.2.1 9 0)]) ++ List.replicate (3 - (lg_sl ([.ref (G.2.2.1 9 0)])).length) Slot.unset).toArray = ls at hl ⊢
  have hl : lv_has ls 3 [(0, .ref (G.2.2.1 9 0))] := hl
  have L53 : ∀ (n53 : Nat), ∀ (st : St) (v1x53 : Int) (v2x53 : Int) (H : Heap) (locs : List Loc) (ls : Array Slot), Iv vM G st H → va_S G.2.2.2.1 s.heap H locs → lv_has ls 3 [(0, .ref (G.2.2.1 9 0)), (1, .int (iI v1x53)), (2, .int (iI v2x53))] → f9_strongest_l53 Q n53 st v1x53 v2x53 → W p l e (headSpec wsX9_strongest ({ frames := 6, cells := 0, slots := 0, locals := 143 })).room s m ([.ref (G.2.2.1 9 0)] : List Value).toArray below meth c H locs 0 0 (MQ below (QiM vM G Q) ([.ref (G.2.2.1 9 0)] : List Value).toArray s 0 0 G.2.2.2.1) (F0 m 53 ls []) := by
    intro n53
    induction n53 with
    | zero =>
      intro st v1x53 v2x53 H locs ls hI hS hl h
      exact h.elim
    | succ n53 ih53 =>
      intro st v1x53 v2x53 H locs ls hI hS hl h
      unfold f9_strongest_l53 at h
      refine lv_iload_n hx hb dX9_strongest_53 rfl (lv_at hl 1 rfl) ?_
      refine lv_iload_n hx hb dX9_strongest_54 rfl (lv_at hl 2 rfl) ?_
      obtain ⟨g12, h⟩ := h
      obtain ⟨g13, h⟩ := h
      refine r_icmp_ge (tgt := 104) hx hb dX9_strongest_55 (by decide) g12 g13 (fun c14 => ?_) (fun c14 => ?_)
      · replace h := h.1 c14
        refine lv_aload_n hx hb dX9_strongest_104 rfl (lv_at hl 0 rfl) ?_
        refine gg_9_0 hx hb hts in9 hown hK hI hv_this lk_7 dX9_strongest_105 ?_
        refine r_iconst (n := 0) hx hb dX9_strongest_108 ?_
        refine lv_aload_n hx hb dX9_strongest_109 rfl (lv_at hl 0 rfl) ?_
        refine gg_9_19 hx hb hts in9 hown hK hI hv_this lk_40 dX9_strongest_110 ?_
        refine r_iconst (n := 0) hx hb dX9_strongest_113 ?_
        refine r_callv (va_runS (As := [.ref (G.2.2.1 30 0), .int (iI 0), .ref (G.2.2.1 30 5), .int (iI 0)]) (rest := []) ⟨hx, hb, hml, hown, hts⟩ (m9_copies l G 0 5 (vrM_9_0 hv_this) (vrM_9_19 hv_this) _ st 0 0 h) (va_cwS 4 hts gX9_strongest_X9_copies rfl rfl rfl hd9_copies ⟨Nat.le_of_ble_eq_true rfl, Nat.le_of_ble_eq_true rfl⟩) (pre_S hK hX hI hA hS [.ref (G.2.2.1 30 0), .int (iI 0), .ref (G.2.2.1 30 5), .int (iI 0)]) rfl rfl hl.1 rfl (lv_room (Nat.le_of_ble_eq_true rfl)) dX9_strongest_114 ⟨Nat.le_of_ble_eq_true rfl, Nat.le_of_ble_eq_true rfl⟩) hS (fun st16 h H locs hI hS => ?_)
        refine lv_iload_n hx hb dX9_strongest_117 rfl (lv_at hl 1 rfl) ?_
        exact r_iret hx hb hr hlocks hK hI hS (Qp := Q) h dX9_strongest_118
      · replace h := h.2 c14
        refine lv_aload_n hx hb dX9_strongest_58 rfl (lv_at hl 0 rfl) ?_
        refine gg_9_0 hx hb hts in9 hown hK hI hv_this lk_7 dX9_strongest_59 ?_
        refine r_bipush (n := 35) hx hb dX9_strongest_62 rfl ?_
        refine lv_iload_n hx hb dX9_strongest_64 rfl (lv_at hl 1 rfl) ?_
        refine lv_iload_n hx hb dX9_strongest_65 rfl (lv_at hl 2 rfl) ?_
        refine r_iadd hx hb dX9_strongest_66 ?_
        refine r_iconst (n := 1) hx hb dX9_strongest_67 ?_
        refine r_iadd hx hb dX9_strongest_68 ?_
        refine r_iconst (n := 2) hx hb dX9_strongest_69 ?_
        obtain ⟨g17, h⟩ := h
        refine r_idiv hx hb dX9_strongest_70 g17 (inI_mk rfl) (by decide) ?_
        refine r_iast hx hb hK hI hS (K := 30) (vrM_9_0 hv_this) (fun _ => rfl) (mlen_le _) dX9_strongest_71 (by decide) (by decide) (fun st18 hst18 H locs hI hS => ?_)
        replace h := h st18 hst18
        refine lv_aload_n hx hb dX9_strongest_72 rfl (lv_at hl 0 rfl) ?_
        refine r_calli (va_runV (As := []) (rest := []) ⟨hx, hb, hml, hown, hts⟩ (m9_firstBad l G hv_this _ st18 h) (cwV 0 hts gX9_strongest_X9_firstBad rfl rfl rfl hd9_firstBad ⟨Nat.le_of_ble_eq_true rfl, Nat.le_of_ble_eq_true rfl⟩) (pre_V hK hX hI hA hS hv_this rfl rfl []) rfl rfl hl.1 rfl (lv_room (Nat.le_of_ble_eq_true rfl)) dX9_strongest_73 ⟨Nat.le_of_ble_eq_true rfl, Nat.le_of_ble_eq_true rfl⟩) hS (fun z19 st20 h H locs hI hS => ?_)
        refine r_iconst (n := (-1)) hx hb dX9_strongest_76 ?_
        obtain ⟨g21, h⟩ := h
        refine r_icmp_ne (tgt := 91) hx hb dX9_strongest_77 (by decide) g21 (inI_mk rfl) (fun c22 => ?_) (fun c22 => ?_)
        · replace h := h.2 c22
          refine lv_aload_n hx hb dX9_strongest_91 rfl (lv_at hl 0 rfl) ?_
          refine gg_9_0 hx hb hts in9 hown hK hI hv_this lk_7 dX9_strongest_92 ?_
          refine r_bipush (n := 35) hx hb dX9_strongest_95 rfl ?_
          refine r_iald hx hb hK hI (K := 30) (vrM_9_0 hv_this) rfl (mlen_le _) dX9_strongest_97 (by decide) (by decide) ?_
          refine r_iconst (n := 1) hx hb dX9_strongest_98 ?_
          refine r_isub hx hb dX9_strongest_99 ?_
          refine r_topi (fun x23 hx23 => ?_)
          replace h := h x23 hx23
          refine lv_istore_n (lv' := [(2, .int (iI x23)), (0, .ref (G.2.2.1 9 0)), (1, .int (iI v1x53))]) hx hb dX9_strongest_100 rfl hl (by decide) rfl (fun ls hl => ?_)
          refine lv_goto (tgt := 53) hx hb dX9_strongest_101 (by decide) ?_
          exact ih53 st20 v1x53 x23 _ _ ls hI hS (lv_sub hl [1, 2, 0] rfl) h
        · replace h := h.1 c22
          refine lv_aload_n hx hb dX9_strongest_80 rfl (lv_at hl 0 rfl) ?_
          refine gg_9_0 hx hb hts in9 hown hK hI hv_this lk_7 dX9_strongest_81 ?_
          refine r_bipush (n := 35) hx hb dX9_strongest_84 rfl ?_
          refine r_iald hx hb hK hI (K := 30) (vrM_9_0 hv_this) rfl (mlen_le _) dX9_strongest_86 (by decide) (by decide) ?_
          refine r_topi (fun x24 hx24 => ?_)
          replace h := h x24 hx24
          refine lv_istore_n (lv' := [(1, .int (iI x24)), (0, .ref (G.2.2.1 9 0)), (2, .int (iI v2x53))]) hx hb dX9_strongest_87 rfl hl (by decide) rfl (fun ls hl => ?_)
          refine lv_goto (tgt := 53) hx hb dX9_strongest_88 (by decide) ?_
          exact ih53 st20 x24 v2x53 _ _ ls hI hS (lv_sub hl [1, 0, 2] rfl) h
  unfold f9_strongest at h
  refine lv_aload_n hx hb dX9_strongest_0 rfl (lv_at hl 0 rfl) ?_
  refine r_iconst (n := 0) hx hb dX9_strongest_1 ?_
  refine pp_9_6 hx hb hts in9 hown hK hI hS hv_this lk_46 dX9_strongest_2 (fun st1 hst1 H locs hI hS => ?_)
  replace h := h st1 hst1
  refine lv_aload_n hx hb dX9_strongest_5 rfl (lv_at hl 0 rfl) ?_
  refine r_callv (va_runV (As := []) (rest := []) ⟨hx, hb, hml, hown, hts⟩ (m9_lays l G hv_this _ st1 h) (cwV 0 hts gX9_strongest_X9_lays rfl rfl rfl hd9_lays ⟨Nat.le_of_ble_eq_true rfl, Nat.le_of_ble_eq_true rfl⟩) (pre_V hK hX hI hA hS hv_this rfl rfl []) rfl rfl hl.1 rfl (lv_room (Nat.le_of_ble_eq_true rfl)) dX9_strongest_6 ⟨Nat.le_of_ble_eq_true rfl, Nat.le_of_ble_eq_true rfl⟩) hS (fun st3 h H locs hI hS => ?_)
  refine lv_aload_n hx hb dX9_strongest_9 rfl (lv_at hl 0 rfl) ?_
  refine r_iconst (n := (-1)) hx hb dX9_strongest_10 ?_
  refine r_calli (va_runV (As := [.int (iI (-1))]) (rest := []) ⟨hx, hb, hml, hown, hts⟩ (m9_dangerAt l G hv_this _ st3 (-1) h) (cwV 1 hts gX9_strongest_X9_dangerAt rfl rfl rfl hd9_dangerAt ⟨Nat.le_of_ble_eq_true rfl, Nat.le_of_ble_eq_true rfl⟩) (pre_V hK hX hI hA hS hv_this rfl rfl [.int (iI (-1))]) rfl rfl hl.1 rfl (lv_room (Nat.le_of_ble_eq_true rfl)) dX9_strongest_11 ⟨Nat.le_of_ble_eq_true rfl, Nat.le_of_ble_eq_true rfl⟩) hS (fun z4 st5 h H locs hI hS => ?_)
  obtain ⟨g6, h⟩ := h
  refine r_if_le (tgt := 19) hx hb dX9_strongest_14 (by decide) g6 (fun c7 => ?_) (fun c7 => ?_)
  · replace h := h.1 c7
    refine lv_aload_n hx hb dX9_strongest_19 rfl (lv_at hl 0 rfl) ?_
    refine gg_9_19 hx hb hts in9 hown hK hI hv_this lk_40 dX9_strongest_20 ?_
    refine r_iconst (n := 0) hx hb dX9_strongest_23 ?_
    refine lv_aload_n hx hb dX9_strongest_24 rfl (lv_at hl 0 rfl) ?_
    refine gg_9_0 hx hb hts in9 hown hK hI hv_this lk_7 dX9_strongest_25 ?_
    refine r_iconst (n := 0) hx hb dX9_strongest_28 ?_
    refine r_callv (va_runS (As := [.ref (G.2.2.1 30 5), .int (iI 0), .ref (G.2.2.1 30 0), .int (iI 0)]) (rest := []) ⟨hx, hb, hml, hown, hts⟩ (m9_copies l G 5 0 (vrM_9_19 hv_this) (vrM_9_0 hv_this) _ st5 0 0 h) (va_cwS 4 hts gX9_strongest_X9_copies rfl rfl rfl hd9_copies ⟨Nat.le_of_ble_eq_true rfl, Nat.le_of_ble_eq_true rfl⟩) (pre_S hK hX hI hA hS [.ref (G.2.2.1 30 5), .int (iI 0), .ref (G.2.2.1 30 0), .int (iI 0)]) rfl rfl hl.1 rfl (lv_room (Nat.le_of_ble_eq_true rfl)) dX9_strongest_29 ⟨Nat.le_of_ble_eq_true rfl, Nat.le_of_ble_eq_true rfl⟩) hS (fun st9 h H locs hI hS => ?_)
    refine lv_aload_n hx hb dX9_strongest_32 rfl (lv_at hl 0 rfl) ?_
    refine gg_9_0 hx hb hts in9 hown hK hI hv_this lk_7 dX9_strongest_33 ?_
    refine r_iconst (n := 5) hx hb dX9_strongest_36 ?_
    refine r_iconst (n := 1) hx hb dX9_strongest_37 ?_
    refine r_iast hx hb hK hI hS (K := 30) (vrM_9_0 hv_this) (fun _ => rfl) (mlen_le _) dX9_strongest_38 (by decide) (by decide) (fun st10 hst10 H locs hI hS => ?_)
    replace h := h st10 hst10
    refine lv_aload_n hx hb dX9_strongest_39 rfl (lv_at hl 0 rfl) ?_
    refine gg_9_0 hx hb hts in9 hown hK hI hv_this lk_7 dX9_strongest_40 ?_
    refine r_bipush (n := 36) hx hb dX9_strongest_43 rfl ?_
    refine r_iconst (n := 0) hx hb dX9_strongest_45 ?_
    refine r_iast hx hb hK hI hS (K := 30) (vrM_9_0 hv_this) (fun _ => rfl) (mlen_le _) dX9_strongest_46 (by decide) (by decide) (fun st11 hst11 H locs hI hS => ?_)
    replace h := h st11 hst11
    refine r_iconst (n := 0) hx hb dX9_strongest_47 ?_
    refine lv_istore_n (lv' := [(1, .int (iI 0)), (0, .ref (G.2.2.1 9 0))]) hx hb dX9_strongest_48 rfl hl (by decide) rfl (fun ls hl => ?_)
    refine r_sipush (n := 999) hx hb dX9_strongest_49 rfl ?_
    refine lv_istore_n (lv' := [(2, .int (iI 999)), (1, .int (iI 0)), (0, .ref (G.2.2.1 9 0))]) hx hb dX9_strongest_52 rfl hl (by decide) rfl (fun ls hl => ?_)
    obtain ⟨kk, h⟩ := h
    exact L53 kk st11 0 999 _ _ ls hI hS (lv_sub hl [2, 1, 0] rfl) h
  · replace h := h.2 c7
    refine r_iconst (n := 0) hx hb dX9_strongest_17 ?_
    exact r_iret hx hb hr hlocks hK hI hS (Qp := Q) h dX9_strongest_18
theorem hd9_moveSupport : yX9_moveSupport.cls = RX9 ∧ yX9_moveSupport.cls ≠ "java/lang/invoke/MethodHandle" ∧ yX9_moveSupport.cls ≠ "java/lang/invoke/VarHandle" ∧ (parseMethodDescriptor yX9_moveSupport.desc).map (fun d => d.parameters.length) = some 2 := by decide +kernel
set_option maxHeartbeats 4000000 in
set_option maxRecDepth 100000 in
theorem m9_moveSupport (l : Launch) (G : WG)   (hv_this : vM 9 0) (Q : Int → St → Prop) (st : St) (a0 : Int) (a1 : Int) (h : f9_moveSupport Q st a0 a1) : Met l yX9_moveSupport wsX9_moveSupport ({ frames := 4, cells := 0, slots := 0, locals := 100 }) (PcM vM G st [.ref (G.2.2.1 9 0), .int (iI a0), .int (iI a1)]) (QiM vM G Q) 0 0 G.2.2.2.1 := by
  refine Met.ofW (cc := cX9_moveSupport) (maxL := 5) (ret := (some .int)) (by decide) rfl ?_
  intro p e s m args below meth c s₁ B hml hvv
  obtain ⟨rfl, hA, hI, hK, hX⟩ := hvv
  have hx := B.exec
  have hb := B.bytes
  have hr := B.returns
  have hts := atoms_spec (ws := wsX9_moveSupport) B.pre
  have hown : s.vm.findClass RX9 = some m.cls := findClass_of_methodNamed B.named
  have hlocks := B.notSynchronized
  have hS : va_S G.2.2.2.1 s.heap s.heap [] := va_S.rf
  have in9 : ∀ w ∈ wsX90, w ∈ wsX9_moveSupport := by decide +kernel
  have lk_7 := hts (.fieldLink RX9 7 "BeamLinesModel" "a" "[I") (by decide +kernel)
  have lk_13 := hts (.fieldLink RX9 13 "BeamLinesModel" "aside" "[I") (by decide +kernel)
  have lk_46 := hts (.fieldLink RX9 46 "BeamLinesModel" "thrown" "I") (by decide +kernel)
  have hl := lv_entry ([.ref (G.2.2.1 9 0), .int (iI a0), .int (iI a1)]) (n := 5) (Nat.le_of_ble_eq_true rfl)
  rw [lg_entry_eq]
  generalize (lg_sl ([.ref (G.2.2.1 9 0), .int (iI a0), .int (iI a1)]) ++ List.replicate (5 - (lg_sl ([.ref (G.2.2.1 9 0), .int (iI a0), .int (iI a1)])).length) Slot.unset).toArray = ls at hl ⊢
  have hl : lv_has ls 5 [(0, .ref (G.2.2.1 9 0)), (1, .int (iI a0)), (2, .int (iI a1))] := hl
  have J62 : ∀ (st : St) (H : Heap) (locs : List Loc) (ls : Array Slot), Iv vM G st H → va_S G.2.2.2.1 s.heap H locs → lv_has ls 5 [(0, .ref (G.2.2.1 9 0)), (1, .int (iI a0)), (2, .int (iI a1))] → f9_moveSupport_j62 Q a0 a1 st → W p l e (headSpec wsX9_moveSupport ({ frames := 4, cells := 0, slots := 0, locals := 100 })).room s m ([.ref (G.2.2.1 9 0), .int (iI a0), .int (iI a1)] : List Value).toArray below meth c H locs 0 0 (MQ below (QiM vM G Q) ([.ref (G.2.2.1 9 0), .int (iI a0), .int (iI a1)] : List Value).toArray s 0 0 G.2.2.2.1) (F0 m 62 ls []) := by
    intro st H locs ls hI hS hl h
    unfold f9_moveSupport_j62 at h
    refine lv_aload_n hx hb dX9_moveSupport_62 rfl (lv_at hl 0 rfl) ?_
    refine gg_9_1 hx hb hts in9 hown hK hI hv_this lk_13 dX9_moveSupport_63 ?_
    refine r_iconst (n := 0) hx hb dX9_moveSupport_66 ?_
    refine lv_aload_n hx hb dX9_moveSupport_67 rfl (lv_at hl 0 rfl) ?_
    refine gg_9_0 hx hb hts in9 hown hK hI hv_this lk_7 dX9_moveSupport_68 ?_
    refine r_iconst (n := 0) hx hb dX9_moveSupport_71 ?_
    refine r_callv (va_runS (As := [.ref (G.2.2.1 30 1), .int (iI 0), .ref (G.2.2.1 30 0), .int (iI 0)]) (rest := []) ⟨hx, hb, hml, hown, hts⟩ (m9_copies l G 1 0 (vrM_9_1 hv_this) (vrM_9_0 hv_this) _ st 0 0 h) (va_cwS 4 hts gX9_moveSupport_X9_copies rfl rfl rfl hd9_copies ⟨Nat.le_of_ble_eq_true rfl, Nat.le_of_ble_eq_true rfl⟩) (pre_S hK hX hI hA hS [.ref (G.2.2.1 30 1), .int (iI 0), .ref (G.2.2.1 30 0), .int (iI 0)]) rfl rfl hl.1 rfl (lv_room (Nat.le_of_ble_eq_true rfl)) dX9_moveSupport_72 ⟨Nat.le_of_ble_eq_true rfl, Nat.le_of_ble_eq_true rfl⟩) hS (fun st24 h H locs hI hS => ?_)
    refine lv_aload_n hx hb dX9_moveSupport_75 rfl (lv_at hl 0 rfl) ?_
    refine lv_iload_n hx hb dX9_moveSupport_76 rfl (lv_at hl 1 rfl) ?_
    refine r_calli (va_runV (As := [.int (iI a0)]) (rest := []) ⟨hx, hb, hml, hown, hts⟩ (m9_bearsOf l G hv_this _ st24 a0 h) (cwV 1 hts gX9_moveSupport_X9_bearsOf rfl rfl rfl hd9_bearsOf ⟨Nat.le_of_ble_eq_true rfl, Nat.le_of_ble_eq_true rfl⟩) (pre_V hK hX hI hA hS hv_this rfl rfl [.int (iI a0)]) rfl rfl hl.1 rfl (lv_room (Nat.le_of_ble_eq_true rfl)) dX9_moveSupport_77 ⟨Nat.le_of_ble_eq_true rfl, Nat.le_of_ble_eq_true rfl⟩) hS (fun z25 st26 h H locs hI hS => ?_)
    refine lv_istore (lv' := [(4, .int (iI z25)), (0, .ref (G.2.2.1 9 0)), (1, .int (iI a0)), (2, .int (iI a1))]) hx hb dX9_moveSupport_80 hl (by decide) rfl (fun ls hl => ?_)
    refine lv_aload_n hx hb dX9_moveSupport_82 rfl (lv_at hl 1 rfl) ?_
    refine lv_iload_n hx hb dX9_moveSupport_83 rfl (lv_at hl 2 rfl) ?_
    refine r_callv (va_runV (As := [.int (iI a0)]) (rest := []) ⟨hx, hb, hml, hown, hts⟩ (m9_dropsSupport l G hv_this _ st26 a0 h) (cwV 1 hts gX9_moveSupport_X9_dropsSupport rfl rfl rfl hd9_dropsSupport ⟨Nat.le_of_ble_eq_true rfl, Nat.le_of_ble_eq_true rfl⟩) (pre_V hK hX hI hA hS hv_this rfl rfl [.int (iI a0)]) rfl rfl hl.1 rfl (lv_room (Nat.le_of_ble_eq_true rfl)) dX9_moveSupport_84 ⟨Nat.le_of_ble_eq_true rfl, Nat.le_of_ble_eq_true rfl⟩) hS (fun st28 h H locs hI hS => ?_)
    refine lv_aload_n hx hb dX9_moveSupport_87 rfl (lv_at hl 1 rfl) ?_
    refine lv_iload_n hx hb dX9_moveSupport_88 rfl (lv_at hl 3 rfl) ?_
    refine lv_iload hx hb dX9_moveSupport_89 (lv_at hl 0 rfl) ?_
    refine r_callv (va_runV (As := [.int (iI a1), .int (iI z25)]) (rest := []) ⟨hx, hb, hml, hown, hts⟩ (m9_addsSupport l G hv_this _ st28 a1 z25 h) (cwV 2 hts gX9_moveSupport_X9_addsSupport rfl rfl rfl hd9_addsSupport ⟨Nat.le_of_ble_eq_true rfl, Nat.le_of_ble_eq_true rfl⟩) (pre_V hK hX hI hA hS hv_this rfl rfl [.int (iI a1), .int (iI z25)]) rfl rfl hl.1 rfl (lv_room (Nat.le_of_ble_eq_true rfl)) dX9_moveSupport_91 ⟨Nat.le_of_ble_eq_true rfl, Nat.le_of_ble_eq_true rfl⟩) hS (fun st30 h H locs hI hS => ?_)
    refine lv_aload_n hx hb dX9_moveSupport_94 rfl (lv_at hl 1 rfl) ?_
    refine r_calli (va_runV (As := []) (rest := []) ⟨hx, hb, hml, hown, hts⟩ (m9_isStanding l G hv_this _ st30 h) (cwV 0 hts gX9_moveSupport_X9_isStanding rfl rfl rfl hd9_isStanding ⟨Nat.le_of_ble_eq_true rfl, Nat.le_of_ble_eq_true rfl⟩) (pre_V hK hX hI hA hS hv_this rfl rfl []) rfl rfl hl.1 rfl (lv_room (Nat.le_of_ble_eq_true rfl)) dX9_moveSupport_95 ⟨Nat.le_of_ble_eq_true rfl, Nat.le_of_ble_eq_true rfl⟩) hS (fun z31 st32 h H locs hI hS => ?_)
    obtain ⟨g33, h⟩ := h
    refine r_if_ne (tgt := 117) hx hb dX9_moveSupport_98 (by decide) g33 (fun c34 => ?_) (fun c34 => ?_)
    · replace h := h.2 c34
      refine lv_aload_n hx hb dX9_moveSupport_117 rfl (lv_at hl 1 rfl) ?_
      refine lv_aload_n hx hb dX9_moveSupport_118 rfl (lv_at hl 1 rfl) ?_
      refine gg_9_1 hx hb hts in9 hown hK hI hv_this lk_13 dX9_moveSupport_119 ?_
      refine r_callv (va_runV (As := [.ref (G.2.2.1 30 1)]) (rest := []) ⟨hx, hb, hml, hown, hts⟩ (m9_keeps l G 1 hv_this (vrM_9_1 hv_this) _ st32 h) (cwV 1 hts gX9_moveSupport_X9_keeps rfl rfl rfl hd9_keeps ⟨Nat.le_of_ble_eq_true rfl, Nat.le_of_ble_eq_true rfl⟩) (pre_V hK hX hI hA hS hv_this rfl rfl [.ref (G.2.2.1 30 1)]) rfl rfl hl.1 rfl (lv_room (Nat.le_of_ble_eq_true rfl)) dX9_moveSupport_122 ⟨Nat.le_of_ble_eq_true rfl, Nat.le_of_ble_eq_true rfl⟩) hS (fun st36 h H locs hI hS => ?_)
      refine lv_aload_n hx hb dX9_moveSupport_125 rfl (lv_at hl 1 rfl) ?_
      refine lv_iload_n hx hb dX9_moveSupport_126 rfl (lv_at hl 3 rfl) ?_
      refine r_calli (va_runV (As := [.int (iI a1)]) (rest := []) ⟨hx, hb, hml, hown, hts⟩ (m9_supportAt l G hv_this _ st36 a1 h) (cwV 1 hts gX9_moveSupport_X9_supportAt rfl rfl rfl hd9_supportAt ⟨Nat.le_of_ble_eq_true rfl, Nat.le_of_ble_eq_true rfl⟩) (pre_V hK hX hI hA hS hv_this rfl rfl [.int (iI a1)]) rfl rfl hl.1 rfl (lv_room (Nat.le_of_ble_eq_true rfl)) dX9_moveSupport_127 ⟨Nat.le_of_ble_eq_true rfl, Nat.le_of_ble_eq_true rfl⟩) hS (fun z37 st38 h H locs hI hS => ?_)
      exact r_iret hx hb hr hlocks hK hI hS (Qp := Q) h dX9_moveSupport_130
    · replace h := h.1 c34
      refine lv_aload_n hx hb dX9_moveSupport_101 rfl (lv_at hl 1 rfl) ?_
      refine gg_9_0 hx hb hts in9 hown hK hI hv_this lk_7 dX9_moveSupport_102 ?_
      refine r_iconst (n := 0) hx hb dX9_moveSupport_105 ?_
      refine lv_aload_n hx hb dX9_moveSupport_106 rfl (lv_at hl 1 rfl) ?_
      refine gg_9_1 hx hb hts in9 hown hK hI hv_this lk_13 dX9_moveSupport_107 ?_
      refine r_iconst (n := 0) hx hb dX9_moveSupport_110 ?_
      refine r_callv (va_runS (As := [.ref (G.2.2.1 30 0), .int (iI 0), .ref (G.2.2.1 30 1), .int (iI 0)]) (rest := []) ⟨hx, hb, hml, hown, hts⟩ (m9_copies l G 0 1 (vrM_9_0 hv_this) (vrM_9_1 hv_this) _ st32 0 0 h) (va_cwS 4 hts gX9_moveSupport_X9_copies rfl rfl rfl hd9_copies ⟨Nat.le_of_ble_eq_true rfl, Nat.le_of_ble_eq_true rfl⟩) (pre_S hK hX hI hA hS [.ref (G.2.2.1 30 0), .int (iI 0), .ref (G.2.2.1 30 1), .int (iI 0)]) rfl rfl hl.1 rfl (lv_room (Nat.le_of_ble_eq_true rfl)) dX9_moveSupport_111 ⟨Nat.le_of_ble_eq_true rfl, Nat.le_of_ble_eq_true rfl⟩) hS (fun st40 h H locs hI hS => ?_)
      refine r_bipush (n := (-12)) hx hb dX9_moveSupport_114 rfl ?_
      exact r_iret hx hb hr hlocks hK hI hS (Qp := Q) h dX9_moveSupport_116
  have J22 : ∀ (st : St) (s0x22 : Int) (H : Heap) (locs : List Loc) (ls : Array Slot), Iv vM G st H → va_S G.2.2.2.1 s.heap H locs → lv_has ls 5 [(0, .ref (G.2.2.1 9 0)), (1, .int (iI a0)), (2, .int (iI a1))] → f9_moveSupport_j22 Q a0 a1 st s0x22 → W p l e (headSpec wsX9_moveSupport ({ frames := 4, cells := 0, slots := 0, locals := 100 })).room s m ([.ref (G.2.2.1 9 0), .int (iI a0), .int (iI a1)] : List Value).toArray below meth c H locs 0 0 (MQ below (QiM vM G Q) ([.ref (G.2.2.1 9 0), .int (iI a0), .int (iI a1)] : List Value).toArray s 0 0 G.2.2.2.1) (F0 m 22 ls [.int (iI s0x22), .ref (G.2.2.1 9 0)]) := by
    intro st s0x22 H locs ls hI hS hl h
    unfold f9_moveSupport_j22 at h
    refine pp_9_6 hx hb hts in9 hown hK hI hS hv_this lk_46 dX9_moveSupport_22 (fun st9 hst9 H locs hI hS => ?_)
    replace h := h st9 hst9
    refine lv_aload_n hx hb dX9_moveSupport_25 rfl (lv_at hl 0 rfl) ?_
    refine gg_9_6 hx hb hts in9 hown hK hI hv_this lk_46 dX9_moveSupport_26 ?_
    obtain ⟨g10, h⟩ := h
    refine r_if_le (tgt := 34) hx hb dX9_moveSupport_29 (by decide) g10 (fun c11 => ?_) (fun c11 => ?_)
    · replace h := h.1 c11
      refine lv_aload_n hx hb dX9_moveSupport_34 rfl (lv_at hl 0 rfl) ?_
      refine lv_iload_n hx hb dX9_moveSupport_35 rfl (lv_at hl 2 rfl) ?_
      refine r_calli (va_runV (As := [.int (iI a1)]) (rest := []) ⟨hx, hb, hml, hown, hts⟩ (m9_supportAt l G hv_this _ st9 a1 h) (cwV 1 hts gX9_moveSupport_X9_supportAt rfl rfl rfl hd9_supportAt ⟨Nat.le_of_ble_eq_true rfl, Nat.le_of_ble_eq_true rfl⟩) (pre_V hK hX hI hA hS hv_this rfl rfl [.int (iI a1)]) rfl rfl hl.1 rfl (lv_room (Nat.le_of_ble_eq_true rfl)) dX9_moveSupport_36 ⟨Nat.le_of_ble_eq_true rfl, Nat.le_of_ble_eq_true rfl⟩) hS (fun z12 st13 h H locs hI hS => ?_)
      refine lv_istore_n (lv' := [(3, .int (iI z12)), (0, .ref (G.2.2.1 9 0)), (1, .int (iI a0)), (2, .int (iI a1))]) hx hb dX9_moveSupport_39 rfl hl (by decide) rfl (fun ls hl => ?_)
      refine lv_aload_n hx hb dX9_moveSupport_40 rfl (lv_at hl 1 rfl) ?_
      refine lv_iload_n hx hb dX9_moveSupport_41 rfl (lv_at hl 3 rfl) ?_
      refine r_calli (va_runV (As := [.int (iI a1)]) (rest := []) ⟨hx, hb, hml, hown, hts⟩ (m9_hingeAt l G hv_this _ st13 a1 h) (cwV 1 hts gX9_moveSupport_X9_hingeAt rfl rfl rfl hd9_hingeAt ⟨Nat.le_of_ble_eq_true rfl, Nat.le_of_ble_eq_true rfl⟩) (pre_V hK hX hI hA hS hv_this rfl rfl [.int (iI a1)]) rfl rfl hl.1 rfl (lv_room (Nat.le_of_ble_eq_true rfl)) dX9_moveSupport_42 ⟨Nat.le_of_ble_eq_true rfl, Nat.le_of_ble_eq_true rfl⟩) hS (fun z14 st15 h H locs hI hS => ?_)
      refine r_iconst (n := (-1)) hx hb dX9_moveSupport_45 ?_
      obtain ⟨g16, h⟩ := h
      refine r_icmp_ne (tgt := 59) hx hb dX9_moveSupport_46 (by decide) g16 (inI_mk rfl) (fun c17 => ?_) (fun c17 => ?_)
      · replace h := h.2 c17
        refine r_bipush (n := (-11)) hx hb dX9_moveSupport_59 rfl ?_
        exact r_iret hx hb hr hlocks hK hI hS (Qp := Q) h dX9_moveSupport_61
      · replace h := h.1 c17
        refine lv_iload_n hx hb dX9_moveSupport_49 rfl (lv_at hl 0 rfl) ?_
        refine r_iconst (n := (-1)) hx hb dX9_moveSupport_50 ?_
        obtain ⟨g18, h⟩ := h
        refine r_icmp_eq (tgt := 62) hx hb dX9_moveSupport_51 (by decide) g18 (inI_mk rfl) (fun c19 => ?_) (fun c19 => ?_)
        · replace h := h.1 c19
          exact J62 st15  _ _ ls hI hS (lv_sub hl [1, 2, 3] rfl) h
        · replace h := h.2 c19
          refine lv_iload_n hx hb dX9_moveSupport_54 rfl (lv_at hl 0 rfl) ?_
          refine lv_iload_n hx hb dX9_moveSupport_55 rfl (lv_at hl 2 rfl) ?_
          obtain ⟨g20, h⟩ := h
          obtain ⟨g21, h⟩ := h
          refine r_icmp_eq (tgt := 62) hx hb dX9_moveSupport_56 (by decide) g20 g21 (fun c22 => ?_) (fun c22 => ?_)
          · replace h := h.1 c22
            exact J62 st15  _ _ ls hI hS (lv_sub hl [1, 2, 3] rfl) h
          · replace h := h.2 c22
            refine r_bipush (n := (-11)) hx hb dX9_moveSupport_59 rfl ?_
            exact r_iret hx hb hr hlocks hK hI hS (Qp := Q) h dX9_moveSupport_61
    · replace h := h.2 c11
      refine r_iconst (n := 0) hx hb dX9_moveSupport_32 ?_
      exact r_iret hx hb hr hlocks hK hI hS (Qp := Q) h dX9_moveSupport_33
  have J21 : ∀ (st : St) (H : Heap) (locs : List Loc) (ls : Array Slot), Iv vM G st H → va_S G.2.2.2.1 s.heap H locs → lv_has ls 5 [(0, .ref (G.2.2.1 9 0)), (1, .int (iI a0)), (2, .int (iI a1))] → f9_moveSupport_j21 Q a0 a1 st → W p l e (headSpec wsX9_moveSupport ({ frames := 4, cells := 0, slots := 0, locals := 100 })).room s m ([.ref (G.2.2.1 9 0), .int (iI a0), .int (iI a1)] : List Value).toArray below meth c H locs 0 0 (MQ below (QiM vM G Q) ([.ref (G.2.2.1 9 0), .int (iI a0), .int (iI a1)] : List Value).toArray s 0 0 G.2.2.2.1) (F0 m 21 ls [.ref (G.2.2.1 9 0)]) := by
    intro st H locs ls hI hS hl h
    unfold f9_moveSupport_j21 at h
    refine r_iconst (n := 1) hx hb dX9_moveSupport_21 ?_
    exact J22 st 1 _ _ ls hI hS (lv_sub hl [0, 1, 2] rfl) h
  unfold f9_moveSupport at h
  refine lv_aload_n hx hb dX9_moveSupport_0 rfl (lv_at hl 0 rfl) ?_
  refine lv_aload_n hx hb dX9_moveSupport_1 rfl (lv_at hl 0 rfl) ?_
  refine lv_iload_n hx hb dX9_moveSupport_2 rfl (lv_at hl 1 rfl) ?_
  refine r_calli (va_runV (As := [.int (iI a0)]) (rest := [.ref (G.2.2.1 9 0)]) ⟨hx, hb, hml, hown, hts⟩ (m9_isSupport l G hv_this _ st a0 h) (cwV 1 hts gX9_moveSupport_X9_isSupport rfl rfl rfl hd9_isSupport ⟨Nat.le_of_ble_eq_true rfl, Nat.le_of_ble_eq_true rfl⟩) (pre_V hK hX hI hA hS hv_this rfl rfl [.int (iI a0)]) rfl rfl hl.1 rfl (lv_room (Nat.le_of_ble_eq_true rfl)) dX9_moveSupport_3 ⟨Nat.le_of_ble_eq_true rfl, Nat.le_of_ble_eq_true rfl⟩) hS (fun z1 st2 h H locs hI hS => ?_)
  obtain ⟨g3, h⟩ := h
  refine r_if_eq (tgt := 21) hx hb dX9_moveSupport_6 (by decide) g3 (fun c4 => ?_) (fun c4 => ?_)
  · replace h := h.1 c4
    exact J21 st2  _ _ ls hI hS (lv_sub hl [0, 1, 2] rfl) h
  · replace h := h.2 c4
    refine lv_aload_n hx hb dX9_moveSupport_9 rfl (lv_at hl 0 rfl) ?_
    refine lv_iload_n hx hb dX9_moveSupport_10 rfl (lv_at hl 2 rfl) ?_
    refine r_calli (va_runV (As := [.int (iI a1)]) (rest := [.ref (G.2.2.1 9 0)]) ⟨hx, hb, hml, hown, hts⟩ (m9_isPlace l G hv_this _ st2 a1 h) (cwV 1 hts gX9_moveSupport_X9_isPlace rfl rfl rfl hd9_isPlace ⟨Nat.le_of_ble_eq_true rfl, Nat.le_of_ble_eq_true rfl⟩) (pre_V hK hX hI hA hS hv_this rfl rfl [.int (iI a1)]) rfl rfl hl.1 rfl (lv_room (Nat.le_of_ble_eq_true rfl)) dX9_moveSupport_11 ⟨Nat.le_of_ble_eq_true rfl, Nat.le_of_ble_eq_true rfl⟩) hS (fun z5 st6 h H locs hI hS => ?_)
    obtain ⟨g7, h⟩ := h
    refine r_if_eq (tgt := 21) hx hb dX9_moveSupport_14 (by decide) g7 (fun c8 => ?_) (fun c8 => ?_)
    · replace h := h.1 c8
      exact J21 st6  _ _ ls hI hS (lv_sub hl [0, 1, 2] rfl) h
    · replace h := h.2 c8
      refine r_iconst (n := 0) hx hb dX9_moveSupport_17 ?_
      refine lv_goto (tgt := 22) hx hb dX9_moveSupport_18 (by decide) ?_
      exact J22 st6 0 _ _ ls hI hS (lv_sub hl [0, 1, 2] rfl) h
theorem hd9_moveHinge : yX9_moveHinge.cls = RX9 ∧ yX9_moveHinge.cls ≠ "java/lang/invoke/MethodHandle" ∧ yX9_moveHinge.cls ≠ "java/lang/invoke/VarHandle" ∧ (parseMethodDescriptor yX9_moveHinge.desc).map (fun d => d.parameters.length) = some 2 := by decide +kernel
set_option maxHeartbeats 4000000 in
set_option maxRecDepth 100000 in
theorem m9_moveHinge (l : Launch) (G : WG)   (hv_this : vM 9 0) (Q : Int → St → Prop) (st : St) (a0 : Int) (a1 : Int) (h : f9_moveHinge Q st a0 a1) : Met l yX9_moveHinge wsX9_moveHinge ({ frames := 5, cells := 0, slots := 0, locals := 124 }) (PcM vM G st [.ref (G.2.2.1 9 0), .int (iI a0), .int (iI a1)]) (QiM vM G Q) 0 0 G.2.2.2.1 := by
  refine Met.ofW (cc := cX9_moveHinge) (maxL := 4) (ret := (some .int)) (by decide) rfl ?_
  intro p e s m args below meth c s₁ B hml hvv
  obtain ⟨rfl, hA, hI, hK, hX⟩ := hvv
  have hx := B.exec
  have hb := B.bytes
  have hr := B.returns
  have hts := atoms_spec (ws := wsX9_moveHinge) B.pre
  have hown : s.vm.findClass RX9 = some m.cls := findClass_of_methodNamed B.named
  have hlocks := B.notSynchronized
  have hS : va_S G.2.2.2.1 s.heap s.heap [] := va_S.rf
  have in9 : ∀ w ∈ wsX90, w ∈ wsX9_moveHinge := by decide +kernel
  have lk_7 := hts (.fieldLink RX9 7 "BeamLinesModel" "a" "[I") (by decide +kernel)
  have lk_46 := hts (.fieldLink RX9 46 "BeamLinesModel" "thrown" "I") (by decide +kernel)
  have hl := lv_entry ([.ref (G.2.2.1 9 0), .int (iI a0), .int (iI a1)]) (n := 4) (Nat.le_of_ble_eq_true rfl)
  rw [lg_entry_eq]
  generalize (lg_sl ([.ref (G.2.2.1 9 0), .int (iI a0), .int (iI a1)]) ++ List.replicate (4 - (lg_sl ([.ref (G.2.2.1 9 0), .int (iI a0), .int (iI a1)])).length) Slot.unset).toArray = ls at hl ⊢
  have hl : lv_has ls 4 [(0, .ref (G.2.2.1 9 0)), (1, .int (iI a0)), (2, .int (iI a1))] := hl
  unfold f9_moveHinge at h
  refine lv_aload_n hx hb dX9_moveHinge_0 rfl (lv_at hl 0 rfl) ?_
  refine lv_aload_n hx hb dX9_moveHinge_1 rfl (lv_at hl 0 rfl) ?_
  refine lv_iload_n hx hb dX9_moveHinge_2 rfl (lv_at hl 1 rfl) ?_
  refine lv_iload_n hx hb dX9_moveHinge_3 rfl (lv_at hl 2 rfl) ?_
  refine r_calli (va_runV (As := [.int (iI a0), .int (iI a1)]) (rest := [.ref (G.2.2.1 9 0)]) ⟨hx, hb, hml, hown, hts⟩ (m9_noPlace l G hv_this _ st a0 a1 h) (cwV 2 hts gX9_moveHinge_X9_noPlace rfl rfl rfl hd9_noPlace ⟨Nat.le_of_ble_eq_true rfl, Nat.le_of_ble_eq_true rfl⟩) (pre_V hK hX hI hA hS hv_this rfl rfl [.int (iI a0), .int (iI a1)]) rfl rfl hl.1 rfl (lv_room (Nat.le_of_ble_eq_true rfl)) dX9_moveHinge_4 ⟨Nat.le_of_ble_eq_true rfl, Nat.le_of_ble_eq_true rfl⟩) hS (fun z1 st2 h H locs hI hS => ?_)
  refine pp_9_6 hx hb hts in9 hown hK hI hS hv_this lk_46 dX9_moveHinge_7 (fun st3 hst3 H locs hI hS => ?_)
  replace h := h st3 hst3
  refine lv_aload_n hx hb dX9_moveHinge_10 rfl (lv_at hl 0 rfl) ?_
  refine gg_9_6 hx hb hts in9 hown hK hI hv_this lk_46 dX9_moveHinge_11 ?_
  obtain ⟨g4, h⟩ := h
  refine r_if_le (tgt := 19) hx hb dX9_moveHinge_14 (by decide) g4 (fun c5 => ?_) (fun c5 => ?_)
  · replace h := h.1 c5
    refine lv_aload_n hx hb dX9_moveHinge_19 rfl (lv_at hl 0 rfl) ?_
    refine lv_iload_n hx hb dX9_moveHinge_20 rfl (lv_at hl 1 rfl) ?_
    refine lv_iload_n hx hb dX9_moveHinge_21 rfl (lv_at hl 2 rfl) ?_
    refine r_calli (va_runV (As := [.int (iI a0), .int (iI a1)]) (rest := []) ⟨hx, hb, hml, hown, hts⟩ (m9_noHinge l G hv_this _ st3 a0 a1 h) (cwV 2 hts gX9_moveHinge_X9_noHinge rfl rfl rfl hd9_noHinge ⟨Nat.le_of_ble_eq_true rfl, Nat.le_of_ble_eq_true rfl⟩) (pre_V hK hX hI hA hS hv_this rfl rfl [.int (iI a0), .int (iI a1)]) rfl rfl hl.1 rfl (lv_room (Nat.le_of_ble_eq_true rfl)) dX9_moveHinge_22 ⟨Nat.le_of_ble_eq_true rfl, Nat.le_of_ble_eq_true rfl⟩) hS (fun z6 st7 h H locs hI hS => ?_)
    refine lv_istore_n (lv' := [(3, .int (iI z6)), (0, .ref (G.2.2.1 9 0)), (1, .int (iI a0)), (2, .int (iI a1))]) hx hb dX9_moveHinge_25 rfl hl (by decide) rfl (fun ls hl => ?_)
    refine lv_iload_n hx hb dX9_moveHinge_26 rfl (lv_at hl 0 rfl) ?_
    obtain ⟨g8, h⟩ := h
    refine r_if_le (tgt := 35) hx hb dX9_moveHinge_27 (by decide) g8 (fun c9 => ?_) (fun c9 => ?_)
    · replace h := h.1 c9
      refine lv_aload_n hx hb dX9_moveHinge_35 rfl (lv_at hl 1 rfl) ?_
      refine lv_aload_n hx hb dX9_moveHinge_36 rfl (lv_at hl 1 rfl) ?_
      refine gg_9_0 hx hb hts in9 hown hK hI hv_this lk_7 dX9_moveHinge_37 ?_
      refine r_callv (va_runV (As := [.ref (G.2.2.1 30 0)]) (rest := []) ⟨hx, hb, hml, hown, hts⟩ (m9_keeps l G 0 hv_this (vrM_9_0 hv_this) _ st7 h) (cwV 1 hts gX9_moveHinge_X9_keeps rfl rfl rfl hd9_keeps ⟨Nat.le_of_ble_eq_true rfl, Nat.le_of_ble_eq_true rfl⟩) (pre_V hK hX hI hA hS hv_this rfl rfl [.ref (G.2.2.1 30 0)]) rfl rfl hl.1 rfl (lv_room (Nat.le_of_ble_eq_true rfl)) dX9_moveHinge_40 ⟨Nat.le_of_ble_eq_true rfl, Nat.le_of_ble_eq_true rfl⟩) hS (fun st11 h H locs hI hS => ?_)
      refine lv_aload_n hx hb dX9_moveHinge_43 rfl (lv_at hl 1 rfl) ?_
      refine lv_iload_n hx hb dX9_moveHinge_44 rfl (lv_at hl 2 rfl) ?_
      refine r_callv (va_runV (As := [.int (iI a0)]) (rest := []) ⟨hx, hb, hml, hown, hts⟩ (m9_dropsHinge l G hv_this _ st11 a0 h) (cwV 1 hts gX9_moveHinge_X9_dropsHinge rfl rfl rfl hd9_dropsHinge ⟨Nat.le_of_ble_eq_true rfl, Nat.le_of_ble_eq_true rfl⟩) (pre_V hK hX hI hA hS hv_this rfl rfl [.int (iI a0)]) rfl rfl hl.1 rfl (lv_room (Nat.le_of_ble_eq_true rfl)) dX9_moveHinge_45 ⟨Nat.le_of_ble_eq_true rfl, Nat.le_of_ble_eq_true rfl⟩) hS (fun st13 h H locs hI hS => ?_)
      refine lv_aload_n hx hb dX9_moveHinge_48 rfl (lv_at hl 1 rfl) ?_
      refine lv_iload_n hx hb dX9_moveHinge_49 rfl (lv_at hl 3 rfl) ?_
      refine r_callv (va_runV (As := [.int (iI a1)]) (rest := []) ⟨hx, hb, hml, hown, hts⟩ (m9_addsHinge l G hv_this _ st13 a1 h) (cwV 1 hts gX9_moveHinge_X9_addsHinge rfl rfl rfl hd9_addsHinge ⟨Nat.le_of_ble_eq_true rfl, Nat.le_of_ble_eq_true rfl⟩) (pre_V hK hX hI hA hS hv_this rfl rfl [.int (iI a1)]) rfl rfl hl.1 rfl (lv_room (Nat.le_of_ble_eq_true rfl)) dX9_moveHinge_50 ⟨Nat.le_of_ble_eq_true rfl, Nat.le_of_ble_eq_true rfl⟩) hS (fun st15 h H locs hI hS => ?_)
      refine lv_aload_n hx hb dX9_moveHinge_53 rfl (lv_at hl 1 rfl) ?_
      refine lv_iload_n hx hb dX9_moveHinge_54 rfl (lv_at hl 3 rfl) ?_
      refine r_calli (va_runV (As := [.int (iI a1)]) (rest := []) ⟨hx, hb, hml, hown, hts⟩ (m9_hingeAt l G hv_this _ st15 a1 h) (cwV 1 hts gX9_moveHinge_X9_hingeAt rfl rfl rfl hd9_hingeAt ⟨Nat.le_of_ble_eq_true rfl, Nat.le_of_ble_eq_true rfl⟩) (pre_V hK hX hI hA hS hv_this rfl rfl [.int (iI a1)]) rfl rfl hl.1 rfl (lv_room (Nat.le_of_ble_eq_true rfl)) dX9_moveHinge_55 ⟨Nat.le_of_ble_eq_true rfl, Nat.le_of_ble_eq_true rfl⟩) hS (fun z16 st17 h H locs hI hS => ?_)
      exact r_iret hx hb hr hlocks hK hI hS (Qp := Q) h dX9_moveHinge_58
    · replace h := h.2 c9
      refine r_bipush (n := (-10)) hx hb dX9_moveHinge_30 rfl ?_
      refine lv_iload_n hx hb dX9_moveHinge_32 rfl (lv_at hl 0 rfl) ?_
      refine r_isub hx hb dX9_moveHinge_33 ?_
      exact r_iret hx hb hr hlocks hK hI hS (Qp := Q) h dX9_moveHinge_34
  · replace h := h.2 c5
    refine r_iconst (n := 0) hx hb dX9_moveHinge_17 ?_
    exact r_iret hx hb hr hlocks hK hI hS (Qp := Q) h dX9_moveHinge_18
theorem hd9_adds : yX9_adds.cls = RX9 ∧ yX9_adds.cls ≠ "java/lang/invoke/MethodHandle" ∧ yX9_adds.cls ≠ "java/lang/invoke/VarHandle" ∧ (parseMethodDescriptor yX9_adds.desc).map (fun d => d.parameters.length) = some 4 := by decide +kernel
set_option maxHeartbeats 4000000 in
set_option maxRecDepth 100000 in
theorem m9_adds (l : Launch) (G : WG)   (hv_this : vM 9 0) (Q : St → Prop) (st : St) (a0 : Int) (a1 : Int) (a2 : Int) (a3 : Int) (h : f9_adds Q st a0 a1 a2 a3) : Met l yX9_adds wsX9_adds ({ frames := 0, cells := 0, slots := 0, locals := 0 }) (PcM vM G st [.ref (G.2.2.1 9 0), .int (iI a0), .int (iI a1), .int (iI a2), .int (iI a3)]) (QvM vM G Q) 0 0 G.2.2.2.1 := by
  refine Met.ofW (cc := cX9_adds) (maxL := 5) (ret := none) (by decide) rfl ?_
  intro p e s m args below meth c s₁ B hml hvv
  obtain ⟨rfl, hA, hI, hK, hX⟩ := hvv
  have hx := B.exec
  have hb := B.bytes
  have hr := B.returns
  have hts := atoms_spec (ws := wsX9_adds) B.pre
  have hown : s.vm.findClass RX9 = some m.cls := findClass_of_methodNamed B.named
  have hlocks := B.notSynchronized
  have hS : va_S G.2.2.2.1 s.heap s.heap [] := va_S.rf
  have in9 : ∀ w ∈ wsX90, w ∈ wsX9_adds := by decide +kernel
  have lk_7 := hts (.fieldLink RX9 7 "BeamLinesModel" "a" "[I") (by decide +kernel)
  have hl := lv_entry ([.ref (G.2.2.1 9 0), .int (iI a0), .int (iI a1), .int (iI a2), .int (iI a3)]) (n := 5) (Nat.le_of_ble_eq_true rfl)
  rw [lg_entry_eq]
  generalize (lg_sl ([.ref (G.2.2.1 9 0), .int (iI a0), .int (iI a1), .int (iI a2), .int (iI a3)]) ++ List.replicate (5 - (lg_sl ([.ref (G.2.2.1 9 0), .int (iI a0), .int (iI a1), .int (iI a2), .int (iI a3)])).length) Slot.unset).toArray = ls at hl ⊢
  have hl : lv_has ls 5 [(0, .ref (G.2.2.1 9 0)), (1, .int (iI a0)), (2, .int (iI a1)), (3, .int (iI a2)), (4, .int (iI a3))] := hl
  unfold f9_adds at h
  refine lv_aload_n hx hb dX9_adds_0 rfl (lv_at hl 0 rfl) ?_
  refine gg_9_0 hx hb hts in9 hown hK hI hv_this lk_7 dX9_adds_1 ?_
  refine lv_iload_n hx hb dX9_adds_4 rfl (lv_at hl 1 rfl) ?_
  refine r_iconst (n := 2) hx hb dX9_adds_5 ?_
  refine lv_aload_n hx hb dX9_adds_6 rfl (lv_at hl 0 rfl) ?_
  refine gg_9_0 hx hb hts in9 hown hK hI hv_this lk_7 dX9_adds_7 ?_
  refine lv_iload_n hx hb dX9_adds_10 rfl (lv_at hl 2 rfl) ?_
  obtain ⟨g1, g2, h⟩ := h
  refine r_iald hx hb hK hI (K := 30) (vrM_9_0 hv_this) rfl (mlen_le _) dX9_adds_11 g1 g2 ?_
  refine r_imul hx hb dX9_adds_12 ?_
  refine r_iadd hx hb dX9_adds_13 ?_
  refine lv_iload_n hx hb dX9_adds_14 rfl (lv_at hl 3 rfl) ?_
  obtain ⟨g3, g4, h⟩ := h
  refine r_iast hx hb hK hI hS (K := 30) (vrM_9_0 hv_this) (fun _ => rfl) (mlen_le _) dX9_adds_15 g3 g4 (fun st5 hst5 H locs hI hS => ?_)
  replace h := h st5 hst5
  refine lv_aload_n hx hb dX9_adds_16 rfl (lv_at hl 0 rfl) ?_
  refine gg_9_0 hx hb hts in9 hown hK hI hv_this lk_7 dX9_adds_17 ?_
  refine lv_iload_n hx hb dX9_adds_20 rfl (lv_at hl 1 rfl) ?_
  refine r_iconst (n := 2) hx hb dX9_adds_21 ?_
  refine lv_aload_n hx hb dX9_adds_22 rfl (lv_at hl 0 rfl) ?_
  refine gg_9_0 hx hb hts in9 hown hK hI hv_this lk_7 dX9_adds_23 ?_
  refine lv_iload_n hx hb dX9_adds_26 rfl (lv_at hl 2 rfl) ?_
  obtain ⟨g6, g7, h⟩ := h
  refine r_iald hx hb hK hI (K := 30) (vrM_9_0 hv_this) rfl (mlen_le _) dX9_adds_27 g6 g7 ?_
  refine r_imul hx hb dX9_adds_28 ?_
  refine r_iadd hx hb dX9_adds_29 ?_
  refine r_iconst (n := 1) hx hb dX9_adds_30 ?_
  refine r_iadd hx hb dX9_adds_31 ?_
  refine lv_iload hx hb dX9_adds_32 (lv_at hl 4 rfl) ?_
  obtain ⟨g8, g9, h⟩ := h
  refine r_iast hx hb hK hI hS (K := 30) (vrM_9_0 hv_this) (fun _ => rfl) (mlen_le _) dX9_adds_34 g8 g9 (fun st10 hst10 H locs hI hS => ?_)
  replace h := h st10 hst10
  refine lv_aload_n hx hb dX9_adds_35 rfl (lv_at hl 0 rfl) ?_
  refine gg_9_0 hx hb hts in9 hown hK hI hv_this lk_7 dX9_adds_36 ?_
  refine lv_iload_n hx hb dX9_adds_39 rfl (lv_at hl 2 rfl) ?_
  refine lv_dup2_11 hx hb dX9_adds_40 rfl rfl ?_
  obtain ⟨g11, g12, h⟩ := h
  refine r_iald hx hb hK hI (K := 30) (vrM_9_0 hv_this) rfl (mlen_le _) dX9_adds_41 g11 g12 ?_
  refine r_iconst (n := 1) hx hb dX9_adds_42 ?_
  refine r_iadd hx hb dX9_adds_43 ?_
  obtain ⟨g13, g14, h⟩ := h
  refine r_iast hx hb hK hI hS (K := 30) (vrM_9_0 hv_this) (fun _ => rfl) (mlen_le _) dX9_adds_44 g13 g14 (fun st15 hst15 H locs hI hS => ?_)
  replace h := h st15 hst15
  exact r_vret hx hb hr hlocks hK hI hS (Qp := Q) h dX9_adds_45
theorem hd9_drops : yX9_drops.cls = RX9 ∧ yX9_drops.cls ≠ "java/lang/invoke/MethodHandle" ∧ yX9_drops.cls ≠ "java/lang/invoke/VarHandle" ∧ (parseMethodDescriptor yX9_drops.desc).map (fun d => d.parameters.length) = some 3 := by decide +kernel
set_option maxHeartbeats 4000000 in
set_option maxRecDepth 100000 in
theorem m9_drops (l : Launch) (G : WG)   (hv_this : vM 9 0) (Q : Int → St → Prop) (st : St) (a0 : Int) (a1 : Int) (a2 : Int) (h : f9_drops Q st a0 a1 a2) : Met l yX9_drops wsX9_drops ({ frames := 0, cells := 0, slots := 0, locals := 0 }) (PcM vM G st [.ref (G.2.2.1 9 0), .int (iI a0), .int (iI a1), .int (iI a2)]) (QiM vM G Q) 0 0 G.2.2.2.1 := by
  refine Met.ofW (cc := cX9_drops) (maxL := 6) (ret := (some .int)) (by decide) rfl ?_
  intro p e s m args below meth c s₁ B hml hvv
  obtain ⟨rfl, hA, hI, hK, hX⟩ := hvv
  have hx := B.exec
  have hb := B.bytes
  have hr := B.returns
  have hts := atoms_spec (ws := wsX9_drops) B.pre
  have hown : s.vm.findClass RX9 = some m.cls := findClass_of_methodNamed B.named
  have hlocks := B.notSynchronized
  have hS : va_S G.2.2.2.1 s.heap s.heap [] := va_S.rf
  have in9 : ∀ w ∈ wsX90, w ∈ wsX9_drops := by decide +kernel
  have lk_7 := hts (.fieldLink RX9 7 "BeamLinesModel" "a" "[I") (by decide +kernel)
  have hl := lv_entry ([.ref (G.2.2.1 9 0), .int (iI a0), .int (iI a1), .int (iI a2)]) (n := 6) (Nat.le_of_ble_eq_true rfl)
  rw [lg_entry_eq]
  generalize (lg_sl ([.ref (G.2.2.1 9 0), .int (iI a0), .int (iI a1), .int (iI a2)]) ++ List.replicate (6 - (lg_sl ([.ref (G.2.2.1 9 0), .int (iI a0), .int (iI a1), .int (iI a2)])).length) Slot.unset).toArray = ls at hl ⊢
  have hl : lv_has ls 6 [(0, .ref (G.2.2.1 9 0)), (1, .int (iI a0)), (2, .int (iI a1)), (3, .int (iI a2))] := hl
  have L29 : ∀ (v4x29 : Int) (n29 : Nat), ∀ (st : St) (v5x29 : Int) (H : Heap) (locs : List Loc) (ls : Array Slot), Iv vM G st H → va_S G.2.2.2.1 s.heap H locs → lv_has ls 6 [(0, .ref (G.2.2.1 9 0)), (1, .int (iI a0)), (2, .int (iI a1)), (4, .int (iI v4x29)), (5, .int (iI v5x29))] → f9_drops_l29 Q a0 a1 v4x29 n29 st v5x29 → W p l e (headSpec wsX9_drops ({ frames := 0, cells := 0, slots := 0, locals := 0 })).room s m ([.ref (G.2.2.1 9 0), .int (iI a0), .int (iI a1), .int (iI a2)] : List Value).toArray below meth c H locs 0 0 (MQ below (QiM vM G Q) ([.ref (G.2.2.1 9 0), .int (iI a0), .int (iI a1), .int (iI a2)] : List Value).toArray s 0 0 G.2.2.2.1) (F0 m 29 ls []) := by
    intro v4x29 n29
    induction n29 with
    | zero =>
      intro st v5x29 H locs ls hI hS hl h
      exact h.elim
    | succ n29 ih29 =>
      intro st v5x29 H locs ls hI hS hl h
      unfold f9_drops_l29 at h
      refine lv_iload hx hb dX9_drops_29 (lv_at hl 4 rfl) ?_
      refine lv_iload_n hx hb dX9_drops_31 rfl (lv_at hl 1 rfl) ?_
      refine r_iconst (n := 2) hx hb dX9_drops_32 ?_
      refine lv_aload_n hx hb dX9_drops_33 rfl (lv_at hl 0 rfl) ?_
      refine gg_9_0 hx hb hts in9 hown hK hI hv_this lk_7 dX9_drops_34 ?_
      refine lv_iload_n hx hb dX9_drops_37 rfl (lv_at hl 2 rfl) ?_
      obtain ⟨g10, g11, h⟩ := h
      refine r_iald hx hb hK hI (K := 30) (vrM_9_0 hv_this) rfl (mlen_le _) dX9_drops_38 g10 g11 ?_
      refine r_imul hx hb dX9_drops_39 ?_
      refine r_iadd hx hb dX9_drops_40 ?_
      obtain ⟨g12, h⟩ := h
      obtain ⟨g13, h⟩ := h
      refine r_icmp_ge (tgt := 66) hx hb dX9_drops_41 (by decide) g12 g13 (fun c14 => ?_) (fun c14 => ?_)
      · replace h := h.1 c14
        refine lv_iload hx hb dX9_drops_66 (lv_at hl 3 rfl) ?_
        exact r_iret hx hb hr hlocks hK hI hS (Qp := Q) h dX9_drops_68
      · replace h := h.2 c14
        refine lv_aload_n hx hb dX9_drops_44 rfl (lv_at hl 0 rfl) ?_
        refine gg_9_0 hx hb hts in9 hown hK hI hv_this lk_7 dX9_drops_45 ?_
        refine lv_iload hx hb dX9_drops_48 (lv_at hl 4 rfl) ?_
        refine lv_aload_n hx hb dX9_drops_50 rfl (lv_at hl 0 rfl) ?_
        refine gg_9_0 hx hb hts in9 hown hK hI hv_this lk_7 dX9_drops_51 ?_
        refine lv_iload hx hb dX9_drops_54 (lv_at hl 4 rfl) ?_
        refine r_iconst (n := 2) hx hb dX9_drops_56 ?_
        refine r_iadd hx hb dX9_drops_57 ?_
        obtain ⟨g15, g16, h⟩ := h
        refine r_iald hx hb hK hI (K := 30) (vrM_9_0 hv_this) rfl (mlen_le _) dX9_drops_58 g15 g16 ?_
        obtain ⟨g17, g18, h⟩ := h
        refine r_iast hx hb hK hI hS (K := 30) (vrM_9_0 hv_this) (fun _ => rfl) (mlen_le _) dX9_drops_59 g17 g18 (fun st19 hst19 H locs hI hS => ?_)
        replace h := h st19 hst19
        obtain ⟨x20, hx20⟩ : ∃ z : Int, z = v5x29 + 1 := ⟨_, rfl⟩
        replace h := h x20 hx20
        refine lv_iinc (v := iI x20) (lv' := [(5, .int (iI x20)), (0, .ref (G.2.2.1 9 0)), (1, .int (iI a0)), (2, .int (iI a1)), (4, .int (iI v4x29))]) hx hb dX9_drops_60 hl (k := 4) rfl (by rw [hx20]; exact iI_add _ _) (by decide) rfl (fun ls hl => ?_)
        refine lv_goto (tgt := 29) hx hb dX9_drops_63 (by decide) ?_
        exact ih29 st19 x20 _ _ ls hI hS (lv_sub hl [1, 2, 3, 4, 0] rfl) h
  unfold f9_drops at h
  refine lv_aload_n hx hb dX9_drops_0 rfl (lv_at hl 0 rfl) ?_
  refine gg_9_0 hx hb hts in9 hown hK hI hv_this lk_7 dX9_drops_1 ?_
  refine lv_iload_n hx hb dX9_drops_4 rfl (lv_at hl 1 rfl) ?_
  refine r_iconst (n := 2) hx hb dX9_drops_5 ?_
  refine lv_iload_n hx hb dX9_drops_6 rfl (lv_at hl 3 rfl) ?_
  refine r_imul hx hb dX9_drops_7 ?_
  refine r_iadd hx hb dX9_drops_8 ?_
  obtain ⟨g1, g2, h⟩ := h
  refine r_iald hx hb hK hI (K := 30) (vrM_9_0 hv_this) rfl (mlen_le _) dX9_drops_9 g1 g2 ?_
  refine r_topi (fun x3 hx3 => ?_)
  replace h := h x3 hx3
  refine lv_istore (lv' := [(4, .int (iI x3)), (0, .ref (G.2.2.1 9 0)), (1, .int (iI a0)), (2, .int (iI a1)), (3, .int (iI a2))]) hx hb dX9_drops_10 hl (by decide) rfl (fun ls hl => ?_)
  refine lv_aload_n hx hb dX9_drops_12 rfl (lv_at hl 1 rfl) ?_
  refine gg_9_0 hx hb hts in9 hown hK hI hv_this lk_7 dX9_drops_13 ?_
  refine lv_iload_n hx hb dX9_drops_16 rfl (lv_at hl 3 rfl) ?_
  refine lv_dup2_11 hx hb dX9_drops_17 rfl rfl ?_
  obtain ⟨g4, g5, h⟩ := h
  refine r_iald hx hb hK hI (K := 30) (vrM_9_0 hv_this) rfl (mlen_le _) dX9_drops_18 g4 g5 ?_
  refine r_iconst (n := 1) hx hb dX9_drops_19 ?_
  refine r_isub hx hb dX9_drops_20 ?_
  obtain ⟨g6, g7, h⟩ := h
  refine r_iast hx hb hK hI hS (K := 30) (vrM_9_0 hv_this) (fun _ => rfl) (mlen_le _) dX9_drops_21 g6 g7 (fun st8 hst8 H locs hI hS => ?_)
  replace h := h st8 hst8
  refine lv_iload_n hx hb dX9_drops_22 rfl (lv_at hl 2 rfl) ?_
  refine r_iconst (n := 2) hx hb dX9_drops_23 ?_
  refine lv_iload_n hx hb dX9_drops_24 rfl (lv_at hl 4 rfl) ?_
  refine r_imul hx hb dX9_drops_25 ?_
  refine r_iadd hx hb dX9_drops_26 ?_
  refine r_topi (fun x9 hx9 => ?_)
  replace h := h x9 hx9
  refine lv_istore (lv' := [(5, .int (iI x9)), (4, .int (iI x3)), (0, .ref (G.2.2.1 9 0)), (1, .int (iI a0)), (2, .int (iI a1)), (3, .int (iI a2))]) hx hb dX9_drops_27 hl (by decide) rfl (fun ls hl => ?_)
  obtain ⟨kk, h⟩ := h
  exact L29 x3 kk st8 x9 _ _ ls hI hS (lv_sub hl [2, 3, 4, 1, 0] rfl) h
theorem hd9_addLoad : yX9_addLoad.cls = RX9 ∧ yX9_addLoad.cls ≠ "java/lang/invoke/MethodHandle" ∧ yX9_addLoad.cls ≠ "java/lang/invoke/VarHandle" ∧ (parseMethodDescriptor yX9_addLoad.desc).map (fun d => d.parameters.length) = some 2 := by decide +kernel
set_option maxHeartbeats 4000000 in
set_option maxRecDepth 100000 in
theorem m9_addLoad (l : Launch) (G : WG)   (hv_this : vM 9 0) (Q : Int → St → Prop) (st : St) (a0 : Int) (a1 : Int) (h : f9_addLoad Q st a0 a1) : Met l yX9_addLoad wsX9_addLoad ({ frames := 2, cells := 0, slots := 0, locals := 46 }) (PcM vM G st [.ref (G.2.2.1 9 0), .int (iI a0), .int (iI a1)]) (QiM vM G Q) 0 0 G.2.2.2.1 := by
  refine Met.ofW (cc := cX9_addLoad) (maxL := 3) (ret := (some .int)) (by decide) rfl ?_
  intro p e s m args below meth c s₁ B hml hvv
  obtain ⟨rfl, hA, hI, hK, hX⟩ := hvv
  have hx := B.exec
  have hb := B.bytes
  have hr := B.returns
  have hts := atoms_spec (ws := wsX9_addLoad) B.pre
  have hown : s.vm.findClass RX9 = some m.cls := findClass_of_methodNamed B.named
  have hlocks := B.notSynchronized
  have hS : va_S G.2.2.2.1 s.heap s.heap [] := va_S.rf
  have in9 : ∀ w ∈ wsX90, w ∈ wsX9_addLoad := by decide +kernel
  have lk_7 := hts (.fieldLink RX9 7 "BeamLinesModel" "a" "[I") (by decide +kernel)
  have lk_46 := hts (.fieldLink RX9 46 "BeamLinesModel" "thrown" "I") (by decide +kernel)
  have hl := lv_entry ([.ref (G.2.2.1 9 0), .int (iI a0), .int (iI a1)]) (n := 3) (Nat.le_of_ble_eq_true rfl)
  rw [lg_entry_eq]
  generalize (lg_sl ([.ref (G.2.2.1 9 0), .int (iI a0), .int (iI a1)]) ++ List.replicate (3 - (lg_sl ([.ref (G.2.2.1 9 0), .int (iI a0), .int (iI a1)])).length) Slot.unset).toArray = ls at hl ⊢
  have hl : lv_has ls 3 [(0, .ref (G.2.2.1 9 0)), (1, .int (iI a0)), (2, .int (iI a1))] := hl
  have J29 : ∀ (st : St) (s0x29 : Int) (H : Heap) (locs : List Loc) (ls : Array Slot), Iv vM G st H → va_S G.2.2.2.1 s.heap H locs → lv_has ls 3 [(0, .ref (G.2.2.1 9 0)), (1, .int (iI a0)), (2, .int (iI a1))] → f9_addLoad_j29 Q a0 a1 st s0x29 → W p l e (headSpec wsX9_addLoad ({ frames := 2, cells := 0, slots := 0, locals := 46 })).room s m ([.ref (G.2.2.1 9 0), .int (iI a0), .int (iI a1)] : List Value).toArray below meth c H locs 0 0 (MQ below (QiM vM G Q) ([.ref (G.2.2.1 9 0), .int (iI a0), .int (iI a1)] : List Value).toArray s 0 0 G.2.2.2.1) (F0 m 29 ls [.int (iI s0x29), .ref (G.2.2.1 9 0)]) := by
    intro st s0x29 H locs ls hI hS hl h
    unfold f9_addLoad_j29 at h
    refine pp_9_6 hx hb hts in9 hown hK hI hS hv_this lk_46 dX9_addLoad_29 (fun st9 hst9 H locs hI hS => ?_)
    replace h := h st9 hst9
    refine lv_aload_n hx hb dX9_addLoad_32 rfl (lv_at hl 0 rfl) ?_
    refine gg_9_6 hx hb hts in9 hown hK hI hv_this lk_46 dX9_addLoad_33 ?_
    obtain ⟨g10, h⟩ := h
    refine r_if_le (tgt := 41) hx hb dX9_addLoad_36 (by decide) g10 (fun c11 => ?_) (fun c11 => ?_)
    · replace h := h.1 c11
      refine lv_aload_n hx hb dX9_addLoad_41 rfl (lv_at hl 0 rfl) ?_
      refine gg_9_0 hx hb hts in9 hown hK hI hv_this lk_7 dX9_addLoad_42 ?_
      refine r_iconst (n := 4) hx hb dX9_addLoad_45 ?_
      refine r_iald hx hb hK hI (K := 30) (vrM_9_0 hv_this) rfl (mlen_le _) dX9_addLoad_46 (by decide) (by decide) ?_
      refine r_bipush (n := 8) hx hb dX9_addLoad_47 rfl ?_
      obtain ⟨g12, h⟩ := h
      refine r_icmp_ne (tgt := 55) hx hb dX9_addLoad_49 (by decide) g12 (inI_mk rfl) (fun c13 => ?_) (fun c13 => ?_)
      · replace h := h.2 c13
        refine lv_aload_n hx hb dX9_addLoad_55 rfl (lv_at hl 0 rfl) ?_
        refine lv_aload_n hx hb dX9_addLoad_56 rfl (lv_at hl 0 rfl) ?_
        refine gg_9_0 hx hb hts in9 hown hK hI hv_this lk_7 dX9_addLoad_57 ?_
        refine r_callv (va_runV (As := [.ref (G.2.2.1 30 0)]) (rest := []) ⟨hx, hb, hml, hown, hts⟩ (m9_keeps l G 0 hv_this (vrM_9_0 hv_this) _ st9 h) (cwV 1 hts gX9_addLoad_X9_keeps rfl rfl rfl hd9_keeps ⟨Nat.le_of_ble_eq_true rfl, Nat.le_of_ble_eq_true rfl⟩) (pre_V hK hX hI hA hS hv_this rfl rfl [.ref (G.2.2.1 30 0)]) rfl rfl hl.1 rfl (lv_room (Nat.le_of_ble_eq_true rfl)) dX9_addLoad_60 ⟨Nat.le_of_ble_eq_true rfl, Nat.le_of_ble_eq_true rfl⟩) hS (fun st15 h H locs hI hS => ?_)
        refine lv_aload_n hx hb dX9_addLoad_63 rfl (lv_at hl 0 rfl) ?_
        refine r_bipush (n := 19) hx hb dX9_addLoad_64 rfl ?_
        refine r_iconst (n := 4) hx hb dX9_addLoad_66 ?_
        refine lv_iload_n hx hb dX9_addLoad_67 rfl (lv_at hl 1 rfl) ?_
        refine lv_iload_n hx hb dX9_addLoad_68 rfl (lv_at hl 2 rfl) ?_
        refine r_callv (va_runV (As := [.int (iI 19), .int (iI 4), .int (iI a0), .int (iI a1)]) (rest := []) ⟨hx, hb, hml, hown, hts⟩ (m9_adds l G hv_this _ st15 19 4 a0 a1 h) (cwV 4 hts gX9_addLoad_X9_adds rfl rfl rfl hd9_adds ⟨Nat.le_of_ble_eq_true rfl, Nat.le_of_ble_eq_true rfl⟩) (pre_V hK hX hI hA hS hv_this rfl rfl [.int (iI 19), .int (iI 4), .int (iI a0), .int (iI a1)]) rfl rfl hl.1 rfl (lv_room (Nat.le_of_ble_eq_true rfl)) dX9_addLoad_69 ⟨Nat.le_of_ble_eq_true rfl, Nat.le_of_ble_eq_true rfl⟩) hS (fun st17 h H locs hI hS => ?_)
        refine lv_aload_n hx hb dX9_addLoad_72 rfl (lv_at hl 0 rfl) ?_
        refine gg_9_0 hx hb hts in9 hown hK hI hv_this lk_7 dX9_addLoad_73 ?_
        refine r_iconst (n := 4) hx hb dX9_addLoad_76 ?_
        refine r_iald hx hb hK hI (K := 30) (vrM_9_0 hv_this) rfl (mlen_le _) dX9_addLoad_77 (by decide) (by decide) ?_
        refine r_iconst (n := 1) hx hb dX9_addLoad_78 ?_
        refine r_isub hx hb dX9_addLoad_79 ?_
        exact r_iret hx hb hr hlocks hK hI hS (Qp := Q) h dX9_addLoad_80
      · replace h := h.1 c13
        refine r_bipush (n := (-13)) hx hb dX9_addLoad_52 rfl ?_
        exact r_iret hx hb hr hlocks hK hI hS (Qp := Q) h dX9_addLoad_54
    · replace h := h.2 c11
      refine r_iconst (n := 0) hx hb dX9_addLoad_39 ?_
      exact r_iret hx hb hr hlocks hK hI hS (Qp := Q) h dX9_addLoad_40
  unfold f9_addLoad at h
  refine lv_aload_n hx hb dX9_addLoad_0 rfl (lv_at hl 0 rfl) ?_
  refine lv_aload_n hx hb dX9_addLoad_1 rfl (lv_at hl 0 rfl) ?_
  refine lv_iload_n hx hb dX9_addLoad_2 rfl (lv_at hl 2 rfl) ?_
  refine r_calli (va_runV (As := [.int (iI a1)]) (rest := [.ref (G.2.2.1 9 0)]) ⟨hx, hb, hml, hown, hts⟩ (m9_isPlace l G hv_this _ st a1 h) (cwV 1 hts gX9_addLoad_X9_isPlace rfl rfl rfl hd9_isPlace ⟨Nat.le_of_ble_eq_true rfl, Nat.le_of_ble_eq_true rfl⟩) (pre_V hK hX hI hA hS hv_this rfl rfl [.int (iI a1)]) rfl rfl hl.1 rfl (lv_room (Nat.le_of_ble_eq_true rfl)) dX9_addLoad_3 ⟨Nat.le_of_ble_eq_true rfl, Nat.le_of_ble_eq_true rfl⟩) hS (fun z1 st2 h H locs hI hS => ?_)
  obtain ⟨g3, h⟩ := h
  refine r_if_ne (tgt := 13) hx hb dX9_addLoad_6 (by decide) g3 (fun c4 => ?_) (fun c4 => ?_)
  · replace h := h.2 c4
    refine lv_iload_n hx hb dX9_addLoad_13 rfl (lv_at hl 1 rfl) ?_
    refine r_iconst (n := 1) hx hb dX9_addLoad_14 ?_
    refine r_sipush (n := 999) hx hb dX9_addLoad_15 rfl ?_
    refine r_calli (va_runS (As := [.int (iI a0), .int (iI 1), .int (iI 999)]) (rest := [.ref (G.2.2.1 9 0)]) ⟨hx, hb, hml, hown, hts⟩ (m9_isIn l G _ st2 a0 1 999 h) (va_cwS 3 hts gX9_addLoad_X9_isIn rfl rfl rfl hd9_isIn ⟨Nat.le_of_ble_eq_true rfl, Nat.le_of_ble_eq_true rfl⟩) (pre_S hK hX hI hA hS [.int (iI a0), .int (iI 1), .int (iI 999)]) rfl rfl hl.1 rfl (lv_room (Nat.le_of_ble_eq_true rfl)) dX9_addLoad_18 ⟨Nat.le_of_ble_eq_true rfl, Nat.le_of_ble_eq_true rfl⟩) hS (fun z5 st6 h H locs hI hS => ?_)
    obtain ⟨g7, h⟩ := h
    refine r_if_eq (tgt := 28) hx hb dX9_addLoad_21 (by decide) g7 (fun c8 => ?_) (fun c8 => ?_)
    · replace h := h.1 c8
      refine r_iconst (n := 2) hx hb dX9_addLoad_28 ?_
      exact J29 st6 2 _ _ ls hI hS (lv_sub hl [0, 1, 2] rfl) h
    · replace h := h.2 c8
      refine r_iconst (n := 0) hx hb dX9_addLoad_24 ?_
      refine lv_goto (tgt := 29) hx hb dX9_addLoad_25 (by decide) ?_
      exact J29 st6 0 _ _ ls hI hS (lv_sub hl [0, 1, 2] rfl) h
  · replace h := h.1 c4
    refine r_iconst (n := 1) hx hb dX9_addLoad_9 ?_
    refine lv_goto (tgt := 29) hx hb dX9_addLoad_10 (by decide) ?_
    exact J29 st2 1 _ _ ls hI hS (lv_sub hl [0, 1, 2] rfl) h
theorem hd9_dropLoad : yX9_dropLoad.cls = RX9 ∧ yX9_dropLoad.cls ≠ "java/lang/invoke/MethodHandle" ∧ yX9_dropLoad.cls ≠ "java/lang/invoke/VarHandle" ∧ (parseMethodDescriptor yX9_dropLoad.desc).map (fun d => d.parameters.length) = some 1 := by decide +kernel
set_option maxHeartbeats 4000000 in
set_option maxRecDepth 100000 in
theorem m9_dropLoad (l : Launch) (G : WG)   (hv_this : vM 9 0) (Q : Int → St → Prop) (st : St) (a0 : Int) (h : f9_dropLoad Q st a0) : Met l yX9_dropLoad wsX9_dropLoad ({ frames := 2, cells := 0, slots := 0, locals := 46 }) (PcM vM G st [.ref (G.2.2.1 9 0), .int (iI a0)]) (QiM vM G Q) 0 0 G.2.2.2.1 := by
  refine Met.ofW (cc := cX9_dropLoad) (maxL := 2) (ret := (some .int)) (by decide) rfl ?_
  intro p e s m args below meth c s₁ B hml hvv
  obtain ⟨rfl, hA, hI, hK, hX⟩ := hvv
  have hx := B.exec
  have hb := B.bytes
  have hr := B.returns
  have hts := atoms_spec (ws := wsX9_dropLoad) B.pre
  have hown : s.vm.findClass RX9 = some m.cls := findClass_of_methodNamed B.named
  have hlocks := B.notSynchronized
  have hS : va_S G.2.2.2.1 s.heap s.heap [] := va_S.rf
  have in9 : ∀ w ∈ wsX90, w ∈ wsX9_dropLoad := by decide +kernel
  have lk_7 := hts (.fieldLink RX9 7 "BeamLinesModel" "a" "[I") (by decide +kernel)
  have lk_46 := hts (.fieldLink RX9 46 "BeamLinesModel" "thrown" "I") (by decide +kernel)
  have hl := lv_entry ([.ref (G.2.2.1 9 0), .int (iI a0)]) (n := 2) (Nat.le_of_ble_eq_true rfl)
  rw [lg_entry_eq]
  generalize (lg_sl ([.ref (G.2.2.1 9 0), .int (iI a0)]) ++ List.replicate (2 - (lg_sl ([.ref (G.2.2.1 9 0), .int (iI a0)])).length) Slot.unset).toArray = ls at hl ⊢
  have hl : lv_has ls 2 [(0, .ref (G.2.2.1 9 0)), (1, .int (iI a0))] := hl
  have J22 : ∀ (st : St) (s0x22 : Int) (H : Heap) (locs : List Loc) (ls : Array Slot), Iv vM G st H → va_S G.2.2.2.1 s.heap H locs → lv_has ls 2 [(0, .ref (G.2.2.1 9 0)), (1, .int (iI a0))] → f9_dropLoad_j22 Q a0 st s0x22 → W p l e (headSpec wsX9_dropLoad ({ frames := 2, cells := 0, slots := 0, locals := 46 })).room s m ([.ref (G.2.2.1 9 0), .int (iI a0)] : List Value).toArray below meth c H locs 0 0 (MQ below (QiM vM G Q) ([.ref (G.2.2.1 9 0), .int (iI a0)] : List Value).toArray s 0 0 G.2.2.2.1) (F0 m 22 ls [.int (iI s0x22), .ref (G.2.2.1 9 0)]) := by
    intro st s0x22 H locs ls hI hS hl h
    unfold f9_dropLoad_j22 at h
    refine pp_9_6 hx hb hts in9 hown hK hI hS hv_this lk_46 dX9_dropLoad_22 (fun st5 hst5 H locs hI hS => ?_)
    replace h := h st5 hst5
    refine lv_aload_n hx hb dX9_dropLoad_25 rfl (lv_at hl 0 rfl) ?_
    refine gg_9_6 hx hb hts in9 hown hK hI hv_this lk_46 dX9_dropLoad_26 ?_
    obtain ⟨g6, h⟩ := h
    refine r_if_le (tgt := 34) hx hb dX9_dropLoad_29 (by decide) g6 (fun c7 => ?_) (fun c7 => ?_)
    · replace h := h.1 c7
      refine lv_aload_n hx hb dX9_dropLoad_34 rfl (lv_at hl 0 rfl) ?_
      refine lv_aload_n hx hb dX9_dropLoad_35 rfl (lv_at hl 0 rfl) ?_
      refine gg_9_0 hx hb hts in9 hown hK hI hv_this lk_7 dX9_dropLoad_36 ?_
      refine r_callv (va_runV (As := [.ref (G.2.2.1 30 0)]) (rest := []) ⟨hx, hb, hml, hown, hts⟩ (m9_keeps l G 0 hv_this (vrM_9_0 hv_this) _ st5 h) (cwV 1 hts gX9_dropLoad_X9_keeps rfl rfl rfl hd9_keeps ⟨Nat.le_of_ble_eq_true rfl, Nat.le_of_ble_eq_true rfl⟩) (pre_V hK hX hI hA hS hv_this rfl rfl [.ref (G.2.2.1 30 0)]) rfl rfl hl.1 rfl (lv_room (Nat.le_of_ble_eq_true rfl)) dX9_dropLoad_39 ⟨Nat.le_of_ble_eq_true rfl, Nat.le_of_ble_eq_true rfl⟩) hS (fun st9 h H locs hI hS => ?_)
      refine lv_aload_n hx hb dX9_dropLoad_42 rfl (lv_at hl 0 rfl) ?_
      refine r_bipush (n := 19) hx hb dX9_dropLoad_43 rfl ?_
      refine r_iconst (n := 4) hx hb dX9_dropLoad_45 ?_
      refine lv_iload_n hx hb dX9_dropLoad_46 rfl (lv_at hl 1 rfl) ?_
      refine r_calli (va_runV (As := [.int (iI 19), .int (iI 4), .int (iI a0)]) (rest := []) ⟨hx, hb, hml, hown, hts⟩ (m9_drops l G hv_this _ st9 19 4 a0 h) (cwV 3 hts gX9_dropLoad_X9_drops rfl rfl rfl hd9_drops ⟨Nat.le_of_ble_eq_true rfl, Nat.le_of_ble_eq_true rfl⟩) (pre_V hK hX hI hA hS hv_this rfl rfl [.int (iI 19), .int (iI 4), .int (iI a0)]) rfl rfl hl.1 rfl (lv_room (Nat.le_of_ble_eq_true rfl)) dX9_dropLoad_47 ⟨Nat.le_of_ble_eq_true rfl, Nat.le_of_ble_eq_true rfl⟩) hS (fun z10 st11 h H locs hI hS => ?_)
      exact r_iret hx hb hr hlocks hK hI hS (Qp := Q) h dX9_dropLoad_50
    · replace h := h.2 c7
      refine r_iconst (n := 0) hx hb dX9_dropLoad_32 ?_
      exact r_iret hx hb hr hlocks hK hI hS (Qp := Q) h dX9_dropLoad_33
  unfold f9_dropLoad at h
  refine lv_aload_n hx hb dX9_dropLoad_0 rfl (lv_at hl 0 rfl) ?_
  refine lv_iload_n hx hb dX9_dropLoad_1 rfl (lv_at hl 1 rfl) ?_
  refine r_iconst (n := 0) hx hb dX9_dropLoad_2 ?_
  refine lv_aload_n hx hb dX9_dropLoad_3 rfl (lv_at hl 0 rfl) ?_
  refine gg_9_0 hx hb hts in9 hown hK hI hv_this lk_7 dX9_dropLoad_4 ?_
  refine r_iconst (n := 4) hx hb dX9_dropLoad_7 ?_
  refine r_iald hx hb hK hI (K := 30) (vrM_9_0 hv_this) rfl (mlen_le _) dX9_dropLoad_8 (by decide) (by decide) ?_
  refine r_iconst (n := 1) hx hb dX9_dropLoad_9 ?_
  refine r_isub hx hb dX9_dropLoad_10 ?_
  refine r_calli (va_runS (As := [.int (iI a0), .int (iI 0), .int (iI ((st 30 0 0 4) - 1))]) (rest := [.ref (G.2.2.1 9 0)]) ⟨hx, hb, hml, hown, hts⟩ (m9_isIn l G _ st a0 0 ((st 30 0 0 4) - 1) h) (va_cwS 3 hts gX9_dropLoad_X9_isIn rfl rfl rfl hd9_isIn ⟨Nat.le_of_ble_eq_true rfl, Nat.le_of_ble_eq_true rfl⟩) (pre_S hK hX hI hA hS [.int (iI a0), .int (iI 0), .int (iI ((st 30 0 0 4) - 1))]) rfl rfl hl.1 rfl (lv_room (Nat.le_of_ble_eq_true rfl)) dX9_dropLoad_11 ⟨Nat.le_of_ble_eq_true rfl, Nat.le_of_ble_eq_true rfl⟩) hS (fun z1 st2 h H locs hI hS => ?_)
  obtain ⟨g3, h⟩ := h
  refine r_if_eq (tgt := 21) hx hb dX9_dropLoad_14 (by decide) g3 (fun c4 => ?_) (fun c4 => ?_)
  · replace h := h.1 c4
    refine r_iconst (n := 1) hx hb dX9_dropLoad_21 ?_
    exact J22 st2 1 _ _ ls hI hS (lv_sub hl [0, 1] rfl) h
  · replace h := h.2 c4
    refine r_iconst (n := 0) hx hb dX9_dropLoad_17 ?_
    refine lv_goto (tgt := 22) hx hb dX9_dropLoad_18 (by decide) ?_
    exact J22 st2 0 _ _ ls hI hS (lv_sub hl [0, 1] rfl) h
theorem hd9_addAxle : yX9_addAxle.cls = RX9 ∧ yX9_addAxle.cls ≠ "java/lang/invoke/MethodHandle" ∧ yX9_addAxle.cls ≠ "java/lang/invoke/VarHandle" ∧ (parseMethodDescriptor yX9_addAxle.desc).map (fun d => d.parameters.length) = some 2 := by decide +kernel
set_option maxHeartbeats 4000000 in
set_option maxRecDepth 100000 in
theorem m9_addAxle (l : Launch) (G : WG)   (hv_this : vM 9 0) (Q : Int → St → Prop) (st : St) (a0 : Int) (a1 : Int) (h : f9_addAxle Q st a0 a1) : Met l yX9_addAxle wsX9_addAxle ({ frames := 2, cells := 0, slots := 0, locals := 46 }) (PcM vM G st [.ref (G.2.2.1 9 0), .int (iI a0), .int (iI a1)]) (QiM vM G Q) 0 0 G.2.2.2.1 := by
  refine Met.ofW (cc := cX9_addAxle) (maxL := 3) (ret := (some .int)) (by decide) rfl ?_
  intro p e s m args below meth c s₁ B hml hvv
  obtain ⟨rfl, hA, hI, hK, hX⟩ := hvv
  have hx := B.exec
  have hb := B.bytes
  have hr := B.returns
  have hts := atoms_spec (ws := wsX9_addAxle) B.pre
  have hown : s.vm.findClass RX9 = some m.cls := findClass_of_methodNamed B.named
  have hlocks := B.notSynchronized
  have hS : va_S G.2.2.2.1 s.heap s.heap [] := va_S.rf
  have in9 : ∀ w ∈ wsX90, w ∈ wsX9_addAxle := by decide +kernel
  have lk_7 := hts (.fieldLink RX9 7 "BeamLinesModel" "a" "[I") (by decide +kernel)
  have lk_46 := hts (.fieldLink RX9 46 "BeamLinesModel" "thrown" "I") (by decide +kernel)
  have hl := lv_entry ([.ref (G.2.2.1 9 0), .int (iI a0), .int (iI a1)]) (n := 3) (Nat.le_of_ble_eq_true rfl)
  rw [lg_entry_eq]
  generalize (lg_sl ([.ref (G.2.2.1 9 0), .int (iI a0), .int (iI a1)]) ++ List.replicate (3 - (lg_sl ([.ref (G.2.2.1 9 0), .int (iI a0), .int (iI a1)])).length) Slot.unset).toArray = ls at hl ⊢
  have hl : lv_has ls 3 [(0, .ref (G.2.2.1 9 0)), (1, .int (iI a0)), (2, .int (iI a1))] := hl
  have J27 : ∀ (st : St) (s0x27 : Int) (H : Heap) (locs : List Loc) (ls : Array Slot), Iv vM G st H → va_S G.2.2.2.1 s.heap H locs → lv_has ls 3 [(0, .ref (G.2.2.1 9 0)), (1, .int (iI a0)), (2, .int (iI a1))] → f9_addAxle_j27 Q a0 a1 st s0x27 → W p l e (headSpec wsX9_addAxle ({ frames := 2, cells := 0, slots := 0, locals := 46 })).room s m ([.ref (G.2.2.1 9 0), .int (iI a0), .int (iI a1)] : List Value).toArray below meth c H locs 0 0 (MQ below (QiM vM G Q) ([.ref (G.2.2.1 9 0), .int (iI a0), .int (iI a1)] : List Value).toArray s 0 0 G.2.2.2.1) (F0 m 27 ls [.int (iI s0x27), .ref (G.2.2.1 9 0)]) := by
    intro st s0x27 H locs ls hI hS hl h
    unfold f9_addAxle_j27 at h
    refine pp_9_6 hx hb hts in9 hown hK hI hS hv_this lk_46 dX9_addAxle_27 (fun st9 hst9 H locs hI hS => ?_)
    replace h := h st9 hst9
    refine lv_aload_n hx hb dX9_addAxle_30 rfl (lv_at hl 0 rfl) ?_
    refine gg_9_6 hx hb hts in9 hown hK hI hv_this lk_46 dX9_addAxle_31 ?_
    obtain ⟨g10, h⟩ := h
    refine r_if_le (tgt := 39) hx hb dX9_addAxle_34 (by decide) g10 (fun c11 => ?_) (fun c11 => ?_)
    · replace h := h.1 c11
      refine lv_aload_n hx hb dX9_addAxle_39 rfl (lv_at hl 0 rfl) ?_
      refine gg_9_0 hx hb hts in9 hown hK hI hv_this lk_7 dX9_addAxle_40 ?_
      refine r_iconst (n := 5) hx hb dX9_addAxle_43 ?_
      refine r_iald hx hb hK hI (K := 30) (vrM_9_0 hv_this) rfl (mlen_le _) dX9_addAxle_44 (by decide) (by decide) ?_
      refine r_bipush (n := 6) hx hb dX9_addAxle_45 rfl ?_
      obtain ⟨g12, h⟩ := h
      refine r_icmp_ne (tgt := 53) hx hb dX9_addAxle_47 (by decide) g12 (inI_mk rfl) (fun c13 => ?_) (fun c13 => ?_)
      · replace h := h.2 c13
        refine lv_aload_n hx hb dX9_addAxle_53 rfl (lv_at hl 0 rfl) ?_
        refine lv_aload_n hx hb dX9_addAxle_54 rfl (lv_at hl 0 rfl) ?_
        refine gg_9_0 hx hb hts in9 hown hK hI hv_this lk_7 dX9_addAxle_55 ?_
        refine r_callv (va_runV (As := [.ref (G.2.2.1 30 0)]) (rest := []) ⟨hx, hb, hml, hown, hts⟩ (m9_keeps l G 0 hv_this (vrM_9_0 hv_this) _ st9 h) (cwV 1 hts gX9_addAxle_X9_keeps rfl rfl rfl hd9_keeps ⟨Nat.le_of_ble_eq_true rfl, Nat.le_of_ble_eq_true rfl⟩) (pre_V hK hX hI hA hS hv_this rfl rfl [.ref (G.2.2.1 30 0)]) rfl rfl hl.1 rfl (lv_room (Nat.le_of_ble_eq_true rfl)) dX9_addAxle_58 ⟨Nat.le_of_ble_eq_true rfl, Nat.le_of_ble_eq_true rfl⟩) hS (fun st15 h H locs hI hS => ?_)
        refine lv_aload_n hx hb dX9_addAxle_61 rfl (lv_at hl 0 rfl) ?_
        refine r_bipush (n := 35) hx hb dX9_addAxle_62 rfl ?_
        refine r_iconst (n := 5) hx hb dX9_addAxle_64 ?_
        refine lv_iload_n hx hb dX9_addAxle_65 rfl (lv_at hl 1 rfl) ?_
        refine lv_iload_n hx hb dX9_addAxle_66 rfl (lv_at hl 2 rfl) ?_
        refine r_callv (va_runV (As := [.int (iI 35), .int (iI 5), .int (iI a0), .int (iI a1)]) (rest := []) ⟨hx, hb, hml, hown, hts⟩ (m9_adds l G hv_this _ st15 35 5 a0 a1 h) (cwV 4 hts gX9_addAxle_X9_adds rfl rfl rfl hd9_adds ⟨Nat.le_of_ble_eq_true rfl, Nat.le_of_ble_eq_true rfl⟩) (pre_V hK hX hI hA hS hv_this rfl rfl [.int (iI 35), .int (iI 5), .int (iI a0), .int (iI a1)]) rfl rfl hl.1 rfl (lv_room (Nat.le_of_ble_eq_true rfl)) dX9_addAxle_67 ⟨Nat.le_of_ble_eq_true rfl, Nat.le_of_ble_eq_true rfl⟩) hS (fun st17 h H locs hI hS => ?_)
        refine lv_aload_n hx hb dX9_addAxle_70 rfl (lv_at hl 0 rfl) ?_
        refine gg_9_0 hx hb hts in9 hown hK hI hv_this lk_7 dX9_addAxle_71 ?_
        refine r_iconst (n := 5) hx hb dX9_addAxle_74 ?_
        refine r_iald hx hb hK hI (K := 30) (vrM_9_0 hv_this) rfl (mlen_le _) dX9_addAxle_75 (by decide) (by decide) ?_
        refine r_iconst (n := 1) hx hb dX9_addAxle_76 ?_
        refine r_isub hx hb dX9_addAxle_77 ?_
        exact r_iret hx hb hr hlocks hK hI hS (Qp := Q) h dX9_addAxle_78
      · replace h := h.1 c13
        refine r_bipush (n := (-14)) hx hb dX9_addAxle_50 rfl ?_
        exact r_iret hx hb hr hlocks hK hI hS (Qp := Q) h dX9_addAxle_52
    · replace h := h.2 c11
      refine r_iconst (n := 0) hx hb dX9_addAxle_37 ?_
      exact r_iret hx hb hr hlocks hK hI hS (Qp := Q) h dX9_addAxle_38
  have J26 : ∀ (st : St) (H : Heap) (locs : List Loc) (ls : Array Slot), Iv vM G st H → va_S G.2.2.2.1 s.heap H locs → lv_has ls 3 [(0, .ref (G.2.2.1 9 0)), (1, .int (iI a0)), (2, .int (iI a1))] → f9_addAxle_j26 Q a0 a1 st → W p l e (headSpec wsX9_addAxle ({ frames := 2, cells := 0, slots := 0, locals := 46 })).room s m ([.ref (G.2.2.1 9 0), .int (iI a0), .int (iI a1)] : List Value).toArray below meth c H locs 0 0 (MQ below (QiM vM G Q) ([.ref (G.2.2.1 9 0), .int (iI a0), .int (iI a1)] : List Value).toArray s 0 0 G.2.2.2.1) (F0 m 26 ls [.ref (G.2.2.1 9 0)]) := by
    intro st H locs ls hI hS hl h
    unfold f9_addAxle_j26 at h
    refine r_iconst (n := 1) hx hb dX9_addAxle_26 ?_
    exact J27 st 1 _ _ ls hI hS (lv_sub hl [0, 1, 2] rfl) h
  unfold f9_addAxle at h
  refine lv_aload_n hx hb dX9_addAxle_0 rfl (lv_at hl 0 rfl) ?_
  refine lv_iload_n hx hb dX9_addAxle_1 rfl (lv_at hl 1 rfl) ?_
  refine r_iconst (n := 1) hx hb dX9_addAxle_2 ?_
  refine r_sipush (n := 999) hx hb dX9_addAxle_3 rfl ?_
  refine r_calli (va_runS (As := [.int (iI a0), .int (iI 1), .int (iI 999)]) (rest := [.ref (G.2.2.1 9 0)]) ⟨hx, hb, hml, hown, hts⟩ (m9_isIn l G _ st a0 1 999 h) (va_cwS 3 hts gX9_addAxle_X9_isIn rfl rfl rfl hd9_isIn ⟨Nat.le_of_ble_eq_true rfl, Nat.le_of_ble_eq_true rfl⟩) (pre_S hK hX hI hA hS [.int (iI a0), .int (iI 1), .int (iI 999)]) rfl rfl hl.1 rfl (lv_room (Nat.le_of_ble_eq_true rfl)) dX9_addAxle_6 ⟨Nat.le_of_ble_eq_true rfl, Nat.le_of_ble_eq_true rfl⟩) hS (fun z1 st2 h H locs hI hS => ?_)
  obtain ⟨g3, h⟩ := h
  refine r_if_eq (tgt := 26) hx hb dX9_addAxle_9 (by decide) g3 (fun c4 => ?_) (fun c4 => ?_)
  · replace h := h.1 c4
    exact J26 st2  _ _ ls hI hS (lv_sub hl [0, 1, 2] rfl) h
  · replace h := h.2 c4
    refine lv_iload_n hx hb dX9_addAxle_12 rfl (lv_at hl 2 rfl) ?_
    refine r_iconst (n := 0) hx hb dX9_addAxle_13 ?_
    refine r_bipush (n := 30) hx hb dX9_addAxle_14 rfl ?_
    refine r_calli (va_runS (As := [.int (iI a1), .int (iI 0), .int (iI 30)]) (rest := [.ref (G.2.2.1 9 0)]) ⟨hx, hb, hml, hown, hts⟩ (m9_isIn l G _ st2 a1 0 30 h) (va_cwS 3 hts gX9_addAxle_X9_isIn rfl rfl rfl hd9_isIn ⟨Nat.le_of_ble_eq_true rfl, Nat.le_of_ble_eq_true rfl⟩) (pre_S hK hX hI hA hS [.int (iI a1), .int (iI 0), .int (iI 30)]) rfl rfl hl.1 rfl (lv_room (Nat.le_of_ble_eq_true rfl)) dX9_addAxle_16 ⟨Nat.le_of_ble_eq_true rfl, Nat.le_of_ble_eq_true rfl⟩) hS (fun z5 st6 h H locs hI hS => ?_)
    obtain ⟨g7, h⟩ := h
    refine r_if_eq (tgt := 26) hx hb dX9_addAxle_19 (by decide) g7 (fun c8 => ?_) (fun c8 => ?_)
    · replace h := h.1 c8
      exact J26 st6  _ _ ls hI hS (lv_sub hl [0, 1, 2] rfl) h
    · replace h := h.2 c8
      refine r_iconst (n := 0) hx hb dX9_addAxle_22 ?_
      refine lv_goto (tgt := 27) hx hb dX9_addAxle_23 (by decide) ?_
      exact J27 st6 0 _ _ ls hI hS (lv_sub hl [0, 1, 2] rfl) h
