theorem hd0_makeBare : yX0_makeBare.cls = RX0 ∧ yX0_makeBare.cls ≠ "java/lang/invoke/MethodHandle" ∧ yX0_makeBare.cls ≠ "java/lang/invoke/VarHandle" ∧ (parseMethodDescriptor yX0_makeBare.desc).map (fun d => d.parameters.length) = some 0 := by decide +kernel
set_option maxHeartbeats 4000000 in
set_option maxRecDepth 100000 in
theorem m0_makeBare (l : Launch) (G : WG)  (o : Int) (hv_this : vC 0 o) (Q : St → Prop) (st : St)  (h : f0_makeBare o Q st) : Met l yX0_makeBare wsX0_makeBare ({ frames := 0, cells := 0, slots := 0, locals := 0 }) (PcM vC G st [.ref (G.2.2.1 0 o)]) (QvM vC G Q) 0 0 G.2.2.2.1 := by
  refine Met.ofW (cc := cX0_makeBare) (maxL := 1) (ret := none) (by decide) rfl ?_
  intro p e s m args below meth c s₁ B hml hvv
  obtain ⟨rfl, hA, hI, hK, hX⟩ := hvv
  have hx := B.exec
  have hb := B.bytes
  have hr := B.returns
  have hts := atoms_spec (ws := wsX0_makeBare) B.pre
  have hown : s.vm.findClass RX0 = some m.cls := findClass_of_methodNamed B.named
  have hlocks := B.notSynchronized
  have hS : va_S G.2.2.2.1 s.heap s.heap [] := va_S.rf
  have in0 : ∀ w ∈ wsX00, w ∈ wsX0_makeBare := by decide +kernel
  have in6 : ∀ w ∈ wsX60, w ∈ wsX0_makeBare := by decide +kernel
  have lk_23 := hts (.fieldLink RX0 23 "BeamLines$Beam" "supports" "LBeamLines$Row;") (by decide +kernel)
  have lk_27 := hts (.fieldLink RX0 27 "BeamLines$Beam" "hinges" "LBeamLines$Row;") (by decide +kernel)
  have lk_30 := hts (.fieldLink RX0 30 "BeamLines$Beam" "loads" "LBeamLines$Row;") (by decide +kernel)
  have lk_33 := hts (.fieldLink RX0 33 "BeamLines$Beam" "axles" "LBeamLines$Row;") (by decide +kernel)
  have lk_36 := hts (.fieldLink RX0 36 "BeamLines$Row" "size" "I") (by decide +kernel)
  have hl := lv_entry ([.ref (G.2.2.1 0 o)]) (n := 1) (Nat.le_of_ble_eq_true rfl)
  rw [lg_entry_eq]
  generalize (lg_sl ([.ref (G.2.2.1 0 o)]) ++ List.replicate (1 - (lg_sl ([.ref (G.2.2.1 0 o)])).length) Slot.unset).toArray = ls at hl ⊢
  have hl : lv_has ls 1 [(0, .ref (G.2.2.1 0 o))] := hl
  unfold f0_makeBare at h
  refine lv_aload_n hx hb dX0_makeBare_0 rfl (lv_at hl 0 rfl) ?_
  refine gg_0_2 hx hb hts in0 hown hK hI hv_this lk_23 dX0_makeBare_1 ?_
  refine r_iconst (n := 0) hx hb dX0_makeBare_4 ?_
  refine pp_6_2 hx hb hts in6 hown hK hI hS (vrC_0_2 hv_this) lk_36 dX0_makeBare_5 (fun st1 hst1 H locs hI hS => ?_)
  replace h := h st1 hst1
  refine lv_aload_n hx hb dX0_makeBare_8 rfl (lv_at hl 0 rfl) ?_
  refine gg_0_3 hx hb hts in0 hown hK hI hv_this lk_27 dX0_makeBare_9 ?_
  refine r_iconst (n := 0) hx hb dX0_makeBare_12 ?_
  refine pp_6_2 hx hb hts in6 hown hK hI hS (vrC_0_3 hv_this) lk_36 dX0_makeBare_13 (fun st2 hst2 H locs hI hS => ?_)
  replace h := h st2 hst2
  refine lv_aload_n hx hb dX0_makeBare_16 rfl (lv_at hl 0 rfl) ?_
  refine gg_0_4 hx hb hts in0 hown hK hI hv_this lk_30 dX0_makeBare_17 ?_
  refine r_iconst (n := 0) hx hb dX0_makeBare_20 ?_
  refine pp_6_2 hx hb hts in6 hown hK hI hS (vrC_0_4 hv_this) lk_36 dX0_makeBare_21 (fun st3 hst3 H locs hI hS => ?_)
  replace h := h st3 hst3
  refine lv_aload_n hx hb dX0_makeBare_24 rfl (lv_at hl 0 rfl) ?_
  refine gg_0_5 hx hb hts in0 hown hK hI hv_this lk_33 dX0_makeBare_25 ?_
  refine r_iconst (n := 0) hx hb dX0_makeBare_28 ?_
  refine pp_6_2 hx hb hts in6 hown hK hI hS (vrC_0_5 hv_this) lk_36 dX0_makeBare_29 (fun st4 hst4 H locs hI hS => ?_)
  replace h := h st4 hst4
  exact r_vret hx hb hr hlocks hK hI hS (Qp := Q) h dX0_makeBare_32
theorem hd6_has : yX6_has.cls = RX6 ∧ yX6_has.cls ≠ "java/lang/invoke/MethodHandle" ∧ yX6_has.cls ≠ "java/lang/invoke/VarHandle" ∧ (parseMethodDescriptor yX6_has.desc).map (fun d => d.parameters.length) = some 1 := by decide +kernel
set_option maxHeartbeats 4000000 in
set_option maxRecDepth 100000 in
theorem m6_has (l : Launch) (G : WG)  (o : Int) (hv_this : vC 6 o) (Q : Int → St → Prop) (st : St) (a0 : Int) (h : f6_has o Q st a0) : Met l yX6_has wsX6_has ({ frames := 0, cells := 0, slots := 0, locals := 0 }) (PcM vC G st [.ref (G.2.2.1 6 o), .int (iI a0)]) (QiM vC G Q) 0 0 G.2.2.2.1 := by
  refine Met.ofW (cc := cX6_has) (maxL := 2) (ret := (some .boolean)) (by decide) rfl ?_
  intro p e s m args below meth c s₁ B hml hvv
  obtain ⟨rfl, hA, hI, hK, hX⟩ := hvv
  have hx := B.exec
  have hb := B.bytes
  have hr := B.returns
  have hts := atoms_spec (ws := wsX6_has) B.pre
  have hown : s.vm.findClass RX6 = some m.cls := findClass_of_methodNamed B.named
  have hlocks := B.notSynchronized
  have hS : va_S G.2.2.2.1 s.heap s.heap [] := va_S.rf
  have in6 : ∀ w ∈ wsX60, w ∈ wsX6_has := by decide +kernel
  have lk_9 := hts (.fieldLink RX6 9 "BeamLines$Row" "size" "I") (by decide +kernel)
  have lk_21 := hts (.fieldLink RX6 21 "BeamLines$Row" "firsts" "[I") (by decide +kernel)
  have lk_25 := hts (.fieldLink RX6 25 "BeamLines$Row" "seconds" "[I") (by decide +kernel)
  have hl := lv_entry ([.ref (G.2.2.1 6 o), .int (iI a0)]) (n := 2) (Nat.le_of_ble_eq_true rfl)
  rw [lg_entry_eq]
  generalize (lg_sl ([.ref (G.2.2.1 6 o), .int (iI a0)]) ++ List.replicate (2 - (lg_sl ([.ref (G.2.2.1 6 o), .int (iI a0)])).length) Slot.unset).toArray = ls at hl ⊢
  have hl : lv_has ls 2 [(0, .ref (G.2.2.1 6 o)), (1, .int (iI a0))] := hl
  unfold f6_has at h
  refine lv_iload_n hx hb dX6_has_0 rfl (lv_at hl 1 rfl) ?_
  obtain ⟨g1, h⟩ := h
  refine r_if_lt (tgt := 34) hx hb dX6_has_1 (by decide) g1 (fun c2 => ?_) (fun c2 => ?_)
  · replace h := h.1 c2
    refine r_iconst (n := 0) hx hb dX6_has_34 ?_
    exact r_zret hx hb hr hlocks hK hI hS (Qp := Q) (by decide) h dX6_has_35
  · replace h := h.2 c2
    refine lv_iload_n hx hb dX6_has_4 rfl (lv_at hl 1 rfl) ?_
    refine lv_aload_n hx hb dX6_has_5 rfl (lv_at hl 0 rfl) ?_
    refine gg_6_2 hx hb hts in6 hown hK hI hv_this lk_9 dX6_has_6 ?_
    obtain ⟨g3, h⟩ := h
    obtain ⟨g4, h⟩ := h
    refine r_icmp_ge (tgt := 34) hx hb dX6_has_9 (by decide) g3 g4 (fun c5 => ?_) (fun c5 => ?_)
    · replace h := h.1 c5
      refine r_iconst (n := 0) hx hb dX6_has_34 ?_
      exact r_zret hx hb hr hlocks hK hI hS (Qp := Q) (by decide) h dX6_has_35
    · replace h := h.2 c5
      refine lv_iload_n hx hb dX6_has_12 rfl (lv_at hl 1 rfl) ?_
      refine lv_aload_n hx hb dX6_has_13 rfl (lv_at hl 0 rfl) ?_
      refine gg_6_0 hx hb hts in6 hown hK hI hv_this lk_21 dX6_has_14 ?_
      refine r_alen hx hb hK hI (K := 10) (vrC_6_0 hv_this) 0 rfl rfl (rcap_pos _) dX6_has_17 ?_
      obtain ⟨g6, h⟩ := h
      obtain ⟨g7, h⟩ := h
      refine r_icmp_ge (tgt := 34) hx hb dX6_has_18 (by decide) g6 g7 (fun c8 => ?_) (fun c8 => ?_)
      · replace h := h.1 c8
        refine r_iconst (n := 0) hx hb dX6_has_34 ?_
        exact r_zret hx hb hr hlocks hK hI hS (Qp := Q) (by decide) h dX6_has_35
      · replace h := h.2 c8
        refine lv_iload_n hx hb dX6_has_21 rfl (lv_at hl 1 rfl) ?_
        refine lv_aload_n hx hb dX6_has_22 rfl (lv_at hl 0 rfl) ?_
        refine gg_6_1 hx hb hts in6 hown hK hI hv_this lk_25 dX6_has_23 ?_
        refine r_alen hx hb hK hI (K := 11) (vrC_6_1 hv_this) 0 rfl rfl (rcap_pos _) dX6_has_26 ?_
        obtain ⟨g9, h⟩ := h
        obtain ⟨g10, h⟩ := h
        refine r_icmp_ge (tgt := 34) hx hb dX6_has_27 (by decide) g9 g10 (fun c11 => ?_) (fun c11 => ?_)
        · replace h := h.1 c11
          refine r_iconst (n := 0) hx hb dX6_has_34 ?_
          exact r_zret hx hb hr hlocks hK hI hS (Qp := Q) (by decide) h dX6_has_35
        · replace h := h.2 c11
          refine r_iconst (n := 1) hx hb dX6_has_30 ?_
          refine lv_goto (tgt := 35) hx hb dX6_has_31 (by decide) ?_
          exact r_zret hx hb hr hlocks hK hI hS (Qp := Q) (by decide) h dX6_has_35
theorem hd6_first : yX6_first.cls = RX6 ∧ yX6_first.cls ≠ "java/lang/invoke/MethodHandle" ∧ yX6_first.cls ≠ "java/lang/invoke/VarHandle" ∧ (parseMethodDescriptor yX6_first.desc).map (fun d => d.parameters.length) = some 1 := by decide +kernel
set_option maxHeartbeats 4000000 in
set_option maxRecDepth 100000 in
theorem m6_first (l : Launch) (G : WG)  (o : Int) (hv_this : vC 6 o) (Q : Int → St → Prop) (st : St) (a0 : Int) (h : f6_first o Q st a0) : Met l yX6_first wsX6_first ({ frames := 1, cells := 0, slots := 0, locals := 21 }) (PcM vC G st [.ref (G.2.2.1 6 o), .int (iI a0)]) (QiM vC G Q) 0 0 G.2.2.2.1 := by
  refine Met.ofW (cc := cX6_first) (maxL := 2) (ret := (some .int)) (by decide) rfl ?_
  intro p e s m args below meth c s₁ B hml hvv
  obtain ⟨rfl, hA, hI, hK, hX⟩ := hvv
  have hx := B.exec
  have hb := B.bytes
  have hr := B.returns
  have hts := atoms_spec (ws := wsX6_first) B.pre
  have hown : s.vm.findClass RX6 = some m.cls := findClass_of_methodNamed B.named
  have hlocks := B.notSynchronized
  have hS : va_S G.2.2.2.1 s.heap s.heap [] := va_S.rf
  have in6 : ∀ w ∈ wsX60, w ∈ wsX6_first := by decide +kernel
  have lk_21 := hts (.fieldLink RX6 21 "BeamLines$Row" "firsts" "[I") (by decide +kernel)
  have hl := lv_entry ([.ref (G.2.2.1 6 o), .int (iI a0)]) (n := 2) (Nat.le_of_ble_eq_true rfl)
  rw [lg_entry_eq]
  generalize (lg_sl ([.ref (G.2.2.1 6 o), .int (iI a0)]) ++ List.replicate (2 - (lg_sl ([.ref (G.2.2.1 6 o), .int (iI a0)])).length) Slot.unset).toArray = ls at hl ⊢
  have hl : lv_has ls 2 [(0, .ref (G.2.2.1 6 o)), (1, .int (iI a0))] := hl
  unfold f6_first at h
  refine lv_aload_n hx hb dX6_first_0 rfl (lv_at hl 0 rfl) ?_
  refine lv_iload_n hx hb dX6_first_1 rfl (lv_at hl 1 rfl) ?_
  refine r_calli (va_runV (As := [.int (iI a0)]) (rest := []) ⟨hx, hb, hml, hown, hts⟩ (m6_has l G o hv_this _ st a0 h) (cwV 1 hts gX6_first_X6_has rfl rfl rfl hd6_has ⟨Nat.le_of_ble_eq_true rfl, Nat.le_of_ble_eq_true rfl⟩) (pre_V hK hX hI hA hS hv_this rfl rfl [.int (iI a0)]) rfl rfl hl.1 rfl (lv_room (Nat.le_of_ble_eq_true rfl)) dX6_first_2 ⟨Nat.le_of_ble_eq_true rfl, Nat.le_of_ble_eq_true rfl⟩) hS (fun z1 st2 h H locs hI hS => ?_)
  obtain ⟨g3, h⟩ := h
  refine r_if_eq (tgt := 17) hx hb dX6_first_5 (by decide) g3 (fun c4 => ?_) (fun c4 => ?_)
  · replace h := h.1 c4
    refine r_iconst (n := 0) hx hb dX6_first_17 ?_
    exact r_iret hx hb hr hlocks hK hI hS (Qp := Q) h dX6_first_18
  · replace h := h.2 c4
    refine lv_aload_n hx hb dX6_first_8 rfl (lv_at hl 0 rfl) ?_
    refine gg_6_0 hx hb hts in6 hown hK hI hv_this lk_21 dX6_first_9 ?_
    refine lv_iload_n hx hb dX6_first_12 rfl (lv_at hl 1 rfl) ?_
    obtain ⟨g5, g6, h⟩ := h
    refine r_iald hx hb hK hI (K := 10) (vrC_6_0 hv_this) rfl (rcap_le _) dX6_first_13 g5 g6 ?_
    refine lv_goto (tgt := 18) hx hb dX6_first_14 (by decide) ?_
    exact r_iret hx hb hr hlocks hK hI hS (Qp := Q) h dX6_first_18
theorem hd6_second : yX6_second.cls = RX6 ∧ yX6_second.cls ≠ "java/lang/invoke/MethodHandle" ∧ yX6_second.cls ≠ "java/lang/invoke/VarHandle" ∧ (parseMethodDescriptor yX6_second.desc).map (fun d => d.parameters.length) = some 1 := by decide +kernel
set_option maxHeartbeats 4000000 in
set_option maxRecDepth 100000 in
theorem m6_second (l : Launch) (G : WG)  (o : Int) (hv_this : vC 6 o) (Q : Int → St → Prop) (st : St) (a0 : Int) (h : f6_second o Q st a0) : Met l yX6_second wsX6_second ({ frames := 1, cells := 0, slots := 0, locals := 21 }) (PcM vC G st [.ref (G.2.2.1 6 o), .int (iI a0)]) (QiM vC G Q) 0 0 G.2.2.2.1 := by
  refine Met.ofW (cc := cX6_second) (maxL := 2) (ret := (some .int)) (by decide) rfl ?_
  intro p e s m args below meth c s₁ B hml hvv
  obtain ⟨rfl, hA, hI, hK, hX⟩ := hvv
  have hx := B.exec
  have hb := B.bytes
  have hr := B.returns
  have hts := atoms_spec (ws := wsX6_second) B.pre
  have hown : s.vm.findClass RX6 = some m.cls := findClass_of_methodNamed B.named
  have hlocks := B.notSynchronized
  have hS : va_S G.2.2.2.1 s.heap s.heap [] := va_S.rf
  have in6 : ∀ w ∈ wsX60, w ∈ wsX6_second := by decide +kernel
  have lk_25 := hts (.fieldLink RX6 25 "BeamLines$Row" "seconds" "[I") (by decide +kernel)
  have hl := lv_entry ([.ref (G.2.2.1 6 o), .int (iI a0)]) (n := 2) (Nat.le_of_ble_eq_true rfl)
  rw [lg_entry_eq]
  generalize (lg_sl ([.ref (G.2.2.1 6 o), .int (iI a0)]) ++ List.replicate (2 - (lg_sl ([.ref (G.2.2.1 6 o), .int (iI a0)])).length) Slot.unset).toArray = ls at hl ⊢
  have hl : lv_has ls 2 [(0, .ref (G.2.2.1 6 o)), (1, .int (iI a0))] := hl
  unfold f6_second at h
  refine lv_aload_n hx hb dX6_second_0 rfl (lv_at hl 0 rfl) ?_
  refine lv_iload_n hx hb dX6_second_1 rfl (lv_at hl 1 rfl) ?_
  refine r_calli (va_runV (As := [.int (iI a0)]) (rest := []) ⟨hx, hb, hml, hown, hts⟩ (m6_has l G o hv_this _ st a0 h) (cwV 1 hts gX6_second_X6_has rfl rfl rfl hd6_has ⟨Nat.le_of_ble_eq_true rfl, Nat.le_of_ble_eq_true rfl⟩) (pre_V hK hX hI hA hS hv_this rfl rfl [.int (iI a0)]) rfl rfl hl.1 rfl (lv_room (Nat.le_of_ble_eq_true rfl)) dX6_second_2 ⟨Nat.le_of_ble_eq_true rfl, Nat.le_of_ble_eq_true rfl⟩) hS (fun z1 st2 h H locs hI hS => ?_)
  obtain ⟨g3, h⟩ := h
  refine r_if_eq (tgt := 17) hx hb dX6_second_5 (by decide) g3 (fun c4 => ?_) (fun c4 => ?_)
  · replace h := h.1 c4
    refine r_iconst (n := 0) hx hb dX6_second_17 ?_
    exact r_iret hx hb hr hlocks hK hI hS (Qp := Q) h dX6_second_18
  · replace h := h.2 c4
    refine lv_aload_n hx hb dX6_second_8 rfl (lv_at hl 0 rfl) ?_
    refine gg_6_1 hx hb hts in6 hown hK hI hv_this lk_25 dX6_second_9 ?_
    refine lv_iload_n hx hb dX6_second_12 rfl (lv_at hl 1 rfl) ?_
    obtain ⟨g5, g6, h⟩ := h
    refine r_iald hx hb hK hI (K := 11) (vrC_6_1 hv_this) rfl (rcap_le _) dX6_second_13 g5 g6 ?_
    refine lv_goto (tgt := 18) hx hb dX6_second_14 (by decide) ?_
    exact r_iret hx hb hr hlocks hK hI hS (Qp := Q) h dX6_second_18
theorem hd6_copyFrom : yX6_copyFrom.cls = RX6 ∧ yX6_copyFrom.cls ≠ "java/lang/invoke/MethodHandle" ∧ yX6_copyFrom.cls ≠ "java/lang/invoke/VarHandle" ∧ (parseMethodDescriptor yX6_copyFrom.desc).map (fun d => d.parameters.length) = some 1 := by decide +kernel
set_option maxHeartbeats 4000000 in
set_option maxRecDepth 100000 in
theorem m6_copyFrom (l : Launch) (G : WG)  (o : Int) (a0 : Int) (hv_this : vC 6 o) (hv_a0 : vC 6 a0) (Q : St → Prop) (st : St)  (h : f6_copyFrom o a0 Q st) : Met l yX6_copyFrom wsX6_copyFrom ({ frames := 2, cells := 0, slots := 0, locals := 42 }) (PcM vC G st [.ref (G.2.2.1 6 o), .ref (G.2.2.1 6 a0)]) (QvM vC G Q) 0 0 G.2.2.2.1 := by
  refine Met.ofW (cc := cX6_copyFrom) (maxL := 3) (ret := none) (by decide) rfl ?_
  intro p e s m args below meth c s₁ B hml hvv
  obtain ⟨rfl, hA, hI, hK, hX⟩ := hvv
  have hx := B.exec
  have hb := B.bytes
  have hr := B.returns
  have hts := atoms_spec (ws := wsX6_copyFrom) B.pre
  have hown : s.vm.findClass RX6 = some m.cls := findClass_of_methodNamed B.named
  have hlocks := B.notSynchronized
  have hS : va_S G.2.2.2.1 s.heap s.heap [] := va_S.rf
  have in6 : ∀ w ∈ wsX60, w ∈ wsX6_copyFrom := by decide +kernel
  have lk_9 := hts (.fieldLink RX6 9 "BeamLines$Row" "size" "I") (by decide +kernel)
  have lk_21 := hts (.fieldLink RX6 21 "BeamLines$Row" "firsts" "[I") (by decide +kernel)
  have lk_25 := hts (.fieldLink RX6 25 "BeamLines$Row" "seconds" "[I") (by decide +kernel)
  have ml_50 : (Cond.methodLink RX6 50 Lib.Math.min.name).before _ s = true ∧ (Cond.static Lib.Math.min.name).before _ s = true ∧ (Cond.initialized "java/lang/Math").before _ s = true ∧ (Cond.code Lib.Math.min.name Lib.Math.min.code 2 (some .int)).before _ s = true := ⟨hts _ (by decide +kernel), hts _ (by decide +kernel), hts _ (by decide +kernel), hts _ (by decide +kernel)⟩
  have hl := lv_entry ([.ref (G.2.2.1 6 o), .ref (G.2.2.1 6 a0)]) (n := 3) (Nat.le_of_ble_eq_true rfl)
  rw [lg_entry_eq]
  generalize (lg_sl ([.ref (G.2.2.1 6 o), .ref (G.2.2.1 6 a0)]) ++ List.replicate (3 - (lg_sl ([.ref (G.2.2.1 6 o), .ref (G.2.2.1 6 a0)])).length) Slot.unset).toArray = ls at hl ⊢
  have hl : lv_has ls 3 [(0, .ref (G.2.2.1 6 o)), (1, .ref (G.2.2.1 6 a0))] := hl
  have L26 : ∀ (n26 : Nat), ∀ (st : St) (v2x26 : Int) (H : Heap) (locs : List Loc) (ls : Array Slot), Iv vC G st H → va_S G.2.2.2.1 s.heap H locs → lv_has ls 3 [(0, .ref (G.2.2.1 6 o)), (1, .ref (G.2.2.1 6 a0)), (2, .int (iI v2x26))] → f6_copyFrom_l26 o a0 Q n26 st v2x26 → W p l e (headSpec wsX6_copyFrom ({ frames := 2, cells := 0, slots := 0, locals := 42 })).room s m ([.ref (G.2.2.1 6 o), .ref (G.2.2.1 6 a0)] : List Value).toArray below meth c H locs 0 0 (MQ below (QvM vC G Q) ([.ref (G.2.2.1 6 o), .ref (G.2.2.1 6 a0)] : List Value).toArray s 0 0 G.2.2.2.1) (F0 m 26 ls []) := by
    intro n26
    induction n26 with
    | zero =>
      intro st v2x26 H locs ls hI hS hl h
      exact h.elim
    | succ n26 ih26 =>
      intro st v2x26 H locs ls hI hS hl h
      unfold f6_copyFrom_l26 at h
      refine lv_iload_n hx hb dX6_copyFrom_26 rfl (lv_at hl 2 rfl) ?_
      refine lv_aload_n hx hb dX6_copyFrom_27 rfl (lv_at hl 0 rfl) ?_
      refine gg_6_2 hx hb hts in6 hown hK hI hv_this lk_9 dX6_copyFrom_28 ?_
      obtain ⟨g6, h⟩ := h
      obtain ⟨g7, h⟩ := h
      refine r_icmp_ge (tgt := 62) hx hb dX6_copyFrom_31 (by decide) g6 g7 (fun c8 => ?_) (fun c8 => ?_)
      · replace h := h.1 c8
        exact r_vret hx hb hr hlocks hK hI hS (Qp := Q) h dX6_copyFrom_62
      · replace h := h.2 c8
        refine lv_aload_n hx hb dX6_copyFrom_34 rfl (lv_at hl 0 rfl) ?_
        refine gg_6_0 hx hb hts in6 hown hK hI hv_this lk_21 dX6_copyFrom_35 ?_
        refine lv_iload_n hx hb dX6_copyFrom_38 rfl (lv_at hl 2 rfl) ?_
        refine lv_aload_n hx hb dX6_copyFrom_39 rfl (lv_at hl 1 rfl) ?_
        refine lv_iload_n hx hb dX6_copyFrom_40 rfl (lv_at hl 2 rfl) ?_
        refine r_calli (va_runV (As := [.int (iI v2x26)]) (rest := [.int (iI v2x26), .ref (G.2.2.1 10 o)]) ⟨hx, hb, hml, hown, hts⟩ (m6_first l G a0 hv_a0 _ st v2x26 h) (cwV 1 hts gX6_copyFrom_X6_first rfl rfl rfl hd6_first ⟨Nat.le_of_ble_eq_true rfl, Nat.le_of_ble_eq_true rfl⟩) (pre_V hK hX hI hA hS hv_a0 rfl rfl [.int (iI v2x26)]) rfl rfl hl.1 rfl (lv_room (Nat.le_of_ble_eq_true rfl)) dX6_copyFrom_41 ⟨Nat.le_of_ble_eq_true rfl, Nat.le_of_ble_eq_true rfl⟩) hS (fun z9 st10 h H locs hI hS => ?_)
        obtain ⟨g11, g12, h⟩ := h
        refine r_iast hx hb hK hI hS (K := 10) (vrC_6_0 hv_this) (fun _ => rfl) (rcap_le _) dX6_copyFrom_44 g11 g12 (fun st13 hst13 H locs hI hS => ?_)
        replace h := h st13 hst13
        refine lv_aload_n hx hb dX6_copyFrom_45 rfl (lv_at hl 0 rfl) ?_
        refine gg_6_1 hx hb hts in6 hown hK hI hv_this lk_25 dX6_copyFrom_46 ?_
        refine lv_iload_n hx hb dX6_copyFrom_49 rfl (lv_at hl 2 rfl) ?_
        refine lv_aload_n hx hb dX6_copyFrom_50 rfl (lv_at hl 1 rfl) ?_
        refine lv_iload_n hx hb dX6_copyFrom_51 rfl (lv_at hl 2 rfl) ?_
        refine r_calli (va_runV (As := [.int (iI v2x26)]) (rest := [.int (iI v2x26), .ref (G.2.2.1 11 o)]) ⟨hx, hb, hml, hown, hts⟩ (m6_second l G a0 hv_a0 _ st13 v2x26 h) (cwV 1 hts gX6_copyFrom_X6_second rfl rfl rfl hd6_second ⟨Nat.le_of_ble_eq_true rfl, Nat.le_of_ble_eq_true rfl⟩) (pre_V hK hX hI hA hS hv_a0 rfl rfl [.int (iI v2x26)]) rfl rfl hl.1 rfl (lv_room (Nat.le_of_ble_eq_true rfl)) dX6_copyFrom_52 ⟨Nat.le_of_ble_eq_true rfl, Nat.le_of_ble_eq_true rfl⟩) hS (fun z14 st15 h H locs hI hS => ?_)
        obtain ⟨g16, g17, h⟩ := h
        refine r_iast hx hb hK hI hS (K := 11) (vrC_6_1 hv_this) (fun _ => rfl) (rcap_le _) dX6_copyFrom_55 g16 g17 (fun st18 hst18 H locs hI hS => ?_)
        replace h := h st18 hst18
        obtain ⟨x19, hx19⟩ : ∃ z : Int, z = v2x26 + 1 := ⟨_, rfl⟩
        replace h := h x19 hx19
        refine lv_iinc (v := iI x19) (lv' := [(2, .int (iI x19)), (0, .ref (G.2.2.1 6 o)), (1, .ref (G.2.2.1 6 a0))]) hx hb dX6_copyFrom_56 hl (k := 2) rfl (by rw [hx19]; exact iI_add _ _) (by decide) rfl (fun ls hl => ?_)
        refine lv_goto (tgt := 26) hx hb dX6_copyFrom_59 (by decide) ?_
        exact ih26 st18 x19 _ _ ls hI hS (lv_sub hl [1, 2, 0] rfl) h
  unfold f6_copyFrom at h
  refine lv_aload_n hx hb dX6_copyFrom_0 rfl (lv_at hl 0 rfl) ?_
  refine lv_aload_n hx hb dX6_copyFrom_1 rfl (lv_at hl 1 rfl) ?_
  refine gg_6_2 hx hb hts in6 hown hK hI hv_a0 lk_9 dX6_copyFrom_2 ?_
  refine lv_aload_n hx hb dX6_copyFrom_5 rfl (lv_at hl 0 rfl) ?_
  refine gg_6_0 hx hb hts in6 hown hK hI hv_this lk_21 dX6_copyFrom_6 ?_
  refine r_alen hx hb hK hI (K := 10) (vrC_6_0 hv_this) 0 rfl rfl (rcap_pos _) dX6_copyFrom_9 ?_
  refine lv_aload_n hx hb dX6_copyFrom_10 rfl (lv_at hl 0 rfl) ?_
  refine gg_6_1 hx hb hts in6 hown hK hI hv_this lk_25 dX6_copyFrom_11 ?_
  refine r_alen hx hb hK hI (K := 11) (vrC_6_1 hv_this) 0 rfl rfl (rcap_pos _) dX6_copyFrom_14 ?_
  obtain ⟨g1, h⟩ := h
  obtain ⟨g2, h⟩ := h
  refine r_mmin hx hb (hml.trans hl.1.symm) hown ml_50 dX6_copyFrom_15 g1 g2 ⟨Nat.le_of_ble_eq_true rfl, Nat.le_of_ble_eq_true rfl, Nat.zero_le _, Nat.zero_le _⟩ (Nat.le_of_ble_eq_true rfl) ?_
  obtain ⟨g3, h⟩ := h
  obtain ⟨g4, h⟩ := h
  refine r_mmin hx hb (hml.trans hl.1.symm) hown ml_50 dX6_copyFrom_18 g3 g4 ⟨Nat.le_of_ble_eq_true rfl, Nat.le_of_ble_eq_true rfl, Nat.zero_le _, Nat.zero_le _⟩ (Nat.le_of_ble_eq_true rfl) ?_
  refine pp_6_2 hx hb hts in6 hown hK hI hS hv_this lk_9 dX6_copyFrom_21 (fun st5 hst5 H locs hI hS => ?_)
  replace h := h st5 hst5
  refine r_iconst (n := 0) hx hb dX6_copyFrom_24 ?_
  refine lv_istore_n (lv' := [(2, .int (iI 0)), (0, .ref (G.2.2.1 6 o)), (1, .ref (G.2.2.1 6 a0))]) hx hb dX6_copyFrom_25 rfl hl (by decide) rfl (fun ls hl => ?_)
  obtain ⟨kk, h⟩ := h
  exact L26 kk st5 0 _ _ ls hI hS (lv_sub hl [1, 2, 0] rfl) h
theorem hd0_copyFrom : yX0_copyFrom.cls = RX0 ∧ yX0_copyFrom.cls ≠ "java/lang/invoke/MethodHandle" ∧ yX0_copyFrom.cls ≠ "java/lang/invoke/VarHandle" ∧ (parseMethodDescriptor yX0_copyFrom.desc).map (fun d => d.parameters.length) = some 1 := by decide +kernel
set_option maxHeartbeats 4000000 in
set_option maxRecDepth 100000 in
theorem m0_copyFrom (l : Launch) (G : WG)  (o : Int) (a0 : Int) (hv_this : vC 0 o) (hv_a0 : vC 0 a0) (Q : St → Prop) (st : St)  (h : f0_copyFrom o a0 Q st) : Met l yX0_copyFrom wsX0_copyFrom ({ frames := 3, cells := 0, slots := 0, locals := 64 }) (PcM vC G st [.ref (G.2.2.1 0 o), .ref (G.2.2.1 0 a0)]) (QvM vC G Q) 0 0 G.2.2.2.1 := by
  refine Met.ofW (cc := cX0_copyFrom) (maxL := 2) (ret := none) (by decide) rfl ?_
  intro p e s m args below meth c s₁ B hml hvv
  obtain ⟨rfl, hA, hI, hK, hX⟩ := hvv
  have hx := B.exec
  have hb := B.bytes
  have hr := B.returns
  have hts := atoms_spec (ws := wsX0_copyFrom) B.pre
  have hown : s.vm.findClass RX0 = some m.cls := findClass_of_methodNamed B.named
  have hlocks := B.notSynchronized
  have hS : va_S G.2.2.2.1 s.heap s.heap [] := va_S.rf
  have in0 : ∀ w ∈ wsX00, w ∈ wsX0_copyFrom := by decide +kernel
  have lk_9 := hts (.fieldLink RX0 9 "BeamLines$Beam" "length" "I") (by decide +kernel)
  have lk_15 := hts (.fieldLink RX0 15 "BeamLines$Beam" "most" "I") (by decide +kernel)
  have lk_23 := hts (.fieldLink RX0 23 "BeamLines$Beam" "supports" "LBeamLines$Row;") (by decide +kernel)
  have lk_27 := hts (.fieldLink RX0 27 "BeamLines$Beam" "hinges" "LBeamLines$Row;") (by decide +kernel)
  have lk_30 := hts (.fieldLink RX0 30 "BeamLines$Beam" "loads" "LBeamLines$Row;") (by decide +kernel)
  have lk_33 := hts (.fieldLink RX0 33 "BeamLines$Beam" "axles" "LBeamLines$Row;") (by decide +kernel)
  have hl := lv_entry ([.ref (G.2.2.1 0 o), .ref (G.2.2.1 0 a0)]) (n := 2) (Nat.le_of_ble_eq_true rfl)
  rw [lg_entry_eq]
  generalize (lg_sl ([.ref (G.2.2.1 0 o), .ref (G.2.2.1 0 a0)]) ++ List.replicate (2 - (lg_sl ([.ref (G.2.2.1 0 o), .ref (G.2.2.1 0 a0)])).length) Slot.unset).toArray = ls at hl ⊢
  have hl : lv_has ls 2 [(0, .ref (G.2.2.1 0 o)), (1, .ref (G.2.2.1 0 a0))] := hl
  unfold f0_copyFrom at h
  refine lv_aload_n hx hb dX0_copyFrom_0 rfl (lv_at hl 0 rfl) ?_
  refine lv_aload_n hx hb dX0_copyFrom_1 rfl (lv_at hl 1 rfl) ?_
  refine gg_0_0 hx hb hts in0 hown hK hI hv_a0 lk_9 dX0_copyFrom_2 ?_
  refine pp_0_0 hx hb hts in0 hown hK hI hS hv_this lk_9 dX0_copyFrom_5 (fun st1 hst1 H locs hI hS => ?_)
  replace h := h st1 hst1
  refine lv_aload_n hx hb dX0_copyFrom_8 rfl (lv_at hl 0 rfl) ?_
  refine lv_aload_n hx hb dX0_copyFrom_9 rfl (lv_at hl 1 rfl) ?_
  refine gg_0_1 hx hb hts in0 hown hK hI hv_a0 lk_15 dX0_copyFrom_10 ?_
  refine pp_0_1 hx hb hts in0 hown hK hI hS hv_this lk_15 dX0_copyFrom_13 (fun st2 hst2 H locs hI hS => ?_)
  replace h := h st2 hst2
  refine lv_aload_n hx hb dX0_copyFrom_16 rfl (lv_at hl 0 rfl) ?_
  refine gg_0_2 hx hb hts in0 hown hK hI hv_this lk_23 dX0_copyFrom_17 ?_
  refine lv_aload_n hx hb dX0_copyFrom_20 rfl (lv_at hl 1 rfl) ?_
  refine gg_0_2 hx hb hts in0 hown hK hI hv_a0 lk_23 dX0_copyFrom_21 ?_
  refine r_callv (va_runV (As := [.ref (G.2.2.1 6 (4 * a0))]) (rest := []) ⟨hx, hb, hml, hown, hts⟩ (m6_copyFrom l G (4 * o) (4 * a0) (vrC_0_2 hv_this) (vrC_0_2 hv_a0) _ st2 h) (cwV 1 hts gX0_copyFrom_X6_copyFrom rfl rfl rfl hd6_copyFrom ⟨Nat.le_of_ble_eq_true rfl, Nat.le_of_ble_eq_true rfl⟩) (pre_V hK hX hI hA hS (vrC_0_2 hv_this) rfl rfl [.ref (G.2.2.1 6 (4 * a0))]) rfl rfl hl.1 rfl (lv_room (Nat.le_of_ble_eq_true rfl)) dX0_copyFrom_24 ⟨Nat.le_of_ble_eq_true rfl, Nat.le_of_ble_eq_true rfl⟩) hS (fun st4 h H locs hI hS => ?_)
  refine lv_aload_n hx hb dX0_copyFrom_27 rfl (lv_at hl 0 rfl) ?_
  refine gg_0_3 hx hb hts in0 hown hK hI hv_this lk_27 dX0_copyFrom_28 ?_
  refine lv_aload_n hx hb dX0_copyFrom_31 rfl (lv_at hl 1 rfl) ?_
  refine gg_0_3 hx hb hts in0 hown hK hI hv_a0 lk_27 dX0_copyFrom_32 ?_
  refine r_callv (va_runV (As := [.ref (G.2.2.1 6 (4 * a0 + 1))]) (rest := []) ⟨hx, hb, hml, hown, hts⟩ (m6_copyFrom l G (4 * o + 1) (4 * a0 + 1) (vrC_0_3 hv_this) (vrC_0_3 hv_a0) _ st4 h) (cwV 1 hts gX0_copyFrom_X6_copyFrom rfl rfl rfl hd6_copyFrom ⟨Nat.le_of_ble_eq_true rfl, Nat.le_of_ble_eq_true rfl⟩) (pre_V hK hX hI hA hS (vrC_0_3 hv_this) rfl rfl [.ref (G.2.2.1 6 (4 * a0 + 1))]) rfl rfl hl.1 rfl (lv_room (Nat.le_of_ble_eq_true rfl)) dX0_copyFrom_35 ⟨Nat.le_of_ble_eq_true rfl, Nat.le_of_ble_eq_true rfl⟩) hS (fun st6 h H locs hI hS => ?_)
  refine lv_aload_n hx hb dX0_copyFrom_38 rfl (lv_at hl 0 rfl) ?_
  refine gg_0_4 hx hb hts in0 hown hK hI hv_this lk_30 dX0_copyFrom_39 ?_
  refine lv_aload_n hx hb dX0_copyFrom_42 rfl (lv_at hl 1 rfl) ?_
  refine gg_0_4 hx hb hts in0 hown hK hI hv_a0 lk_30 dX0_copyFrom_43 ?_
  refine r_callv (va_runV (As := [.ref (G.2.2.1 6 (4 * a0 + 2))]) (rest := []) ⟨hx, hb, hml, hown, hts⟩ (m6_copyFrom l G (4 * o + 2) (4 * a0 + 2) (vrC_0_4 hv_this) (vrC_0_4 hv_a0) _ st6 h) (cwV 1 hts gX0_copyFrom_X6_copyFrom rfl rfl rfl hd6_copyFrom ⟨Nat.le_of_ble_eq_true rfl, Nat.le_of_ble_eq_true rfl⟩) (pre_V hK hX hI hA hS (vrC_0_4 hv_this) rfl rfl [.ref (G.2.2.1 6 (4 * a0 + 2))]) rfl rfl hl.1 rfl (lv_room (Nat.le_of_ble_eq_true rfl)) dX0_copyFrom_46 ⟨Nat.le_of_ble_eq_true rfl, Nat.le_of_ble_eq_true rfl⟩) hS (fun st8 h H locs hI hS => ?_)
  refine lv_aload_n hx hb dX0_copyFrom_49 rfl (lv_at hl 0 rfl) ?_
  refine gg_0_5 hx hb hts in0 hown hK hI hv_this lk_33 dX0_copyFrom_50 ?_
  refine lv_aload_n hx hb dX0_copyFrom_53 rfl (lv_at hl 1 rfl) ?_
  refine gg_0_5 hx hb hts in0 hown hK hI hv_a0 lk_33 dX0_copyFrom_54 ?_
  refine r_callv (va_runV (As := [.ref (G.2.2.1 6 (4 * a0 + 3))]) (rest := []) ⟨hx, hb, hml, hown, hts⟩ (m6_copyFrom l G (4 * o + 3) (4 * a0 + 3) (vrC_0_5 hv_this) (vrC_0_5 hv_a0) _ st8 h) (cwV 1 hts gX0_copyFrom_X6_copyFrom rfl rfl rfl hd6_copyFrom ⟨Nat.le_of_ble_eq_true rfl, Nat.le_of_ble_eq_true rfl⟩) (pre_V hK hX hI hA hS (vrC_0_5 hv_this) rfl rfl [.ref (G.2.2.1 6 (4 * a0 + 3))]) rfl rfl hl.1 rfl (lv_room (Nat.le_of_ble_eq_true rfl)) dX0_copyFrom_57 ⟨Nat.le_of_ble_eq_true rfl, Nat.le_of_ble_eq_true rfl⟩) hS (fun st10 h H locs hI hS => ?_)
  exact r_vret hx hb hr hlocks hK hI hS (Qp := Q) h dX0_copyFrom_60
theorem hd0_hasPlace : yX0_hasPlace.cls = RX0 ∧ yX0_hasPlace.cls ≠ "java/lang/invoke/MethodHandle" ∧ yX0_hasPlace.cls ≠ "java/lang/invoke/VarHandle" ∧ (parseMethodDescriptor yX0_hasPlace.desc).map (fun d => d.parameters.length) = some 1 := by decide +kernel
set_option maxHeartbeats 4000000 in
set_option maxRecDepth 100000 in
theorem m0_hasPlace (l : Launch) (G : WG)  (o : Int) (hv_this : vC 0 o) (Q : Int → St → Prop) (st : St) (a0 : Int) (h : f0_hasPlace o Q st a0) : Met l yX0_hasPlace wsX0_hasPlace ({ frames := 0, cells := 0, slots := 0, locals := 0 }) (PcM vC G st [.ref (G.2.2.1 0 o), .int (iI a0)]) (QiM vC G Q) 0 0 G.2.2.2.1 := by
  refine Met.ofW (cc := cX0_hasPlace) (maxL := 2) (ret := (some .boolean)) (by decide) rfl ?_
  intro p e s m args below meth c s₁ B hml hvv
  obtain ⟨rfl, hA, hI, hK, hX⟩ := hvv
  have hx := B.exec
  have hb := B.bytes
  have hr := B.returns
  have hts := atoms_spec (ws := wsX0_hasPlace) B.pre
  have hown : s.vm.findClass RX0 = some m.cls := findClass_of_methodNamed B.named
  have hlocks := B.notSynchronized
  have hS : va_S G.2.2.2.1 s.heap s.heap [] := va_S.rf
  have in0 : ∀ w ∈ wsX00, w ∈ wsX0_hasPlace := by decide +kernel
  have lk_9 := hts (.fieldLink RX0 9 "BeamLines$Beam" "length" "I") (by decide +kernel)
  have hl := lv_entry ([.ref (G.2.2.1 0 o), .int (iI a0)]) (n := 2) (Nat.le_of_ble_eq_true rfl)
  rw [lg_entry_eq]
  generalize (lg_sl ([.ref (G.2.2.1 0 o), .int (iI a0)]) ++ List.replicate (2 - (lg_sl ([.ref (G.2.2.1 0 o), .int (iI a0)])).length) Slot.unset).toArray = ls at hl ⊢
  have hl : lv_has ls 2 [(0, .ref (G.2.2.1 0 o)), (1, .int (iI a0))] := hl
  unfold f0_hasPlace at h
  refine lv_iload_n hx hb dX0_hasPlace_0 rfl (lv_at hl 1 rfl) ?_
  obtain ⟨g1, h⟩ := h
  refine r_if_lt (tgt := 22) hx hb dX0_hasPlace_1 (by decide) g1 (fun c2 => ?_) (fun c2 => ?_)
  · replace h := h.1 c2
    refine r_iconst (n := 0) hx hb dX0_hasPlace_22 ?_
    exact r_zret hx hb hr hlocks hK hI hS (Qp := Q) (by decide) h dX0_hasPlace_23
  · replace h := h.2 c2
    refine lv_iload_n hx hb dX0_hasPlace_4 rfl (lv_at hl 1 rfl) ?_
    refine lv_aload_n hx hb dX0_hasPlace_5 rfl (lv_at hl 0 rfl) ?_
    refine gg_0_0 hx hb hts in0 hown hK hI hv_this lk_9 dX0_hasPlace_6 ?_
    obtain ⟨g3, h⟩ := h
    obtain ⟨g4, h⟩ := h
    refine r_icmp_gt (tgt := 22) hx hb dX0_hasPlace_9 (by decide) g3 g4 (fun c5 => ?_) (fun c5 => ?_)
    · replace h := h.1 c5
      refine r_iconst (n := 0) hx hb dX0_hasPlace_22 ?_
      exact r_zret hx hb hr hlocks hK hI hS (Qp := Q) (by decide) h dX0_hasPlace_23
    · replace h := h.2 c5
      refine lv_iload_n hx hb dX0_hasPlace_12 rfl (lv_at hl 1 rfl) ?_
      refine r_bipush (n := 31) hx hb dX0_hasPlace_13 rfl ?_
      obtain ⟨g6, h⟩ := h
      refine r_icmp_ge (tgt := 22) hx hb dX0_hasPlace_15 (by decide) g6 (inI_mk rfl) (fun c7 => ?_) (fun c7 => ?_)
      · replace h := h.1 c7
        refine r_iconst (n := 0) hx hb dX0_hasPlace_22 ?_
        exact r_zret hx hb hr hlocks hK hI hS (Qp := Q) (by decide) h dX0_hasPlace_23
      · replace h := h.2 c7
        refine r_iconst (n := 1) hx hb dX0_hasPlace_18 ?_
        refine lv_goto (tgt := 23) hx hb dX0_hasPlace_19 (by decide) ?_
        exact r_zret hx hb hr hlocks hK hI hS (Qp := Q) (by decide) h dX0_hasPlace_23
theorem hd6_holdsFirst : yX6_holdsFirst.cls = RX6 ∧ yX6_holdsFirst.cls ≠ "java/lang/invoke/MethodHandle" ∧ yX6_holdsFirst.cls ≠ "java/lang/invoke/VarHandle" ∧ (parseMethodDescriptor yX6_holdsFirst.desc).map (fun d => d.parameters.length) = some 1 := by decide +kernel
set_option maxHeartbeats 4000000 in
set_option maxRecDepth 100000 in
theorem m6_holdsFirst (l : Launch) (G : WG)  (o : Int) (hv_this : vC 6 o) (Q : Int → St → Prop) (st : St) (a0 : Int) (h : f6_holdsFirst o Q st a0) : Met l yX6_holdsFirst wsX6_holdsFirst ({ frames := 0, cells := 0, slots := 0, locals := 0 }) (PcM vC G st [.ref (G.2.2.1 6 o), .int (iI a0)]) (QiM vC G Q) 0 0 G.2.2.2.1 := by
  refine Met.ofW (cc := cX6_holdsFirst) (maxL := 3) (ret := (some .boolean)) (by decide) rfl ?_
  intro p e s m args below meth c s₁ B hml hvv
  obtain ⟨rfl, hA, hI, hK, hX⟩ := hvv
  have hx := B.exec
  have hb := B.bytes
  have hr := B.returns
  have hts := atoms_spec (ws := wsX6_holdsFirst) B.pre
  have hown : s.vm.findClass RX6 = some m.cls := findClass_of_methodNamed B.named
  have hlocks := B.notSynchronized
  have hS : va_S G.2.2.2.1 s.heap s.heap [] := va_S.rf
  have in6 : ∀ w ∈ wsX60, w ∈ wsX6_holdsFirst := by decide +kernel
  have lk_9 := hts (.fieldLink RX6 9 "BeamLines$Row" "size" "I") (by decide +kernel)
  have lk_21 := hts (.fieldLink RX6 21 "BeamLines$Row" "firsts" "[I") (by decide +kernel)
  have hl := lv_entry ([.ref (G.2.2.1 6 o), .int (iI a0)]) (n := 3) (Nat.le_of_ble_eq_true rfl)
  rw [lg_entry_eq]
  generalize (lg_sl ([.ref (G.2.2.1 6 o), .int (iI a0)]) ++ List.replicate (3 - (lg_sl ([.ref (G.2.2.1 6 o), .int (iI a0)])).length) Slot.unset).toArray = ls at hl ⊢
  have hl : lv_has ls 3 [(0, .ref (G.2.2.1 6 o)), (1, .int (iI a0))] := hl
  have L2 : ∀ (n2 : Nat), ∀ (st : St) (v2x2 : Int) (H : Heap) (locs : List Loc) (ls : Array Slot), Iv vC G st H → va_S G.2.2.2.1 s.heap H locs → lv_has ls 3 [(0, .ref (G.2.2.1 6 o)), (1, .int (iI a0)), (2, .int (iI v2x2))] → f6_holdsFirst_l2 o Q a0 n2 st v2x2 → W p l e (headSpec wsX6_holdsFirst ({ frames := 0, cells := 0, slots := 0, locals := 0 })).room s m ([.ref (G.2.2.1 6 o), .int (iI a0)] : List Value).toArray below meth c H locs 0 0 (MQ below (QiM vC G Q) ([.ref (G.2.2.1 6 o), .int (iI a0)] : List Value).toArray s 0 0 G.2.2.2.1) (F0 m 2 ls []) := by
    intro n2
    induction n2 with
    | zero =>
      intro st v2x2 H locs ls hI hS hl h
      exact h.elim
    | succ n2 ih2 =>
      intro st v2x2 H locs ls hI hS hl h
      unfold f6_holdsFirst_l2 at h
      refine lv_iload_n hx hb dX6_holdsFirst_2 rfl (lv_at hl 2 rfl) ?_
      refine lv_aload_n hx hb dX6_holdsFirst_3 rfl (lv_at hl 0 rfl) ?_
      refine gg_6_2 hx hb hts in6 hown hK hI hv_this lk_9 dX6_holdsFirst_4 ?_
      obtain ⟨g1, h⟩ := h
      obtain ⟨g2, h⟩ := h
      refine r_icmp_ge (tgt := 37) hx hb dX6_holdsFirst_7 (by decide) g1 g2 (fun c3 => ?_) (fun c3 => ?_)
      · replace h := h.1 c3
        refine r_iconst (n := 0) hx hb dX6_holdsFirst_37 ?_
        exact r_zret hx hb hr hlocks hK hI hS (Qp := Q) (by decide) h dX6_holdsFirst_38
      · replace h := h.2 c3
        refine lv_iload_n hx hb dX6_holdsFirst_10 rfl (lv_at hl 2 rfl) ?_
        refine lv_aload_n hx hb dX6_holdsFirst_11 rfl (lv_at hl 0 rfl) ?_
        refine gg_6_0 hx hb hts in6 hown hK hI hv_this lk_21 dX6_holdsFirst_12 ?_
        refine r_alen hx hb hK hI (K := 10) (vrC_6_0 hv_this) 0 rfl rfl (rcap_pos _) dX6_holdsFirst_15 ?_
        obtain ⟨g4, h⟩ := h
        obtain ⟨g5, h⟩ := h
        refine r_icmp_ge (tgt := 37) hx hb dX6_holdsFirst_16 (by decide) g4 g5 (fun c6 => ?_) (fun c6 => ?_)
        · replace h := h.1 c6
          refine r_iconst (n := 0) hx hb dX6_holdsFirst_37 ?_
          exact r_zret hx hb hr hlocks hK hI hS (Qp := Q) (by decide) h dX6_holdsFirst_38
        · replace h := h.2 c6
          refine lv_aload_n hx hb dX6_holdsFirst_19 rfl (lv_at hl 0 rfl) ?_
          refine gg_6_0 hx hb hts in6 hown hK hI hv_this lk_21 dX6_holdsFirst_20 ?_
          refine lv_iload_n hx hb dX6_holdsFirst_23 rfl (lv_at hl 2 rfl) ?_
          obtain ⟨g7, g8, h⟩ := h
          refine r_iald hx hb hK hI (K := 10) (vrC_6_0 hv_this) rfl (rcap_le _) dX6_holdsFirst_24 g7 g8 ?_
          refine lv_iload_n hx hb dX6_holdsFirst_25 rfl (lv_at hl 1 rfl) ?_
          obtain ⟨g9, h⟩ := h
          obtain ⟨g10, h⟩ := h
          refine r_icmp_ne (tgt := 31) hx hb dX6_holdsFirst_26 (by decide) g9 g10 (fun c11 => ?_) (fun c11 => ?_)
          · replace h := h.2 c11
            obtain ⟨x12, hx12⟩ : ∃ z : Int, z = v2x2 + 1 := ⟨_, rfl⟩
            replace h := h x12 hx12
            refine lv_iinc (v := iI x12) (lv' := [(2, .int (iI x12)), (0, .ref (G.2.2.1 6 o)), (1, .int (iI a0))]) hx hb dX6_holdsFirst_31 hl (k := 2) rfl (by rw [hx12]; exact iI_add _ _) (by decide) rfl (fun ls hl => ?_)
            refine lv_goto (tgt := 2) hx hb dX6_holdsFirst_34 (by decide) ?_
            exact ih2 st x12 _ _ ls hI hS (lv_sub hl [1, 2, 0] rfl) h
          · replace h := h.1 c11
            refine r_iconst (n := 1) hx hb dX6_holdsFirst_29 ?_
            exact r_zret hx hb hr hlocks hK hI hS (Qp := Q) (by decide) h dX6_holdsFirst_30
  unfold f6_holdsFirst at h
  refine r_iconst (n := 0) hx hb dX6_holdsFirst_0 ?_
  refine lv_istore_n (lv' := [(2, .int (iI 0)), (0, .ref (G.2.2.1 6 o)), (1, .int (iI a0))]) hx hb dX6_holdsFirst_1 rfl hl (by decide) rfl (fun ls hl => ?_)
  obtain ⟨kk, h⟩ := h
  exact L2 kk st 0 _ _ ls hI hS (lv_sub hl [1, 2, 0] rfl) h
theorem hd0_isTaken : yX0_isTaken.cls = RX0 ∧ yX0_isTaken.cls ≠ "java/lang/invoke/MethodHandle" ∧ yX0_isTaken.cls ≠ "java/lang/invoke/VarHandle" ∧ (parseMethodDescriptor yX0_isTaken.desc).map (fun d => d.parameters.length) = some 1 := by decide +kernel
set_option maxHeartbeats 4000000 in
set_option maxRecDepth 100000 in
theorem m0_isTaken (l : Launch) (G : WG)  (o : Int) (hv_this : vC 0 o) (Q : Int → St → Prop) (st : St) (a0 : Int) (h : f0_isTaken o Q st a0) : Met l yX0_isTaken wsX0_isTaken ({ frames := 1, cells := 0, slots := 0, locals := 22 }) (PcM vC G st [.ref (G.2.2.1 0 o), .int (iI a0)]) (QiM vC G Q) 0 0 G.2.2.2.1 := by
  refine Met.ofW (cc := cX0_isTaken) (maxL := 2) (ret := (some .boolean)) (by decide) rfl ?_
  intro p e s m args below meth c s₁ B hml hvv
  obtain ⟨rfl, hA, hI, hK, hX⟩ := hvv
  have hx := B.exec
  have hb := B.bytes
  have hr := B.returns
  have hts := atoms_spec (ws := wsX0_isTaken) B.pre
  have hown : s.vm.findClass RX0 = some m.cls := findClass_of_methodNamed B.named
  have hlocks := B.notSynchronized
  have hS : va_S G.2.2.2.1 s.heap s.heap [] := va_S.rf
  have in0 : ∀ w ∈ wsX00, w ∈ wsX0_isTaken := by decide +kernel
  have lk_23 := hts (.fieldLink RX0 23 "BeamLines$Beam" "supports" "LBeamLines$Row;") (by decide +kernel)
  have lk_27 := hts (.fieldLink RX0 27 "BeamLines$Beam" "hinges" "LBeamLines$Row;") (by decide +kernel)
  have hl := lv_entry ([.ref (G.2.2.1 0 o), .int (iI a0)]) (n := 2) (Nat.le_of_ble_eq_true rfl)
  rw [lg_entry_eq]
  generalize (lg_sl ([.ref (G.2.2.1 0 o), .int (iI a0)]) ++ List.replicate (2 - (lg_sl ([.ref (G.2.2.1 0 o), .int (iI a0)])).length) Slot.unset).toArray = ls at hl ⊢
  have hl : lv_has ls 2 [(0, .ref (G.2.2.1 0 o)), (1, .int (iI a0))] := hl
  unfold f0_isTaken at h
  refine lv_aload_n hx hb dX0_isTaken_0 rfl (lv_at hl 0 rfl) ?_
  refine gg_0_2 hx hb hts in0 hown hK hI hv_this lk_23 dX0_isTaken_1 ?_
  refine lv_iload_n hx hb dX0_isTaken_4 rfl (lv_at hl 1 rfl) ?_
  refine r_calli (va_runV (As := [.int (iI a0)]) (rest := []) ⟨hx, hb, hml, hown, hts⟩ (m6_holdsFirst l G (4 * o) (vrC_0_2 hv_this) _ st a0 h) (cwV 1 hts gX0_isTaken_X6_holdsFirst rfl rfl rfl hd6_holdsFirst ⟨Nat.le_of_ble_eq_true rfl, Nat.le_of_ble_eq_true rfl⟩) (pre_V hK hX hI hA hS (vrC_0_2 hv_this) rfl rfl [.int (iI a0)]) rfl rfl hl.1 rfl (lv_room (Nat.le_of_ble_eq_true rfl)) dX0_isTaken_5 ⟨Nat.le_of_ble_eq_true rfl, Nat.le_of_ble_eq_true rfl⟩) hS (fun z1 st2 h H locs hI hS => ?_)
  obtain ⟨g3, h⟩ := h
  refine r_if_ne (tgt := 22) hx hb dX0_isTaken_8 (by decide) g3 (fun c4 => ?_) (fun c4 => ?_)
  · replace h := h.2 c4
    refine r_iconst (n := 1) hx hb dX0_isTaken_22 ?_
    refine lv_goto (tgt := 27) hx hb dX0_isTaken_23 (by decide) ?_
    exact r_zret hx hb hr hlocks hK hI hS (Qp := Q) (by decide) h dX0_isTaken_27
  · replace h := h.1 c4
    refine lv_aload_n hx hb dX0_isTaken_11 rfl (lv_at hl 0 rfl) ?_
    refine gg_0_3 hx hb hts in0 hown hK hI hv_this lk_27 dX0_isTaken_12 ?_
    refine lv_iload_n hx hb dX0_isTaken_15 rfl (lv_at hl 1 rfl) ?_
    refine r_calli (va_runV (As := [.int (iI a0)]) (rest := []) ⟨hx, hb, hml, hown, hts⟩ (m6_holdsFirst l G (4 * o + 1) (vrC_0_3 hv_this) _ st2 a0 h) (cwV 1 hts gX0_isTaken_X6_holdsFirst rfl rfl rfl hd6_holdsFirst ⟨Nat.le_of_ble_eq_true rfl, Nat.le_of_ble_eq_true rfl⟩) (pre_V hK hX hI hA hS (vrC_0_3 hv_this) rfl rfl [.int (iI a0)]) rfl rfl hl.1 rfl (lv_room (Nat.le_of_ble_eq_true rfl)) dX0_isTaken_16 ⟨Nat.le_of_ble_eq_true rfl, Nat.le_of_ble_eq_true rfl⟩) hS (fun z5 st6 h H locs hI hS => ?_)
    obtain ⟨g7, h⟩ := h
    refine r_if_eq (tgt := 26) hx hb dX0_isTaken_19 (by decide) g7 (fun c8 => ?_) (fun c8 => ?_)
    · replace h := h.1 c8
      refine r_iconst (n := 0) hx hb dX0_isTaken_26 ?_
      exact r_zret hx hb hr hlocks hK hI hS (Qp := Q) (by decide) h dX0_isTaken_27
    · replace h := h.2 c8
      refine r_iconst (n := 1) hx hb dX0_isTaken_22 ?_
      refine lv_goto (tgt := 27) hx hb dX0_isTaken_23 (by decide) ?_
      exact r_zret hx hb hr hlocks hK hI hS (Qp := Q) (by decide) h dX0_isTaken_27
theorem hd6_greatestSecond : yX6_greatestSecond.cls = RX6 ∧ yX6_greatestSecond.cls ≠ "java/lang/invoke/MethodHandle" ∧ yX6_greatestSecond.cls ≠ "java/lang/invoke/VarHandle" ∧ (parseMethodDescriptor yX6_greatestSecond.desc).map (fun d => d.parameters.length) = some 0 := by decide +kernel
set_option maxHeartbeats 4000000 in
set_option maxRecDepth 100000 in
theorem m6_greatestSecond (l : Launch) (G : WG)  (o : Int) (hv_this : vC 6 o) (Q : Int → St → Prop) (st : St)  (h : f6_greatestSecond o Q st) : Met l yX6_greatestSecond wsX6_greatestSecond ({ frames := 2, cells := 0, slots := 0, locals := 42 }) (PcM vC G st [.ref (G.2.2.1 6 o)]) (QiM vC G Q) 0 0 G.2.2.2.1 := by
  refine Met.ofW (cc := cX6_greatestSecond) (maxL := 3) (ret := (some .int)) (by decide) rfl ?_
  intro p e s m args below meth c s₁ B hml hvv
  obtain ⟨rfl, hA, hI, hK, hX⟩ := hvv
  have hx := B.exec
  have hb := B.bytes
  have hr := B.returns
  have hts := atoms_spec (ws := wsX6_greatestSecond) B.pre
  have hown : s.vm.findClass RX6 = some m.cls := findClass_of_methodNamed B.named
  have hlocks := B.notSynchronized
  have hS : va_S G.2.2.2.1 s.heap s.heap [] := va_S.rf
  have in6 : ∀ w ∈ wsX60, w ∈ wsX6_greatestSecond := by decide +kernel
  have lk_9 := hts (.fieldLink RX6 9 "BeamLines$Row" "size" "I") (by decide +kernel)
  have ml_15 : (Cond.methodLink RX6 15 Lib.Math.max.name).before _ s = true ∧ (Cond.static Lib.Math.max.name).before _ s = true ∧ (Cond.initialized "java/lang/Math").before _ s = true ∧ (Cond.code Lib.Math.max.name Lib.Math.max.code 2 (some .int)).before _ s = true := ⟨hts _ (by decide +kernel), hts _ (by decide +kernel), hts _ (by decide +kernel), hts _ (by decide +kernel)⟩
  have hl := lv_entry ([.ref (G.2.2.1 6 o)]) (n := 3) (Nat.le_of_ble_eq_true rfl)
  rw [lg_entry_eq]
  generalize (lg_sl ([.ref (G.2.2.1 6 o)]) ++ List.replicate (3 - (lg_sl ([.ref (G.2.2.1 6 o)])).length) Slot.unset).toArray = ls at hl ⊢
  have hl : lv_has ls 3 [(0, .ref (G.2.2.1 6 o))] := hl
  have L4 : ∀ (n4 : Nat), ∀ (st : St) (v1x4 : Int) (v2x4 : Int) (H : Heap) (locs : List Loc) (ls : Array Slot), Iv vC G st H → va_S G.2.2.2.1 s.heap H locs → lv_has ls 3 [(0, .ref (G.2.2.1 6 o)), (1, .int (iI v1x4)), (2, .int (iI v2x4))] → f6_greatestSecond_l4 o Q n4 st v1x4 v2x4 → W p l e (headSpec wsX6_greatestSecond ({ frames := 2, cells := 0, slots := 0, locals := 42 })).room s m ([.ref (G.2.2.1 6 o)] : List Value).toArray below meth c H locs 0 0 (MQ below (QiM vC G Q) ([.ref (G.2.2.1 6 o)] : List Value).toArray s 0 0 G.2.2.2.1) (F0 m 4 ls []) := by
    intro n4
    induction n4 with
    | zero =>
      intro st v1x4 v2x4 H locs ls hI hS hl h
      exact h.elim
    | succ n4 ih4 =>
      intro st v1x4 v2x4 H locs ls hI hS hl h
      unfold f6_greatestSecond_l4 at h
      refine lv_iload_n hx hb dX6_greatestSecond_4 rfl (lv_at hl 2 rfl) ?_
      refine lv_aload_n hx hb dX6_greatestSecond_5 rfl (lv_at hl 0 rfl) ?_
      refine gg_6_2 hx hb hts in6 hown hK hI hv_this lk_9 dX6_greatestSecond_6 ?_
      obtain ⟨g1, h⟩ := h
      obtain ⟨g2, h⟩ := h
      refine r_icmp_ge (tgt := 28) hx hb dX6_greatestSecond_9 (by decide) g1 g2 (fun c3 => ?_) (fun c3 => ?_)
      · replace h := h.1 c3
        refine lv_iload_n hx hb dX6_greatestSecond_28 rfl (lv_at hl 1 rfl) ?_
        exact r_iret hx hb hr hlocks hK hI hS (Qp := Q) h dX6_greatestSecond_29
      · replace h := h.2 c3
        refine lv_iload_n hx hb dX6_greatestSecond_12 rfl (lv_at hl 1 rfl) ?_
        refine lv_aload_n hx hb dX6_greatestSecond_13 rfl (lv_at hl 0 rfl) ?_
        refine lv_iload_n hx hb dX6_greatestSecond_14 rfl (lv_at hl 2 rfl) ?_
        refine r_calli (va_runV (As := [.int (iI v2x4)]) (rest := [.int (iI v1x4)]) ⟨hx, hb, hml, hown, hts⟩ (m6_second l G o hv_this _ st v2x4 h) (cwV 1 hts gX6_greatestSecond_X6_second rfl rfl rfl hd6_second ⟨Nat.le_of_ble_eq_true rfl, Nat.le_of_ble_eq_true rfl⟩) (pre_V hK hX hI hA hS hv_this rfl rfl [.int (iI v2x4)]) rfl rfl hl.1 rfl (lv_room (Nat.le_of_ble_eq_true rfl)) dX6_greatestSecond_15 ⟨Nat.le_of_ble_eq_true rfl, Nat.le_of_ble_eq_true rfl⟩) hS (fun z4 st5 h H locs hI hS => ?_)
        obtain ⟨g6, h⟩ := h
        obtain ⟨g7, h⟩ := h
        refine r_mmax hx hb (hml.trans hl.1.symm) hown ml_15 dX6_greatestSecond_18 g6 g7 ⟨Nat.le_of_ble_eq_true rfl, Nat.le_of_ble_eq_true rfl, Nat.zero_le _, Nat.zero_le _⟩ (Nat.le_of_ble_eq_true rfl) ?_
        refine r_topi (fun x8 hx8 => ?_)
        replace h := h x8 hx8
        refine lv_istore_n (lv' := [(1, .int (iI x8)), (0, .ref (G.2.2.1 6 o)), (2, .int (iI v2x4))]) hx hb dX6_greatestSecond_21 rfl hl (by decide) rfl (fun ls hl => ?_)
        obtain ⟨x9, hx9⟩ : ∃ z : Int, z = v2x4 + 1 := ⟨_, rfl⟩
        replace h := h x9 hx9
        refine lv_iinc (v := iI x9) (lv' := [(2, .int (iI x9)), (1, .int (iI x8)), (0, .ref (G.2.2.1 6 o))]) hx hb dX6_greatestSecond_22 hl (k := 2) rfl (by rw [hx9]; exact iI_add _ _) (by decide) rfl (fun ls hl => ?_)
        refine lv_goto (tgt := 4) hx hb dX6_greatestSecond_25 (by decide) ?_
        exact ih4 st5 x8 x9 _ _ ls hI hS (lv_sub hl [2, 1, 0] rfl) h
  unfold f6_greatestSecond at h
  refine r_iconst (n := 0) hx hb dX6_greatestSecond_0 ?_
  refine lv_istore_n (lv' := [(1, .int (iI 0)), (0, .ref (G.2.2.1 6 o))]) hx hb dX6_greatestSecond_1 rfl hl (by decide) rfl (fun ls hl => ?_)
  refine r_iconst (n := 0) hx hb dX6_greatestSecond_2 ?_
  refine lv_istore_n (lv' := [(2, .int (iI 0)), (1, .int (iI 0)), (0, .ref (G.2.2.1 6 o))]) hx hb dX6_greatestSecond_3 rfl hl (by decide) rfl (fun ls hl => ?_)
  obtain ⟨kk, h⟩ := h
  exact L4 kk st 0 0 _ _ ls hI hS (lv_sub hl [2, 1, 0] rfl) h
theorem hd0_lastHead : yX0_lastHead.cls = RX0 ∧ yX0_lastHead.cls ≠ "java/lang/invoke/MethodHandle" ∧ yX0_lastHead.cls ≠ "java/lang/invoke/VarHandle" ∧ (parseMethodDescriptor yX0_lastHead.desc).map (fun d => d.parameters.length) = some 0 := by decide +kernel
set_option maxHeartbeats 4000000 in
set_option maxRecDepth 100000 in
theorem m0_lastHead (l : Launch) (G : WG)  (o : Int) (hv_this : vC 0 o) (Q : Int → St → Prop) (st : St)  (h : f0_lastHead o Q st) : Met l yX0_lastHead wsX0_lastHead ({ frames := 3, cells := 0, slots := 0, locals := 64 }) (PcM vC G st [.ref (G.2.2.1 0 o)]) (QiM vC G Q) 0 0 G.2.2.2.1 := by
  refine Met.ofW (cc := cX0_lastHead) (maxL := 1) (ret := (some .int)) (by decide) rfl ?_
  intro p e s m args below meth c s₁ B hml hvv
  obtain ⟨rfl, hA, hI, hK, hX⟩ := hvv
  have hx := B.exec
  have hb := B.bytes
  have hr := B.returns
  have hts := atoms_spec (ws := wsX0_lastHead) B.pre
  have hown : s.vm.findClass RX0 = some m.cls := findClass_of_methodNamed B.named
  have hlocks := B.notSynchronized
  have hS : va_S G.2.2.2.1 s.heap s.heap [] := va_S.rf
  have in0 : ∀ w ∈ wsX00, w ∈ wsX0_lastHead := by decide +kernel
  have in6 : ∀ w ∈ wsX60, w ∈ wsX0_lastHead := by decide +kernel
  have lk_9 := hts (.fieldLink RX0 9 "BeamLines$Beam" "length" "I") (by decide +kernel)
  have lk_33 := hts (.fieldLink RX0 33 "BeamLines$Beam" "axles" "LBeamLines$Row;") (by decide +kernel)
  have lk_36 := hts (.fieldLink RX0 36 "BeamLines$Row" "size" "I") (by decide +kernel)
  have hl := lv_entry ([.ref (G.2.2.1 0 o)]) (n := 1) (Nat.le_of_ble_eq_true rfl)
  rw [lg_entry_eq]
  generalize (lg_sl ([.ref (G.2.2.1 0 o)]) ++ List.replicate (1 - (lg_sl ([.ref (G.2.2.1 0 o)])).length) Slot.unset).toArray = ls at hl ⊢
  have hl : lv_has ls 1 [(0, .ref (G.2.2.1 0 o))] := hl
  unfold f0_lastHead at h
  refine lv_aload_n hx hb dX0_lastHead_0 rfl (lv_at hl 0 rfl) ?_
  refine gg_0_5 hx hb hts in0 hown hK hI hv_this lk_33 dX0_lastHead_1 ?_
  refine gg_6_2 hx hb hts in6 hown hK hI (vrC_0_5 hv_this) lk_36 dX0_lastHead_4 ?_
  obtain ⟨g1, h⟩ := h
  refine r_if_ne (tgt := 14) hx hb dX0_lastHead_7 (by decide) g1 (fun c2 => ?_) (fun c2 => ?_)
  · replace h := h.2 c2
    refine lv_aload_n hx hb dX0_lastHead_14 rfl (lv_at hl 0 rfl) ?_
    refine gg_0_0 hx hb hts in0 hown hK hI hv_this lk_9 dX0_lastHead_15 ?_
    refine lv_aload_n hx hb dX0_lastHead_18 rfl (lv_at hl 0 rfl) ?_
    refine gg_0_5 hx hb hts in0 hown hK hI hv_this lk_33 dX0_lastHead_19 ?_
    refine r_calli (va_runV (As := []) (rest := [.int (iI (st 0 0 o 0))]) ⟨hx, hb, hml, hown, hts⟩ (m6_greatestSecond l G (4 * o + 3) (vrC_0_5 hv_this) _ st h) (cwV 0 hts gX0_lastHead_X6_greatestSecond rfl rfl rfl hd6_greatestSecond ⟨Nat.le_of_ble_eq_true rfl, Nat.le_of_ble_eq_true rfl⟩) (pre_V hK hX hI hA hS (vrC_0_5 hv_this) rfl rfl []) rfl rfl hl.1 rfl (lv_room (Nat.le_of_ble_eq_true rfl)) dX0_lastHead_22 ⟨Nat.le_of_ble_eq_true rfl, Nat.le_of_ble_eq_true rfl⟩) hS (fun z3 st4 h H locs hI hS => ?_)
    refine r_iadd hx hb dX0_lastHead_25 ?_
    exact r_iret hx hb hr hlocks hK hI hS (Qp := Q) h dX0_lastHead_26
  · replace h := h.1 c2
    refine r_iconst (n := 0) hx hb dX0_lastHead_10 ?_
    refine lv_goto (tgt := 26) hx hb dX0_lastHead_11 (by decide) ?_
    exact r_iret hx hb hr hlocks hK hI hS (Qp := Q) h dX0_lastHead_26
theorem hd6_holdsSecond : yX6_holdsSecond.cls = RX6 ∧ yX6_holdsSecond.cls ≠ "java/lang/invoke/MethodHandle" ∧ yX6_holdsSecond.cls ≠ "java/lang/invoke/VarHandle" ∧ (parseMethodDescriptor yX6_holdsSecond.desc).map (fun d => d.parameters.length) = some 1 := by decide +kernel
set_option maxHeartbeats 4000000 in
set_option maxRecDepth 100000 in
theorem m6_holdsSecond (l : Launch) (G : WG)  (o : Int) (hv_this : vC 6 o) (Q : Int → St → Prop) (st : St) (a0 : Int) (h : f6_holdsSecond o Q st a0) : Met l yX6_holdsSecond wsX6_holdsSecond ({ frames := 0, cells := 0, slots := 0, locals := 0 }) (PcM vC G st [.ref (G.2.2.1 6 o), .int (iI a0)]) (QiM vC G Q) 0 0 G.2.2.2.1 := by
  refine Met.ofW (cc := cX6_holdsSecond) (maxL := 3) (ret := (some .boolean)) (by decide) rfl ?_
  intro p e s m args below meth c s₁ B hml hvv
  obtain ⟨rfl, hA, hI, hK, hX⟩ := hvv
  have hx := B.exec
  have hb := B.bytes
  have hr := B.returns
  have hts := atoms_spec (ws := wsX6_holdsSecond) B.pre
  have hown : s.vm.findClass RX6 = some m.cls := findClass_of_methodNamed B.named
  have hlocks := B.notSynchronized
  have hS : va_S G.2.2.2.1 s.heap s.heap [] := va_S.rf
  have in6 : ∀ w ∈ wsX60, w ∈ wsX6_holdsSecond := by decide +kernel
  have lk_9 := hts (.fieldLink RX6 9 "BeamLines$Row" "size" "I") (by decide +kernel)
  have lk_25 := hts (.fieldLink RX6 25 "BeamLines$Row" "seconds" "[I") (by decide +kernel)
  have hl := lv_entry ([.ref (G.2.2.1 6 o), .int (iI a0)]) (n := 3) (Nat.le_of_ble_eq_true rfl)
  rw [lg_entry_eq]
  generalize (lg_sl ([.ref (G.2.2.1 6 o), .int (iI a0)]) ++ List.replicate (3 - (lg_sl ([.ref (G.2.2.1 6 o), .int (iI a0)])).length) Slot.unset).toArray = ls at hl ⊢
  have hl : lv_has ls 3 [(0, .ref (G.2.2.1 6 o)), (1, .int (iI a0))] := hl
  have L2 : ∀ (n2 : Nat), ∀ (st : St) (v2x2 : Int) (H : Heap) (locs : List Loc) (ls : Array Slot), Iv vC G st H → va_S G.2.2.2.1 s.heap H locs → lv_has ls 3 [(0, .ref (G.2.2.1 6 o)), (1, .int (iI a0)), (2, .int (iI v2x2))] → f6_holdsSecond_l2 o Q a0 n2 st v2x2 → W p l e (headSpec wsX6_holdsSecond ({ frames := 0, cells := 0, slots := 0, locals := 0 })).room s m ([.ref (G.2.2.1 6 o), .int (iI a0)] : List Value).toArray below meth c H locs 0 0 (MQ below (QiM vC G Q) ([.ref (G.2.2.1 6 o), .int (iI a0)] : List Value).toArray s 0 0 G.2.2.2.1) (F0 m 2 ls []) := by
    intro n2
    induction n2 with
    | zero =>
      intro st v2x2 H locs ls hI hS hl h
      exact h.elim
    | succ n2 ih2 =>
      intro st v2x2 H locs ls hI hS hl h
      unfold f6_holdsSecond_l2 at h
      refine lv_iload_n hx hb dX6_holdsSecond_2 rfl (lv_at hl 2 rfl) ?_
      refine lv_aload_n hx hb dX6_holdsSecond_3 rfl (lv_at hl 0 rfl) ?_
      refine gg_6_2 hx hb hts in6 hown hK hI hv_this lk_9 dX6_holdsSecond_4 ?_
      obtain ⟨g1, h⟩ := h
      obtain ⟨g2, h⟩ := h
      refine r_icmp_ge (tgt := 37) hx hb dX6_holdsSecond_7 (by decide) g1 g2 (fun c3 => ?_) (fun c3 => ?_)
      · replace h := h.1 c3
        refine r_iconst (n := 0) hx hb dX6_holdsSecond_37 ?_
        exact r_zret hx hb hr hlocks hK hI hS (Qp := Q) (by decide) h dX6_holdsSecond_38
      · replace h := h.2 c3
        refine lv_iload_n hx hb dX6_holdsSecond_10 rfl (lv_at hl 2 rfl) ?_
        refine lv_aload_n hx hb dX6_holdsSecond_11 rfl (lv_at hl 0 rfl) ?_
        refine gg_6_1 hx hb hts in6 hown hK hI hv_this lk_25 dX6_holdsSecond_12 ?_
        refine r_alen hx hb hK hI (K := 11) (vrC_6_1 hv_this) 0 rfl rfl (rcap_pos _) dX6_holdsSecond_15 ?_
        obtain ⟨g4, h⟩ := h
        obtain ⟨g5, h⟩ := h
        refine r_icmp_ge (tgt := 37) hx hb dX6_holdsSecond_16 (by decide) g4 g5 (fun c6 => ?_) (fun c6 => ?_)
        · replace h := h.1 c6
          refine r_iconst (n := 0) hx hb dX6_holdsSecond_37 ?_
          exact r_zret hx hb hr hlocks hK hI hS (Qp := Q) (by decide) h dX6_holdsSecond_38
        · replace h := h.2 c6
          refine lv_aload_n hx hb dX6_holdsSecond_19 rfl (lv_at hl 0 rfl) ?_
          refine gg_6_1 hx hb hts in6 hown hK hI hv_this lk_25 dX6_holdsSecond_20 ?_
          refine lv_iload_n hx hb dX6_holdsSecond_23 rfl (lv_at hl 2 rfl) ?_
          obtain ⟨g7, g8, h⟩ := h
          refine r_iald hx hb hK hI (K := 11) (vrC_6_1 hv_this) rfl (rcap_le _) dX6_holdsSecond_24 g7 g8 ?_
          refine lv_iload_n hx hb dX6_holdsSecond_25 rfl (lv_at hl 1 rfl) ?_
          obtain ⟨g9, h⟩ := h
          obtain ⟨g10, h⟩ := h
          refine r_icmp_ne (tgt := 31) hx hb dX6_holdsSecond_26 (by decide) g9 g10 (fun c11 => ?_) (fun c11 => ?_)
          · replace h := h.2 c11
            obtain ⟨x12, hx12⟩ : ∃ z : Int, z = v2x2 + 1 := ⟨_, rfl⟩
            replace h := h x12 hx12
            refine lv_iinc (v := iI x12) (lv' := [(2, .int (iI x12)), (0, .ref (G.2.2.1 6 o)), (1, .int (iI a0))]) hx hb dX6_holdsSecond_31 hl (k := 2) rfl (by rw [hx12]; exact iI_add _ _) (by decide) rfl (fun ls hl => ?_)
            refine lv_goto (tgt := 2) hx hb dX6_holdsSecond_34 (by decide) ?_
            exact ih2 st x12 _ _ ls hI hS (lv_sub hl [1, 2, 0] rfl) h
          · replace h := h.1 c11
            refine r_iconst (n := 1) hx hb dX6_holdsSecond_29 ?_
            exact r_zret hx hb hr hlocks hK hI hS (Qp := Q) (by decide) h dX6_holdsSecond_30
  unfold f6_holdsSecond at h
  refine r_iconst (n := 0) hx hb dX6_holdsSecond_0 ?_
  refine lv_istore_n (lv' := [(2, .int (iI 0)), (0, .ref (G.2.2.1 6 o)), (1, .int (iI a0))]) hx hb dX6_holdsSecond_1 rfl hl (by decide) rfl (fun ls hl => ?_)
  obtain ⟨kk, h⟩ := h
  exact L2 kk st 0 _ _ ls hI hS (lv_sub hl [1, 2, 0] rfl) h
theorem hd0_signAt : yX0_signAt.cls = RX0 ∧ yX0_signAt.cls ≠ "java/lang/invoke/MethodHandle" ∧ yX0_signAt.cls ≠ "java/lang/invoke/VarHandle" ∧ (parseMethodDescriptor yX0_signAt.desc).map (fun d => d.parameters.length) = some 1 := by decide +kernel
set_option maxHeartbeats 4000000 in
set_option maxRecDepth 100000 in
theorem m0_signAt (l : Launch) (G : WG)  (o : Int) (hv_this : vC 0 o) (Q : Int → St → Prop) (st : St) (a0 : Int) (h : f0_signAt o Q st a0) : Met l yX0_signAt wsX0_signAt ({ frames := 1, cells := 0, slots := 0, locals := 22 }) (PcM vC G st [.ref (G.2.2.1 0 o), .int (iI a0)]) (QiM vC G Q) 0 0 G.2.2.2.1 := by
  refine Met.ofW (cc := cX0_signAt) (maxL := 2) (ret := (some .char)) (by decide) rfl ?_
  intro p e s m args below meth c s₁ B hml hvv
  obtain ⟨rfl, hA, hI, hK, hX⟩ := hvv
  have hx := B.exec
  have hb := B.bytes
  have hr := B.returns
  have hts := atoms_spec (ws := wsX0_signAt) B.pre
  have hown : s.vm.findClass RX0 = some m.cls := findClass_of_methodNamed B.named
  have hlocks := B.notSynchronized
  have hS : va_S G.2.2.2.1 s.heap s.heap [] := va_S.rf
  have in0 : ∀ w ∈ wsX00, w ∈ wsX0_signAt := by decide +kernel
  have lk_23 := hts (.fieldLink RX0 23 "BeamLines$Beam" "supports" "LBeamLines$Row;") (by decide +kernel)
  have lk_27 := hts (.fieldLink RX0 27 "BeamLines$Beam" "hinges" "LBeamLines$Row;") (by decide +kernel)
  have lk_30 := hts (.fieldLink RX0 30 "BeamLines$Beam" "loads" "LBeamLines$Row;") (by decide +kernel)
  have hl := lv_entry ([.ref (G.2.2.1 0 o), .int (iI a0)]) (n := 2) (Nat.le_of_ble_eq_true rfl)
  rw [lg_entry_eq]
  generalize (lg_sl ([.ref (G.2.2.1 0 o), .int (iI a0)]) ++ List.replicate (2 - (lg_sl ([.ref (G.2.2.1 0 o), .int (iI a0)])).length) Slot.unset).toArray = ls at hl ⊢
  have hl : lv_has ls 2 [(0, .ref (G.2.2.1 0 o)), (1, .int (iI a0))] := hl
  unfold f0_signAt at h
  refine lv_aload_n hx hb dX0_signAt_0 rfl (lv_at hl 0 rfl) ?_
  refine gg_0_2 hx hb hts in0 hown hK hI hv_this lk_23 dX0_signAt_1 ?_
  refine lv_iload_n hx hb dX0_signAt_4 rfl (lv_at hl 1 rfl) ?_
  refine r_calli (va_runV (As := [.int (iI a0)]) (rest := []) ⟨hx, hb, hml, hown, hts⟩ (m6_holdsFirst l G (4 * o) (vrC_0_2 hv_this) _ st a0 h) (cwV 1 hts gX0_signAt_X6_holdsFirst rfl rfl rfl hd6_holdsFirst ⟨Nat.le_of_ble_eq_true rfl, Nat.le_of_ble_eq_true rfl⟩) (pre_V hK hX hI hA hS (vrC_0_2 hv_this) rfl rfl [.int (iI a0)]) rfl rfl hl.1 rfl (lv_room (Nat.le_of_ble_eq_true rfl)) dX0_signAt_5 ⟨Nat.le_of_ble_eq_true rfl, Nat.le_of_ble_eq_true rfl⟩) hS (fun z1 st2 h H locs hI hS => ?_)
  obtain ⟨g3, h⟩ := h
  refine r_if_eq (tgt := 14) hx hb dX0_signAt_8 (by decide) g3 (fun c4 => ?_) (fun c4 => ?_)
  · replace h := h.1 c4
    refine lv_aload_n hx hb dX0_signAt_14 rfl (lv_at hl 0 rfl) ?_
    refine gg_0_3 hx hb hts in0 hown hK hI hv_this lk_27 dX0_signAt_15 ?_
    refine lv_iload_n hx hb dX0_signAt_18 rfl (lv_at hl 1 rfl) ?_
    refine r_calli (va_runV (As := [.int (iI a0)]) (rest := []) ⟨hx, hb, hml, hown, hts⟩ (m6_holdsFirst l G (4 * o + 1) (vrC_0_3 hv_this) _ st2 a0 h) (cwV 1 hts gX0_signAt_X6_holdsFirst rfl rfl rfl hd6_holdsFirst ⟨Nat.le_of_ble_eq_true rfl, Nat.le_of_ble_eq_true rfl⟩) (pre_V hK hX hI hA hS (vrC_0_3 hv_this) rfl rfl [.int (iI a0)]) rfl rfl hl.1 rfl (lv_room (Nat.le_of_ble_eq_true rfl)) dX0_signAt_19 ⟨Nat.le_of_ble_eq_true rfl, Nat.le_of_ble_eq_true rfl⟩) hS (fun z5 st6 h H locs hI hS => ?_)
    obtain ⟨g7, h⟩ := h
    refine r_if_eq (tgt := 28) hx hb dX0_signAt_22 (by decide) g7 (fun c8 => ?_) (fun c8 => ?_)
    · replace h := h.1 c8
      refine lv_aload_n hx hb dX0_signAt_28 rfl (lv_at hl 0 rfl) ?_
      refine gg_0_4 hx hb hts in0 hown hK hI hv_this lk_30 dX0_signAt_29 ?_
      refine lv_iload_n hx hb dX0_signAt_32 rfl (lv_at hl 1 rfl) ?_
      refine r_calli (va_runV (As := [.int (iI a0)]) (rest := []) ⟨hx, hb, hml, hown, hts⟩ (m6_holdsSecond l G (4 * o + 2) (vrC_0_4 hv_this) _ st6 a0 h) (cwV 1 hts gX0_signAt_X6_holdsSecond rfl rfl rfl hd6_holdsSecond ⟨Nat.le_of_ble_eq_true rfl, Nat.le_of_ble_eq_true rfl⟩) (pre_V hK hX hI hA hS (vrC_0_4 hv_this) rfl rfl [.int (iI a0)]) rfl rfl hl.1 rfl (lv_room (Nat.le_of_ble_eq_true rfl)) dX0_signAt_33 ⟨Nat.le_of_ble_eq_true rfl, Nat.le_of_ble_eq_true rfl⟩) hS (fun z9 st10 h H locs hI hS => ?_)
      obtain ⟨g11, h⟩ := h
      refine r_if_eq (tgt := 44) hx hb dX0_signAt_36 (by decide) g11 (fun c12 => ?_) (fun c12 => ?_)
      · replace h := h.1 c12
        refine r_bipush (n := 45) hx hb dX0_signAt_44 rfl ?_
        exact r_cret hx hb hr hlocks hK hI hS (Qp := Q) (by decide) (by decide) h dX0_signAt_46
      · replace h := h.2 c12
        refine r_bipush (n := 118) hx hb dX0_signAt_39 rfl ?_
        refine lv_goto (tgt := 46) hx hb dX0_signAt_41 (by decide) ?_
        exact r_cret hx hb hr hlocks hK hI hS (Qp := Q) (by decide) (by decide) h dX0_signAt_46
    · replace h := h.2 c8
      refine r_bipush (n := 111) hx hb dX0_signAt_25 rfl ?_
      exact r_cret hx hb hr hlocks hK hI hS (Qp := Q) (by decide) (by decide) h dX0_signAt_27
  · replace h := h.2 c4
    refine r_bipush (n := 94) hx hb dX0_signAt_11 rfl ?_
    exact r_cret hx hb hr hlocks hK hI hS (Qp := Q) (by decide) (by decide) h dX0_signAt_13
theorem hd1_liftAll : yX1_liftAll.cls = RX1 ∧ yX1_liftAll.cls ≠ "java/lang/invoke/MethodHandle" ∧ yX1_liftAll.cls ≠ "java/lang/invoke/VarHandle" ∧ (parseMethodDescriptor yX1_liftAll.desc).map (fun d => d.parameters.length) = some 0 := by decide +kernel
set_option maxHeartbeats 4000000 in
set_option maxRecDepth 100000 in
theorem m1_liftAll (l : Launch) (G : WG)  (o : Int) (hv_this : vC 1 o) (Q : St → Prop) (st : St)  (h : f1_liftAll o Q st) : Met l yX1_liftAll wsX1_liftAll ({ frames := 0, cells := 0, slots := 0, locals := 0 }) (PcM vC G st [.ref (G.2.2.1 1 o)]) (QvM vC G Q) 0 0 G.2.2.2.1 := by
  refine Met.ofW (cc := cX1_liftAll) (maxL := 2) (ret := none) (by decide) rfl ?_
  intro p e s m args below meth c s₁ B hml hvv
  obtain ⟨rfl, hA, hI, hK, hX⟩ := hvv
  have hx := B.exec
  have hb := B.bytes
  have hr := B.returns
  have hts := atoms_spec (ws := wsX1_liftAll) B.pre
  have hown : s.vm.findClass RX1 = some m.cls := findClass_of_methodNamed B.named
  have hlocks := B.notSynchronized
  have hS : va_S G.2.2.2.1 s.heap s.heap [] := va_S.rf
  have in1 : ∀ w ∈ wsX10, w ∈ wsX1_liftAll := by decide +kernel
  have lk_9 := hts (.fieldLink RX1 9 "BeamLines$Forces" "pressing" "[I") (by decide +kernel)
  have lk_15 := hts (.fieldLink RX1 15 "BeamLines$Forces" "reactions" "[J") (by decide +kernel)
  have lk_25 := hts (.fieldLink RX1 25 "BeamLines$Forces" "total" "I") (by decide +kernel)
  have hl := lv_entry ([.ref (G.2.2.1 1 o)]) (n := 2) (Nat.le_of_ble_eq_true rfl)
  rw [lg_entry_eq]
  generalize (lg_sl ([.ref (G.2.2.1 1 o)]) ++ List.replicate (2 - (lg_sl ([.ref (G.2.2.1 1 o)])).length) Slot.unset).toArray = ls at hl ⊢
  have hl : lv_has ls 2 [(0, .ref (G.2.2.1 1 o))] := hl
  have L23 : ∀ (n23 : Nat), ∀ (st : St) (v1x23 : Int) (H : Heap) (locs : List Loc) (ls : Array Slot), Iv vC G st H → va_S G.2.2.2.1 s.heap H locs → lv_has ls 2 [(0, .ref (G.2.2.1 1 o)), (1, .int (iI v1x23))] → f1_liftAll_l23 o Q n23 st v1x23 → W p l e (headSpec wsX1_liftAll ({ frames := 0, cells := 0, slots := 0, locals := 0 })).room s m ([.ref (G.2.2.1 1 o)] : List Value).toArray below meth c H locs 0 0 (MQ below (QvM vC G Q) ([.ref (G.2.2.1 1 o)] : List Value).toArray s 0 0 G.2.2.2.1) (F0 m 23 ls []) := by
    intro n23
    induction n23 with
    | zero =>
      intro st v1x23 H locs ls hI hS hl h
      exact h.elim
    | succ n23 ih23 =>
      intro st v1x23 H locs ls hI hS hl h
      unfold f1_liftAll_l23 at h
      refine lv_iload_n hx hb dX1_liftAll_23 rfl (lv_at hl 1 rfl) ?_
      refine r_iconst (n := 5) hx hb dX1_liftAll_24 ?_
      obtain ⟨g7, h⟩ := h
      refine r_icmp_ge (tgt := 41) hx hb dX1_liftAll_25 (by decide) g7 (inI_mk rfl) (fun c8 => ?_) (fun c8 => ?_)
      · replace h := h.1 c8
        refine lv_aload_n hx hb dX1_liftAll_41 rfl (lv_at hl 0 rfl) ?_
        refine r_iconst (n := 0) hx hb dX1_liftAll_42 ?_
        refine pp_1_4 hx hb hts in1 hown hK hI hS hv_this lk_25 dX1_liftAll_43 (fun st9 hst9 H locs hI hS => ?_)
        replace h := h st9 hst9
        exact r_vret hx hb hr hlocks hK hI hS (Qp := Q) h dX1_liftAll_46
      · replace h := h.2 c8
        refine lv_aload_n hx hb dX1_liftAll_28 rfl (lv_at hl 0 rfl) ?_
        refine gg_1_1 hx hb hts in1 hown hK hI hv_this lk_15 dX1_liftAll_29 ?_
        refine lv_iload_n hx hb dX1_liftAll_32 rfl (lv_at hl 1 rfl) ?_
        refine r_lconst (z := 0) hx hb dX1_liftAll_33 rfl ?_
        obtain ⟨g10, g11, h⟩ := h
        refine r_last hx hb hK hI hS (K := 13) (vrC_1_1 hv_this) (fun _ => rfl) (lts_mk rfl) dX1_liftAll_34 g10 g11 (fun st12 hst12 H locs hI hS => ?_)
        replace h := h st12 hst12
        obtain ⟨x13, hx13⟩ : ∃ z : Int, z = v1x23 + 1 := ⟨_, rfl⟩
        replace h := h x13 hx13
        refine lv_iinc (v := iI x13) (lv' := [(1, .int (iI x13)), (0, .ref (G.2.2.1 1 o))]) hx hb dX1_liftAll_35 hl (k := 1) rfl (by rw [hx13]; exact iI_add _ _) (by decide) rfl (fun ls hl => ?_)
        refine lv_goto (tgt := 23) hx hb dX1_liftAll_38 (by decide) ?_
        exact ih23 st12 x13 _ _ ls hI hS (lv_sub hl [1, 0] rfl) h
  have L2 : ∀ (n2 : Nat), ∀ (st : St) (v1x2 : Int) (H : Heap) (locs : List Loc) (ls : Array Slot), Iv vC G st H → va_S G.2.2.2.1 s.heap H locs → lv_has ls 2 [(0, .ref (G.2.2.1 1 o)), (1, .int (iI v1x2))] → f1_liftAll_l2 o Q n2 st v1x2 → W p l e (headSpec wsX1_liftAll ({ frames := 0, cells := 0, slots := 0, locals := 0 })).room s m ([.ref (G.2.2.1 1 o)] : List Value).toArray below meth c H locs 0 0 (MQ below (QvM vC G Q) ([.ref (G.2.2.1 1 o)] : List Value).toArray s 0 0 G.2.2.2.1) (F0 m 2 ls []) := by
    intro n2
    induction n2 with
    | zero =>
      intro st v1x2 H locs ls hI hS hl h
      exact h.elim
    | succ n2 ih2 =>
      intro st v1x2 H locs ls hI hS hl h
      unfold f1_liftAll_l2 at h
      refine lv_iload_n hx hb dX1_liftAll_2 rfl (lv_at hl 1 rfl) ?_
      refine r_bipush (n := 31) hx hb dX1_liftAll_3 rfl ?_
      obtain ⟨g1, h⟩ := h
      refine r_icmp_ge (tgt := 21) hx hb dX1_liftAll_5 (by decide) g1 (inI_mk rfl) (fun c2 => ?_) (fun c2 => ?_)
      · replace h := h.1 c2
        refine r_iconst (n := 0) hx hb dX1_liftAll_21 ?_
        refine lv_istore_n (lv' := [(1, .int (iI 0)), (0, .ref (G.2.2.1 1 o))]) hx hb dX1_liftAll_22 rfl hl (by decide) rfl (fun ls hl => ?_)
        obtain ⟨kk, h⟩ := h
        exact L23 kk st 0 _ _ ls hI hS (lv_sub hl [1, 0] rfl) h
      · replace h := h.2 c2
        refine lv_aload_n hx hb dX1_liftAll_8 rfl (lv_at hl 0 rfl) ?_
        refine gg_1_0 hx hb hts in1 hown hK hI hv_this lk_9 dX1_liftAll_9 ?_
        refine lv_iload_n hx hb dX1_liftAll_12 rfl (lv_at hl 1 rfl) ?_
        refine r_iconst (n := 0) hx hb dX1_liftAll_13 ?_
        obtain ⟨g3, g4, h⟩ := h
        refine r_iast hx hb hK hI hS (K := 12) (vrC_1_0 hv_this) (fun _ => rfl) (lts_mk rfl) dX1_liftAll_14 g3 g4 (fun st5 hst5 H locs hI hS => ?_)
        replace h := h st5 hst5
        obtain ⟨x6, hx6⟩ : ∃ z : Int, z = v1x2 + 1 := ⟨_, rfl⟩
        replace h := h x6 hx6
        refine lv_iinc (v := iI x6) (lv' := [(1, .int (iI x6)), (0, .ref (G.2.2.1 1 o))]) hx hb dX1_liftAll_15 hl (k := 1) rfl (by rw [hx6]; exact iI_add _ _) (by decide) rfl (fun ls hl => ?_)
        refine lv_goto (tgt := 2) hx hb dX1_liftAll_18 (by decide) ?_
        exact ih2 st5 x6 _ _ ls hI hS (lv_sub hl [1, 0] rfl) h
  unfold f1_liftAll at h
  refine r_iconst (n := 0) hx hb dX1_liftAll_0 ?_
  refine lv_istore_n (lv' := [(1, .int (iI 0)), (0, .ref (G.2.2.1 1 o))]) hx hb dX1_liftAll_1 rfl hl (by decide) rfl (fun ls hl => ?_)
  obtain ⟨kk, h⟩ := h
  exact L2 kk st 0 _ _ ls hI hS (lv_sub hl [1, 0] rfl) h
theorem hd1_press : yX1_press.cls = RX1 ∧ yX1_press.cls ≠ "java/lang/invoke/MethodHandle" ∧ yX1_press.cls ≠ "java/lang/invoke/VarHandle" ∧ (parseMethodDescriptor yX1_press.desc).map (fun d => d.parameters.length) = some 3 := by decide +kernel
set_option maxHeartbeats 4000000 in
set_option maxRecDepth 100000 in
theorem m1_press (l : Launch) (G : WG)  (o : Int) (a0 : Int) (hv_this : vC 1 o) (hv_a0 : vC 0 a0) (Q : St → Prop) (st : St) (a1 : Int) (a2 : Int) (h : f1_press o a0 Q st a1 a2) : Met l yX1_press wsX1_press ({ frames := 1, cells := 0, slots := 0, locals := 21 }) (PcM vC G st [.ref (G.2.2.1 1 o), .ref (G.2.2.1 0 a0), .int (iI a1), .int (iI a2)]) (QvM vC G Q) 0 0 G.2.2.2.1 := by
  refine Met.ofW (cc := cX1_press) (maxL := 4) (ret := none) (by decide) rfl ?_
  intro p e s m args below meth c s₁ B hml hvv
  obtain ⟨rfl, hA, hI, hK, hX⟩ := hvv
  have hx := B.exec
  have hb := B.bytes
  have hr := B.returns
  have hts := atoms_spec (ws := wsX1_press) B.pre
  have hown : s.vm.findClass RX1 = some m.cls := findClass_of_methodNamed B.named
  have hlocks := B.notSynchronized
  have hS : va_S G.2.2.2.1 s.heap s.heap [] := va_S.rf
  have in1 : ∀ w ∈ wsX10, w ∈ wsX1_press := by decide +kernel
  have lk_9 := hts (.fieldLink RX1 9 "BeamLines$Forces" "pressing" "[I") (by decide +kernel)
  have lk_25 := hts (.fieldLink RX1 25 "BeamLines$Forces" "total" "I") (by decide +kernel)
  have hl := lv_entry ([.ref (G.2.2.1 1 o), .ref (G.2.2.1 0 a0), .int (iI a1), .int (iI a2)]) (n := 4) (Nat.le_of_ble_eq_true rfl)
  rw [lg_entry_eq]
  generalize (lg_sl ([.ref (G.2.2.1 1 o), .ref (G.2.2.1 0 a0), .int (iI a1), .int (iI a2)]) ++ List.replicate (4 - (lg_sl ([.ref (G.2.2.1 1 o), .ref (G.2.2.1 0 a0), .int (iI a1), .int (iI a2)])).length) Slot.unset).toArray = ls at hl ⊢
  have hl : lv_has ls 4 [(0, .ref (G.2.2.1 1 o)), (1, .ref (G.2.2.1 0 a0)), (2, .int (iI a1)), (3, .int (iI a2))] := hl
  unfold f1_press at h
  refine lv_aload_n hx hb dX1_press_0 rfl (lv_at hl 1 rfl) ?_
  refine lv_iload_n hx hb dX1_press_1 rfl (lv_at hl 3 rfl) ?_
  refine r_calli (va_runV (As := [.int (iI a2)]) (rest := []) ⟨hx, hb, hml, hown, hts⟩ (m0_hasPlace l G a0 hv_a0 _ st a2 h) (cwV 1 hts gX1_press_X0_hasPlace rfl rfl rfl hd0_hasPlace ⟨Nat.le_of_ble_eq_true rfl, Nat.le_of_ble_eq_true rfl⟩) (pre_V hK hX hI hA hS hv_a0 rfl rfl [.int (iI a2)]) rfl rfl hl.1 rfl (lv_room (Nat.le_of_ble_eq_true rfl)) dX1_press_2 ⟨Nat.le_of_ble_eq_true rfl, Nat.le_of_ble_eq_true rfl⟩) hS (fun z1 st2 h H locs hI hS => ?_)
  obtain ⟨g3, h⟩ := h
  refine r_if_eq (tgt := 28) hx hb dX1_press_5 (by decide) g3 (fun c4 => ?_) (fun c4 => ?_)
  · replace h := h.1 c4
    exact r_vret hx hb hr hlocks hK hI hS (Qp := Q) h dX1_press_28
  · replace h := h.2 c4
    refine lv_aload_n hx hb dX1_press_8 rfl (lv_at hl 0 rfl) ?_
    refine gg_1_0 hx hb hts in1 hown hK hI hv_this lk_9 dX1_press_9 ?_
    refine lv_iload_n hx hb dX1_press_12 rfl (lv_at hl 3 rfl) ?_
    refine lv_dup2_11 hx hb dX1_press_13 rfl rfl ?_
    obtain ⟨g5, g6, h⟩ := h
    refine r_iald hx hb hK hI (K := 12) (vrC_1_0 hv_this) rfl (lts_mk rfl) dX1_press_14 g5 g6 ?_
    refine lv_iload_n hx hb dX1_press_15 rfl (lv_at hl 2 rfl) ?_
    refine r_iadd hx hb dX1_press_16 ?_
    obtain ⟨g7, g8, h⟩ := h
    refine r_iast hx hb hK hI hS (K := 12) (vrC_1_0 hv_this) (fun _ => rfl) (lts_mk rfl) dX1_press_17 g7 g8 (fun st9 hst9 H locs hI hS => ?_)
    replace h := h st9 hst9
    refine lv_aload_n hx hb dX1_press_18 rfl (lv_at hl 0 rfl) ?_
    refine lv_dup hx hb dX1_press_19 rfl ?_
    refine gg_1_4 hx hb hts in1 hown hK hI hv_this lk_25 dX1_press_20 ?_
    refine lv_iload_n hx hb dX1_press_23 rfl (lv_at hl 2 rfl) ?_
    refine r_iadd hx hb dX1_press_24 ?_
    refine pp_1_4 hx hb hts in1 hown hK hI hS hv_this lk_25 dX1_press_25 (fun st10 hst10 H locs hI hS => ?_)
    replace h := h st10 hst10
    exact r_vret hx hb hr hlocks hK hI hS (Qp := Q) h dX1_press_28
theorem hd3_at : yX3_at.cls = RX3 ∧ yX3_at.cls ≠ "java/lang/invoke/MethodHandle" ∧ yX3_at.cls ≠ "java/lang/invoke/VarHandle" ∧ (parseMethodDescriptor yX3_at.desc).map (fun d => d.parameters.length) = some 2 := by decide +kernel
set_option maxHeartbeats 4000000 in
set_option maxRecDepth 100000 in
theorem m3_at (l : Launch) (G : WG)  (o : Int) (hv_this : vC 3 o) (Q : Int → St → Prop) (st : St) (a0 : Int) (a1 : Int) (h : f3_at o Q st a0 a1) : Met l yX3_at wsX3_at ({ frames := 0, cells := 0, slots := 0, locals := 0 }) (PcM vC G st [.ref (G.2.2.1 3 o), .int (iI a0), .int (iI a1)]) (QlM vC G Q) 0 0 G.2.2.2.1 := by
  refine Met.ofW (cc := cX3_at) (maxL := 4) (ret := (some .long)) (by decide) rfl ?_
  intro p e s m args below meth c s₁ B hml hvv
  obtain ⟨rfl, hA, hI, hK, hX⟩ := hvv
  have hx := B.exec
  have hb := B.bytes
  have hr := B.returns
  have hts := atoms_spec (ws := wsX3_at) B.pre
  have hown : s.vm.findClass RX3 = some m.cls := findClass_of_methodNamed B.named
  have hlocks := B.notSynchronized
  have hS : va_S G.2.2.2.1 s.heap s.heap [] := va_S.rf
  have in3 : ∀ w ∈ wsX30, w ∈ wsX3_at := by decide +kernel
  have lk_16 := hts (.fieldLink RX3 16 "BeamLines$Lines" "line" "[[J") (by decide +kernel)
  have lk_19 := hts (.fieldLink RX3 19 "BeamLines$Lines" "size" "I") (by decide +kernel)
  have lk_23 := hts (.fieldLink RX3 23 "BeamLines$Lines" "places" "I") (by decide +kernel)
  have hl := lv_entry ([.ref (G.2.2.1 3 o), .int (iI a0), .int (iI a1)]) (n := 4) (Nat.le_of_ble_eq_true rfl)
  rw [lg_entry_eq]
  generalize (lg_sl ([.ref (G.2.2.1 3 o), .int (iI a0), .int (iI a1)]) ++ List.replicate (4 - (lg_sl ([.ref (G.2.2.1 3 o), .int (iI a0), .int (iI a1)])).length) Slot.unset).toArray = ls at hl ⊢
  have hl : lv_has ls 4 [(0, .ref (G.2.2.1 3 o)), (1, .int (iI a0)), (2, .int (iI a1))] := hl
  have J29 : ∀ (st : St) (s0x29 : Int) (H : Heap) (locs : List Loc) (ls : Array Slot), Iv vC G st H → va_S G.2.2.2.1 s.heap H locs → lv_has ls 4 [(0, .ref (G.2.2.1 3 o)), (1, .int (iI a0)), (2, .int (iI a1))] → f3_at_j29 o Q a0 a1 st s0x29 → W p l e (headSpec wsX3_at ({ frames := 0, cells := 0, slots := 0, locals := 0 })).room s m ([.ref (G.2.2.1 3 o), .int (iI a0), .int (iI a1)] : List Value).toArray below meth c H locs 0 0 (MQ below (QlM vC G Q) ([.ref (G.2.2.1 3 o), .int (iI a0), .int (iI a1)] : List Value).toArray s 0 0 G.2.2.2.1) (F0 m 29 ls [.int (iI s0x29)]) := by
    intro st s0x29 H locs ls hI hS hl h
    unfold f3_at_j29 at h
    refine lv_istore_n (lv' := [(3, .int (iI s0x29)), (0, .ref (G.2.2.1 3 o)), (1, .int (iI a0)), (2, .int (iI a1))]) hx hb dX3_at_29 rfl hl (by decide) rfl (fun ls hl => ?_)
    refine lv_iload_n hx hb dX3_at_30 rfl (lv_at hl 0 rfl) ?_
    obtain ⟨g11, h⟩ := h
    refine r_if_eq (tgt := 45) hx hb dX3_at_31 (by decide) g11 (fun c12 => ?_) (fun c12 => ?_)
    · replace h := h.1 c12
      refine r_lconst (z := 0) hx hb dX3_at_45 rfl ?_
      exact r_lret hx hb hr hlocks hK hI hS (Qp := Q) h dX3_at_46
    · replace h := h.2 c12
      refine lv_aload_n hx hb dX3_at_34 rfl (lv_at hl 1 rfl) ?_
      refine gg_3_1 hx hb hts in3 hown hK hI hv_this lk_16 dX3_at_35 ?_
      refine lv_iload_n hx hb dX3_at_38 rfl (lv_at hl 2 rfl) ?_
      obtain ⟨g13, g14, h⟩ := h
      refine r_aaldL hx hb hK hI (K := 19) (vrC_3_1 hv_this) rfl (lts_mk rfl) dX3_at_39 g13 g14 (a := G.2.2.1 20 (5 * o + a0)) (by rw [Int.toNat_of_nonneg g13]) ?_
      refine lv_iload_n hx hb dX3_at_40 rfl (lv_at hl 3 rfl) ?_
      obtain ⟨g15, g16, h⟩ := h
      refine r_lald hx hb hK hI (K := 20) (va_19 (vrC_3_1 hv_this) g13 g14) rfl (lts_mk rfl) dX3_at_41 g15 g16 ?_
      refine lv_goto (tgt := 46) hx hb dX3_at_42 (by decide) ?_
      exact r_lret hx hb hr hlocks hK hI hS (Qp := Q) h dX3_at_46
  have J28 : ∀ (st : St) (H : Heap) (locs : List Loc) (ls : Array Slot), Iv vC G st H → va_S G.2.2.2.1 s.heap H locs → lv_has ls 4 [(0, .ref (G.2.2.1 3 o)), (1, .int (iI a0)), (2, .int (iI a1))] → f3_at_j28 o Q a0 a1 st → W p l e (headSpec wsX3_at ({ frames := 0, cells := 0, slots := 0, locals := 0 })).room s m ([.ref (G.2.2.1 3 o), .int (iI a0), .int (iI a1)] : List Value).toArray below meth c H locs 0 0 (MQ below (QlM vC G Q) ([.ref (G.2.2.1 3 o), .int (iI a0), .int (iI a1)] : List Value).toArray s 0 0 G.2.2.2.1) (F0 m 28 ls []) := by
    intro st H locs ls hI hS hl h
    unfold f3_at_j28 at h
    refine r_iconst (n := 0) hx hb dX3_at_28 ?_
    exact J29 st 0 _ _ ls hI hS (lv_sub hl [0, 1, 2] rfl) h
  unfold f3_at at h
  refine lv_iload_n hx hb dX3_at_0 rfl (lv_at hl 1 rfl) ?_
  obtain ⟨g1, h⟩ := h
  refine r_if_lt (tgt := 28) hx hb dX3_at_1 (by decide) g1 (fun c2 => ?_) (fun c2 => ?_)
  · replace h := h.1 c2
    exact J28 st  _ _ ls hI hS (lv_sub hl [0, 1, 2] rfl) h
  · replace h := h.2 c2
    refine lv_iload_n hx hb dX3_at_4 rfl (lv_at hl 1 rfl) ?_
    refine lv_aload_n hx hb dX3_at_5 rfl (lv_at hl 0 rfl) ?_
    refine gg_3_2 hx hb hts in3 hown hK hI hv_this lk_19 dX3_at_6 ?_
    obtain ⟨g3, h⟩ := h
    obtain ⟨g4, h⟩ := h
    refine r_icmp_ge (tgt := 28) hx hb dX3_at_9 (by decide) g3 g4 (fun c5 => ?_) (fun c5 => ?_)
    · replace h := h.1 c5
      exact J28 st  _ _ ls hI hS (lv_sub hl [0, 1, 2] rfl) h
    · replace h := h.2 c5
      refine lv_iload_n hx hb dX3_at_12 rfl (lv_at hl 2 rfl) ?_
      obtain ⟨g6, h⟩ := h
      refine r_if_lt (tgt := 28) hx hb dX3_at_13 (by decide) g6 (fun c7 => ?_) (fun c7 => ?_)
      · replace h := h.1 c7
        exact J28 st  _ _ ls hI hS (lv_sub hl [0, 1, 2] rfl) h
      · replace h := h.2 c7
        refine lv_iload_n hx hb dX3_at_16 rfl (lv_at hl 2 rfl) ?_
        refine lv_aload_n hx hb dX3_at_17 rfl (lv_at hl 0 rfl) ?_
        refine gg_3_3 hx hb hts in3 hown hK hI hv_this lk_23 dX3_at_18 ?_
        obtain ⟨g8, h⟩ := h
        obtain ⟨g9, h⟩ := h
        refine r_icmp_ge (tgt := 28) hx hb dX3_at_21 (by decide) g8 g9 (fun c10 => ?_) (fun c10 => ?_)
        · replace h := h.1 c10
          exact J28 st  _ _ ls hI hS (lv_sub hl [0, 1, 2] rfl) h
        · replace h := h.2 c10
          refine r_iconst (n := 1) hx hb dX3_at_24 ?_
          refine lv_goto (tgt := 29) hx hb dX3_at_25 (by decide) ?_
          exact J29 st 1 _ _ ls hI hS (lv_sub hl [0, 1, 2] rfl) h
theorem hd1_holdUp : yX1_holdUp.cls = RX1 ∧ yX1_holdUp.cls ≠ "java/lang/invoke/MethodHandle" ∧ yX1_holdUp.cls ≠ "java/lang/invoke/VarHandle" ∧ (parseMethodDescriptor yX1_holdUp.desc).map (fun d => d.parameters.length) = some 2 := by decide +kernel
set_option maxHeartbeats 4000000 in
set_option maxRecDepth 100000 in
theorem m1_holdUp (l : Launch) (G : WG)  (o : Int) (a0 : Int) (hv_this : vC 1 o) (hv_a0 : vC 3 a0) (Q : St → Prop) (st : St) (a1 : Int) (h : f1_holdUp o a0 Q st a1) : Met l yX1_holdUp wsX1_holdUp ({ frames := 1, cells := 0, slots := 0, locals := 23 }) (PcM vC G st [.ref (G.2.2.1 1 o), .ref (G.2.2.1 3 a0), .int (iI a1)]) (QvM vC G Q) 0 0 G.2.2.2.1 := by
  refine Met.ofW (cc := cX1_holdUp) (maxL := 4) (ret := none) (by decide) rfl ?_
  intro p e s m args below meth c s₁ B hml hvv
  obtain ⟨rfl, hA, hI, hK, hX⟩ := hvv
  have hx := B.exec
  have hb := B.bytes
  have hr := B.returns
  have hts := atoms_spec (ws := wsX1_holdUp) B.pre
  have hown : s.vm.findClass RX1 = some m.cls := findClass_of_methodNamed B.named
  have hlocks := B.notSynchronized
  have hS : va_S G.2.2.2.1 s.heap s.heap [] := va_S.rf
  have in1 : ∀ w ∈ wsX10, w ∈ wsX1_holdUp := by decide +kernel
  have lk_9 := hts (.fieldLink RX1 9 "BeamLines$Forces" "pressing" "[I") (by decide +kernel)
  have lk_15 := hts (.fieldLink RX1 15 "BeamLines$Forces" "reactions" "[J") (by decide +kernel)
  have hl := lv_entry ([.ref (G.2.2.1 1 o), .ref (G.2.2.1 3 a0), .int (iI a1)]) (n := 4) (Nat.le_of_ble_eq_true rfl)
  rw [lg_entry_eq]
  generalize (lg_sl ([.ref (G.2.2.1 1 o), .ref (G.2.2.1 3 a0), .int (iI a1)]) ++ List.replicate (4 - (lg_sl ([.ref (G.2.2.1 1 o), .ref (G.2.2.1 3 a0), .int (iI a1)])).length) Slot.unset).toArray = ls at hl ⊢
  have hl : lv_has ls 4 [(0, .ref (G.2.2.1 1 o)), (1, .ref (G.2.2.1 3 a0)), (2, .int (iI a1))] := hl
  have L2 : ∀ (n2 : Nat), ∀ (st : St) (v3x2 : Int) (H : Heap) (locs : List Loc) (ls : Array Slot), Iv vC G st H → va_S G.2.2.2.1 s.heap H locs → lv_has ls 4 [(0, .ref (G.2.2.1 1 o)), (1, .ref (G.2.2.1 3 a0)), (2, .int (iI a1)), (3, .int (iI v3x2))] → f1_holdUp_l2 o a0 Q a1 n2 st v3x2 → W p l e (headSpec wsX1_holdUp ({ frames := 1, cells := 0, slots := 0, locals := 23 })).room s m ([.ref (G.2.2.1 1 o), .ref (G.2.2.1 3 a0), .int (iI a1)] : List Value).toArray below meth c H locs 0 0 (MQ below (QvM vC G Q) ([.ref (G.2.2.1 1 o), .ref (G.2.2.1 3 a0), .int (iI a1)] : List Value).toArray s 0 0 G.2.2.2.1) (F0 m 2 ls []) := by
    intro n2
    induction n2 with
    | zero =>
      intro st v3x2 H locs ls hI hS hl h
      exact h.elim
    | succ n2 ih2 =>
      intro st v3x2 H locs ls hI hS hl h
      unfold f1_holdUp_l2 at h
      refine lv_iload_n hx hb dX1_holdUp_2 rfl (lv_at hl 3 rfl) ?_
      refine r_iconst (n := 5) hx hb dX1_holdUp_3 ?_
      obtain ⟨g1, h⟩ := h
      refine r_icmp_ge (tgt := 36) hx hb dX1_holdUp_4 (by decide) g1 (inI_mk rfl) (fun c2 => ?_) (fun c2 => ?_)
      · replace h := h.1 c2
        exact r_vret hx hb hr hlocks hK hI hS (Qp := Q) h dX1_holdUp_36
      · replace h := h.2 c2
        refine lv_aload_n hx hb dX1_holdUp_7 rfl (lv_at hl 0 rfl) ?_
        refine gg_1_1 hx hb hts in1 hown hK hI hv_this lk_15 dX1_holdUp_8 ?_
        refine lv_iload_n hx hb dX1_holdUp_11 rfl (lv_at hl 3 rfl) ?_
        refine lv_dup2_11 hx hb dX1_holdUp_12 rfl rfl ?_
        obtain ⟨g3, g4, h⟩ := h
        refine r_lald hx hb hK hI (K := 13) (vrC_1_1 hv_this) rfl (lts_mk rfl) dX1_holdUp_13 g3 g4 ?_
        refine lv_aload_n hx hb dX1_holdUp_14 rfl (lv_at hl 0 rfl) ?_
        refine gg_1_0 hx hb hts in1 hown hK hI hv_this lk_9 dX1_holdUp_15 ?_
        refine lv_iload_n hx hb dX1_holdUp_18 rfl (lv_at hl 2 rfl) ?_
        obtain ⟨g5, g6, h⟩ := h
        refine r_iald hx hb hK hI (K := 12) (vrC_1_0 hv_this) rfl (lts_mk rfl) dX1_holdUp_19 g5 g6 ?_
        obtain ⟨g7, h⟩ := h
        refine r_i2l hx hb dX1_holdUp_20 g7 ?_
        refine lv_aload_n hx hb dX1_holdUp_21 rfl (lv_at hl 1 rfl) ?_
        refine lv_iload_n hx hb dX1_holdUp_22 rfl (lv_at hl 3 rfl) ?_
        refine lv_iload_n hx hb dX1_holdUp_23 rfl (lv_at hl 2 rfl) ?_
        refine r_calll (va_runV (As := [.int (iI v3x2), .int (iI a1)]) (rest := [.long (lI (st 12 0 o a1)), .long (lI (st 13 0 o v3x2)), .int (iI v3x2), .ref (G.2.2.1 13 o)]) ⟨hx, hb, hml, hown, hts⟩ (m3_at l G a0 hv_a0 _ st v3x2 a1 h) (cwV 2 hts gX1_holdUp_X3_at rfl rfl rfl hd3_at ⟨Nat.le_of_ble_eq_true rfl, Nat.le_of_ble_eq_true rfl⟩) (pre_V hK hX hI hA hS hv_a0 rfl rfl [.int (iI v3x2), .int (iI a1)]) rfl rfl hl.1 rfl (lv_room (Nat.le_of_ble_eq_true rfl)) dX1_holdUp_24 ⟨Nat.le_of_ble_eq_true rfl, Nat.le_of_ble_eq_true rfl⟩) hS (fun z8 st9 h H locs hI hS => ?_)
        refine r_lmul hx hb dX1_holdUp_27 ?_
        refine r_ladd hx hb dX1_holdUp_28 ?_
        obtain ⟨g10, g11, h⟩ := h
        refine r_last hx hb hK hI hS (K := 13) (vrC_1_1 hv_this) (fun _ => rfl) (lts_mk rfl) dX1_holdUp_29 g10 g11 (fun st12 hst12 H locs hI hS => ?_)
        replace h := h st12 hst12
        obtain ⟨x13, hx13⟩ : ∃ z : Int, z = v3x2 + 1 := ⟨_, rfl⟩
        replace h := h x13 hx13
        refine lv_iinc (v := iI x13) (lv' := [(3, .int (iI x13)), (0, .ref (G.2.2.1 1 o)), (1, .ref (G.2.2.1 3 a0)), (2, .int (iI a1))]) hx hb dX1_holdUp_30 hl (k := 3) rfl (by rw [hx13]; exact iI_add _ _) (by decide) rfl (fun ls hl => ?_)
        refine lv_goto (tgt := 2) hx hb dX1_holdUp_33 (by decide) ?_
        exact ih2 st12 x13 _ _ ls hI hS (lv_sub hl [1, 2, 3, 0] rfl) h
  unfold f1_holdUp at h
  refine r_iconst (n := 0) hx hb dX1_holdUp_0 ?_
  refine lv_istore_n (lv' := [(3, .int (iI 0)), (0, .ref (G.2.2.1 1 o)), (1, .ref (G.2.2.1 3 a0)), (2, .int (iI a1))]) hx hb dX1_holdUp_1 rfl hl (by decide) rfl (fun ls hl => ?_)
  obtain ⟨kk, h⟩ := h
  exact L2 kk st 0 _ _ ls hI hS (lv_sub hl [1, 2, 3, 0] rfl) h
theorem hd1_reactionOf : yX1_reactionOf.cls = RX1 ∧ yX1_reactionOf.cls ≠ "java/lang/invoke/MethodHandle" ∧ yX1_reactionOf.cls ≠ "java/lang/invoke/VarHandle" ∧ (parseMethodDescriptor yX1_reactionOf.desc).map (fun d => d.parameters.length) = some 1 := by decide +kernel
set_option maxHeartbeats 4000000 in
set_option maxRecDepth 100000 in
theorem m1_reactionOf (l : Launch) (G : WG)  (o : Int) (hv_this : vC 1 o) (Q : Int → St → Prop) (st : St) (a0 : Int) (h : f1_reactionOf o Q st a0) : Met l yX1_reactionOf wsX1_reactionOf ({ frames := 0, cells := 0, slots := 0, locals := 0 }) (PcM vC G st [.ref (G.2.2.1 1 o), .int (iI a0)]) (QlM vC G Q) 0 0 G.2.2.2.1 := by
  refine Met.ofW (cc := cX1_reactionOf) (maxL := 2) (ret := (some .long)) (by decide) rfl ?_
  intro p e s m args below meth c s₁ B hml hvv
  obtain ⟨rfl, hA, hI, hK, hX⟩ := hvv
  have hx := B.exec
  have hb := B.bytes
  have hr := B.returns
  have hts := atoms_spec (ws := wsX1_reactionOf) B.pre
  have hown : s.vm.findClass RX1 = some m.cls := findClass_of_methodNamed B.named
  have hlocks := B.notSynchronized
  have hS : va_S G.2.2.2.1 s.heap s.heap [] := va_S.rf
  have in1 : ∀ w ∈ wsX10, w ∈ wsX1_reactionOf := by decide +kernel
  have lk_15 := hts (.fieldLink RX1 15 "BeamLines$Forces" "reactions" "[J") (by decide +kernel)
  have hl := lv_entry ([.ref (G.2.2.1 1 o), .int (iI a0)]) (n := 2) (Nat.le_of_ble_eq_true rfl)
  rw [lg_entry_eq]
  generalize (lg_sl ([.ref (G.2.2.1 1 o), .int (iI a0)]) ++ List.replicate (2 - (lg_sl ([.ref (G.2.2.1 1 o), .int (iI a0)])).length) Slot.unset).toArray = ls at hl ⊢
  have hl : lv_has ls 2 [(0, .ref (G.2.2.1 1 o)), (1, .int (iI a0))] := hl
  unfold f1_reactionOf at h
  refine lv_iload_n hx hb dX1_reactionOf_0 rfl (lv_at hl 1 rfl) ?_
  obtain ⟨g1, h⟩ := h
  refine r_if_lt (tgt := 18) hx hb dX1_reactionOf_1 (by decide) g1 (fun c2 => ?_) (fun c2 => ?_)
  · replace h := h.1 c2
    refine r_lconst (z := 0) hx hb dX1_reactionOf_18 rfl ?_
    exact r_lret hx hb hr hlocks hK hI hS (Qp := Q) h dX1_reactionOf_19
  · replace h := h.2 c2
    refine lv_iload_n hx hb dX1_reactionOf_4 rfl (lv_at hl 1 rfl) ?_
    refine r_iconst (n := 5) hx hb dX1_reactionOf_5 ?_
    obtain ⟨g3, h⟩ := h
    refine r_icmp_ge (tgt := 18) hx hb dX1_reactionOf_6 (by decide) g3 (inI_mk rfl) (fun c4 => ?_) (fun c4 => ?_)
    · replace h := h.1 c4
      refine r_lconst (z := 0) hx hb dX1_reactionOf_18 rfl ?_
      exact r_lret hx hb hr hlocks hK hI hS (Qp := Q) h dX1_reactionOf_19
    · replace h := h.2 c4
      refine lv_aload_n hx hb dX1_reactionOf_9 rfl (lv_at hl 0 rfl) ?_
      refine gg_1_1 hx hb hts in1 hown hK hI hv_this lk_15 dX1_reactionOf_10 ?_
      refine lv_iload_n hx hb dX1_reactionOf_13 rfl (lv_at hl 1 rfl) ?_
      obtain ⟨g5, g6, h⟩ := h
      refine r_lald hx hb hK hI (K := 13) (vrC_1_1 hv_this) rfl (lts_mk rfl) dX1_reactionOf_14 g5 g6 ?_
      refine lv_goto (tgt := 19) hx hb dX1_reactionOf_15 (by decide) ?_
      exact r_lret hx hb hr hlocks hK hI hS (Qp := Q) h dX1_reactionOf_19
theorem hd1_sweep : yX1_sweep.cls = RX1 ∧ yX1_sweep.cls ≠ "java/lang/invoke/MethodHandle" ∧ yX1_sweep.cls ≠ "java/lang/invoke/VarHandle" ∧ (parseMethodDescriptor yX1_sweep.desc).map (fun d => d.parameters.length) = some 2 := by decide +kernel
set_option maxHeartbeats 4000000 in
set_option maxRecDepth 100000 in
theorem m1_sweep (l : Launch) (G : WG)  (o : Int) (a0 : Int) (hv_this : vC 1 o) (hv_a0 : vC 0 a0) (Q : St → Prop) (st : St) (a1 : Int) (h : f1_sweep o a0 Q st a1) : Met l yX1_sweep wsX1_sweep ({ frames := 2, cells := 0, slots := 0, locals := 42 }) (PcM vC G st [.ref (G.2.2.1 1 o), .ref (G.2.2.1 0 a0), .long (lI a1)]) (QvM vC G Q) 0 0 G.2.2.2.1 := by
  refine Met.ofW (cc := cX1_sweep) (maxL := 10) (ret := none) (by decide) rfl ?_
  intro p e s m args below meth c s₁ B hml hvv
  obtain ⟨rfl, hA, hI, hK, hX⟩ := hvv
  have hx := B.exec
  have hb := B.bytes
  have hr := B.returns
  have hts := atoms_spec (ws := wsX1_sweep) B.pre
  have hown : s.vm.findClass RX1 = some m.cls := findClass_of_methodNamed B.named
  have hlocks := B.notSynchronized
  have hS : va_S G.2.2.2.1 s.heap s.heap [] := va_S.rf
  have in0 : ∀ w ∈ wsX00, w ∈ wsX1_sweep := by decide +kernel
  have in1 : ∀ w ∈ wsX10, w ∈ wsX1_sweep := by decide +kernel
  have lk_9 := hts (.fieldLink RX1 9 "BeamLines$Forces" "pressing" "[I") (by decide +kernel)
  have lk_19 := hts (.fieldLink RX1 19 "BeamLines$Forces" "shears" "[J") (by decide +kernel)
  have lk_22 := hts (.fieldLink RX1 22 "BeamLines$Forces" "moments" "[J") (by decide +kernel)
  have lk_83 := hts (.fieldLink RX1 83 "BeamLines$Beam" "supports" "LBeamLines$Row;") (by decide +kernel)
  have lk_95 := hts (.fieldLink RX1 95 "BeamLines$Beam" "length" "I") (by decide +kernel)
  have hl := lv_entry ([.ref (G.2.2.1 1 o), .ref (G.2.2.1 0 a0), .long (lI a1)]) (n := 10) (Nat.le_of_ble_eq_true rfl)
  rw [lg_entry_eq]
  generalize (lg_sl ([.ref (G.2.2.1 1 o), .ref (G.2.2.1 0 a0), .long (lI a1)]) ++ List.replicate (10 - (lg_sl ([.ref (G.2.2.1 1 o), .ref (G.2.2.1 0 a0), .long (lI a1)])).length) Slot.unset).toArray = ls at hl ⊢
  have hl : lv_has ls 10 [(0, .ref (G.2.2.1 1 o)), (1, .ref (G.2.2.1 0 a0)), (2, .long (lI a1))] := hl
  have L12 : ∀ (n12 : Nat), ∀ (st : St) (v4x12 : Int) (v6x12 : Int) (v8x12 : Int) (v9x12 : Int) (H : Heap) (locs : List Loc) (ls : Array Slot), Iv vC G st H → va_S G.2.2.2.1 s.heap H locs → lv_has ls 10 [(0, .ref (G.2.2.1 1 o)), (1, .ref (G.2.2.1 0 a0)), (2, .long (lI a1)), (4, .long (lI v4x12)), (6, .long (lI v6x12)), (8, .int (iI v8x12)), (9, .int (iI v9x12))] → f1_sweep_l12 o a0 Q a1 n12 st v4x12 v6x12 v8x12 v9x12 → W p l e (headSpec wsX1_sweep ({ frames := 2, cells := 0, slots := 0, locals := 42 })).room s m ([.ref (G.2.2.1 1 o), .ref (G.2.2.1 0 a0), .long (lI a1)] : List Value).toArray below meth c H locs 0 0 (MQ below (QvM vC G Q) ([.ref (G.2.2.1 1 o), .ref (G.2.2.1 0 a0), .long (lI a1)] : List Value).toArray s 0 0 G.2.2.2.1) (F0 m 12 ls []) := by
    intro n12
    induction n12 with
    | zero =>
      intro st v4x12 v6x12 v8x12 v9x12 H locs ls hI hS hl h
      exact h.elim
    | succ n12 ih12 =>
      have J68 : ∀ (st : St) (v4x68 : Int) (v6x68 : Int) (v8x68 : Int) (v9x68 : Int) (H : Heap) (locs : List Loc) (ls : Array Slot), Iv vC G st H → va_S G.2.2.2.1 s.heap H locs → lv_has ls 10 [(0, .ref (G.2.2.1 1 o)), (1, .ref (G.2.2.1 0 a0)), (2, .long (lI a1)), (4, .long (lI v4x68)), (6, .long (lI v6x68)), (8, .int (iI v8x68)), (9, .int (iI v9x68))] → f1_sweep_j68 o a0 (fun st v4x12 v6x12 v8x12 v9x12 => f1_sweep_l12 o a0 Q a1 n12 st v4x12 v6x12 v8x12 v9x12) Q a1 st v4x68 v6x68 v8x68 v9x68 → W p l e (headSpec wsX1_sweep ({ frames := 2, cells := 0, slots := 0, locals := 42 })).room s m ([.ref (G.2.2.1 1 o), .ref (G.2.2.1 0 a0), .long (lI a1)] : List Value).toArray below meth c H locs 0 0 (MQ below (QvM vC G Q) ([.ref (G.2.2.1 1 o), .ref (G.2.2.1 0 a0), .long (lI a1)] : List Value).toArray s 0 0 G.2.2.2.1) (F0 m 68 ls []) := by
        intro st v4x68 v6x68 v8x68 v9x68 H locs ls hI hS hl h
        unfold f1_sweep_j68 at h
        refine lv_lload hx hb dX1_sweep_68 (lv_at hl 3 rfl) ?_
        refine lv_aload_n hx hb dX1_sweep_70 rfl (lv_at hl 0 rfl) ?_
        refine gg_1_0 hx hb hts in1 hown hK hI hv_this lk_9 dX1_sweep_71 ?_
        refine lv_iload hx hb dX1_sweep_74 (lv_at hl 6 rfl) ?_
        obtain ⟨g19, g20, h⟩ := h
        refine r_iald hx hb hK hI (K := 12) (vrC_1_0 hv_this) rfl (lts_mk rfl) dX1_sweep_76 g19 g20 ?_
        obtain ⟨g21, h⟩ := h
        refine r_i2l hx hb dX1_sweep_77 g21 ?_
        refine lv_lload_n hx hb dX1_sweep_78 rfl (lv_at hl 2 rfl) ?_
        refine r_lmul hx hb dX1_sweep_79 ?_
        refine r_lsub hx hb dX1_sweep_80 ?_
        refine r_topl (fun x22 hx22 => ?_)
        replace h := h x22 hx22
        refine lv_lstore (lv' := [(4, .long (lI x22)), (0, .ref (G.2.2.1 1 o)), (1, .ref (G.2.2.1 0 a0)), (2, .long (lI a1)), (6, .long (lI v6x68)), (8, .int (iI v8x68)), (9, .int (iI v9x68))]) hx hb dX1_sweep_81 hl (by decide) rfl (fun ls hl => ?_)
        refine lv_aload_n hx hb dX1_sweep_83 rfl (lv_at hl 1 rfl) ?_
        refine gg_1_3 hx hb hts in1 hown hK hI hv_this lk_22 dX1_sweep_84 ?_
        refine lv_iload hx hb dX1_sweep_87 (lv_at hl 6 rfl) ?_
        refine lv_lload hx hb dX1_sweep_89 (lv_at hl 4 rfl) ?_
        obtain ⟨g23, g24, h⟩ := h
        refine r_last hx hb hK hI hS (K := 15) (vrC_1_3 hv_this) (fun _ => rfl) (lts_mk rfl) dX1_sweep_91 g23 g24 (fun st25 hst25 H locs hI hS => ?_)
        replace h := h st25 hst25
        refine lv_aload_n hx hb dX1_sweep_92 rfl (lv_at hl 1 rfl) ?_
        refine gg_1_2 hx hb hts in1 hown hK hI hv_this lk_19 dX1_sweep_93 ?_
        refine lv_iload hx hb dX1_sweep_96 (lv_at hl 6 rfl) ?_
        refine lv_lload hx hb dX1_sweep_98 (lv_at hl 0 rfl) ?_
        obtain ⟨g26, g27, h⟩ := h
        refine r_last hx hb hK hI hS (K := 14) (vrC_1_2 hv_this) (fun _ => rfl) (lts_mk rfl) dX1_sweep_100 g26 g27 (fun st28 hst28 H locs hI hS => ?_)
        replace h := h st28 hst28
        refine lv_lload hx hb dX1_sweep_101 (lv_at hl 4 rfl) ?_
        refine lv_lload hx hb dX1_sweep_103 (lv_at hl 0 rfl) ?_
        refine r_ladd hx hb dX1_sweep_105 ?_
        refine r_topl (fun x29 hx29 => ?_)
        replace h := h x29 hx29
        refine lv_lstore (lv' := [(6, .long (lI x29)), (4, .long (lI x22)), (0, .ref (G.2.2.1 1 o)), (1, .ref (G.2.2.1 0 a0)), (2, .long (lI a1)), (8, .int (iI v8x68)), (9, .int (iI v9x68))]) hx hb dX1_sweep_106 hl (by decide) rfl (fun ls hl => ?_)
        obtain ⟨x30, hx30⟩ : ∃ z : Int, z = v9x68 + 1 := ⟨_, rfl⟩
        replace h := h x30 hx30
        refine lv_iinc (v := iI x30) (lv' := [(9, .int (iI x30)), (6, .long (lI x29)), (4, .long (lI x22)), (0, .ref (G.2.2.1 1 o)), (1, .ref (G.2.2.1 0 a0)), (2, .long (lI a1)), (8, .int (iI v8x68))]) hx hb dX1_sweep_108 hl (k := 6) rfl (by rw [hx30]; exact iI_add _ _) (by decide) rfl (fun ls hl => ?_)
        refine lv_goto (tgt := 12) hx hb dX1_sweep_111 (by decide) ?_
        exact ih12 st28 x22 x29 v8x68 x30 _ _ ls hI hS (lv_sub hl [3, 4, 5, 2, 1, 6, 0] rfl) h
      intro st v4x12 v6x12 v8x12 v9x12 H locs ls hI hS hl h
      unfold f1_sweep_l12 at h
      refine lv_iload hx hb dX1_sweep_12 (lv_at hl 6 rfl) ?_
      refine r_bipush (n := 31) hx hb dX1_sweep_14 rfl ?_
      obtain ⟨g1, h⟩ := h
      refine r_icmp_ge (tgt := 114) hx hb dX1_sweep_16 (by decide) g1 (inI_mk rfl) (fun c2 => ?_) (fun c2 => ?_)
      · replace h := h.1 c2
        exact r_vret hx hb hr hlocks hK hI hS (Qp := Q) h dX1_sweep_114
      · replace h := h.2 c2
        refine lv_iload hx hb dX1_sweep_19 (lv_at hl 6 rfl) ?_
        refine lv_aload_n hx hb dX1_sweep_21 rfl (lv_at hl 1 rfl) ?_
        refine gg_0_0 hx hb hts in0 hown hK hI hv_a0 lk_95 dX1_sweep_22 ?_
        obtain ⟨g3, h⟩ := h
        obtain ⟨g4, h⟩ := h
        refine r_icmp_gt (tgt := 114) hx hb dX1_sweep_25 (by decide) g3 g4 (fun c5 => ?_) (fun c5 => ?_)
        · replace h := h.1 c5
          exact r_vret hx hb hr hlocks hK hI hS (Qp := Q) h dX1_sweep_114
        · replace h := h.2 c5
          refine lv_aload_n hx hb dX1_sweep_28 rfl (lv_at hl 1 rfl) ?_
          refine gg_0_2 hx hb hts in0 hown hK hI hv_a0 lk_83 dX1_sweep_29 ?_
          refine lv_iload hx hb dX1_sweep_32 (lv_at hl 5 rfl) ?_
          refine r_calli (va_runV (As := [.int (iI v8x12)]) (rest := []) ⟨hx, hb, hml, hown, hts⟩ (m6_has l G (4 * a0) (vrC_0_2 hv_a0) _ st v8x12 h) (cwV 1 hts gX1_sweep_X6_has rfl rfl rfl hd6_has ⟨Nat.le_of_ble_eq_true rfl, Nat.le_of_ble_eq_true rfl⟩) (pre_V hK hX hI hA hS (vrC_0_2 hv_a0) rfl rfl [.int (iI v8x12)]) rfl rfl hl.1 rfl (lv_room (Nat.le_of_ble_eq_true rfl)) dX1_sweep_34 ⟨Nat.le_of_ble_eq_true rfl, Nat.le_of_ble_eq_true rfl⟩) hS (fun z6 st7 h H locs hI hS => ?_)
          obtain ⟨g8, h⟩ := h
          refine r_if_eq (tgt := 68) hx hb dX1_sweep_37 (by decide) g8 (fun c9 => ?_) (fun c9 => ?_)
          · replace h := h.1 c9
            exact J68 st7 v4x12 v6x12 v8x12 v9x12 _ _ ls hI hS (lv_sub hl [0, 1, 2, 3, 4, 5, 6] rfl) h
          · replace h := h.2 c9
            refine lv_aload_n hx hb dX1_sweep_40 rfl (lv_at hl 1 rfl) ?_
            refine gg_0_2 hx hb hts in0 hown hK hI hv_a0 lk_83 dX1_sweep_41 ?_
            refine lv_iload hx hb dX1_sweep_44 (lv_at hl 5 rfl) ?_
            refine r_calli (va_runV (As := [.int (iI v8x12)]) (rest := []) ⟨hx, hb, hml, hown, hts⟩ (m6_first l G (4 * a0) (vrC_0_2 hv_a0) _ st7 v8x12 h) (cwV 1 hts gX1_sweep_X6_first rfl rfl rfl hd6_first ⟨Nat.le_of_ble_eq_true rfl, Nat.le_of_ble_eq_true rfl⟩) (pre_V hK hX hI hA hS (vrC_0_2 hv_a0) rfl rfl [.int (iI v8x12)]) rfl rfl hl.1 rfl (lv_room (Nat.le_of_ble_eq_true rfl)) dX1_sweep_46 ⟨Nat.le_of_ble_eq_true rfl, Nat.le_of_ble_eq_true rfl⟩) hS (fun z10 st11 h H locs hI hS => ?_)
            refine lv_iload hx hb dX1_sweep_49 (lv_at hl 6 rfl) ?_
            obtain ⟨g12, h⟩ := h
            obtain ⟨g13, h⟩ := h
            refine r_icmp_ne (tgt := 68) hx hb dX1_sweep_51 (by decide) g12 g13 (fun c14 => ?_) (fun c14 => ?_)
            · replace h := h.2 c14
              exact J68 st11 v4x12 v6x12 v8x12 v9x12 _ _ ls hI hS (lv_sub hl [0, 1, 2, 3, 4, 5, 6] rfl) h
            · replace h := h.1 c14
              refine lv_lload hx hb dX1_sweep_54 (lv_at hl 3 rfl) ?_
              refine lv_aload_n hx hb dX1_sweep_56 rfl (lv_at hl 0 rfl) ?_
              refine lv_iload hx hb dX1_sweep_57 (lv_at hl 5 rfl) ?_
              refine r_calll (va_runV (As := [.int (iI v8x12)]) (rest := [.long (lI v4x12)]) ⟨hx, hb, hml, hown, hts⟩ (m1_reactionOf l G o hv_this _ st11 v8x12 h) (cwV 1 hts gX1_sweep_X1_reactionOf rfl rfl rfl hd1_reactionOf ⟨Nat.le_of_ble_eq_true rfl, Nat.le_of_ble_eq_true rfl⟩) (pre_V hK hX hI hA hS hv_this rfl rfl [.int (iI v8x12)]) rfl rfl hl.1 rfl (lv_room (Nat.le_of_ble_eq_true rfl)) dX1_sweep_59 ⟨Nat.le_of_ble_eq_true rfl, Nat.le_of_ble_eq_true rfl⟩) hS (fun z15 st16 h H locs hI hS => ?_)
              refine r_ladd hx hb dX1_sweep_62 ?_
              refine r_topl (fun x17 hx17 => ?_)
              replace h := h x17 hx17
              refine lv_lstore (lv' := [(4, .long (lI x17)), (0, .ref (G.2.2.1 1 o)), (1, .ref (G.2.2.1 0 a0)), (2, .long (lI a1)), (6, .long (lI v6x12)), (8, .int (iI v8x12)), (9, .int (iI v9x12))]) hx hb dX1_sweep_63 hl (by decide) rfl (fun ls hl => ?_)
              obtain ⟨x18, hx18⟩ : ∃ z : Int, z = v8x12 + 1 := ⟨_, rfl⟩
              replace h := h x18 hx18
              refine lv_iinc (v := iI x18) (lv' := [(8, .int (iI x18)), (4, .long (lI x17)), (0, .ref (G.2.2.1 1 o)), (1, .ref (G.2.2.1 0 a0)), (2, .long (lI a1)), (6, .long (lI v6x12)), (9, .int (iI v9x12))]) hx hb dX1_sweep_65 hl (k := 5) rfl (by rw [hx18]; exact iI_add _ _) (by decide) rfl (fun ls hl => ?_)
              exact J68 st16 x17 v6x12 x18 v9x12 _ _ ls hI hS (lv_sub hl [2, 3, 4, 1, 5, 0, 6] rfl) h
  unfold f1_sweep at h
  refine r_lconst (z := 0) hx hb dX1_sweep_0 rfl ?_
  refine lv_lstore (lv' := [(4, .long (lI 0)), (0, .ref (G.2.2.1 1 o)), (1, .ref (G.2.2.1 0 a0)), (2, .long (lI a1))]) hx hb dX1_sweep_1 hl (by decide) rfl (fun ls hl => ?_)
  refine r_lconst (z := 0) hx hb dX1_sweep_3 rfl ?_
  refine lv_lstore (lv' := [(6, .long (lI 0)), (4, .long (lI 0)), (0, .ref (G.2.2.1 1 o)), (1, .ref (G.2.2.1 0 a0)), (2, .long (lI a1))]) hx hb dX1_sweep_4 hl (by decide) rfl (fun ls hl => ?_)
  refine r_iconst (n := 0) hx hb dX1_sweep_6 ?_
  refine lv_istore (lv' := [(8, .int (iI 0)), (6, .long (lI 0)), (4, .long (lI 0)), (0, .ref (G.2.2.1 1 o)), (1, .ref (G.2.2.1 0 a0)), (2, .long (lI a1))]) hx hb dX1_sweep_7 hl (by decide) rfl (fun ls hl => ?_)
  refine r_iconst (n := 0) hx hb dX1_sweep_9 ?_
  refine lv_istore (lv' := [(9, .int (iI 0)), (8, .int (iI 0)), (6, .long (lI 0)), (4, .long (lI 0)), (0, .ref (G.2.2.1 1 o)), (1, .ref (G.2.2.1 0 a0)), (2, .long (lI a1))]) hx hb dX1_sweep_10 hl (by decide) rfl (fun ls hl => ?_)
  obtain ⟨kk, h⟩ := h
  exact L12 kk st 0 0 0 0 _ _ ls hI hS (lv_sub hl [4, 5, 6, 3, 2, 1, 0] rfl) h
theorem hd1_balance : yX1_balance.cls = RX1 ∧ yX1_balance.cls ≠ "java/lang/invoke/MethodHandle" ∧ yX1_balance.cls ≠ "java/lang/invoke/VarHandle" ∧ (parseMethodDescriptor yX1_balance.desc).map (fun d => d.parameters.length) = some 2 := by decide +kernel
set_option maxHeartbeats 4000000 in
set_option maxRecDepth 100000 in
theorem m1_balance (l : Launch) (G : WG)  (o : Int) (a0 : Int) (a1 : Int) (hv_this : vC 1 o) (hv_a0 : vC 0 a0) (hv_a1 : vC 3 a1) (Q : St → Prop) (st : St)  (h : f1_balance o a0 a1 Q st) : Met l yX1_balance wsX1_balance ({ frames := 3, cells := 0, slots := 0, locals := 71 }) (PcM vC G st [.ref (G.2.2.1 1 o), .ref (G.2.2.1 0 a0), .ref (G.2.2.1 3 a1)]) (QvM vC G Q) 0 0 G.2.2.2.1 := by
  refine Met.ofW (cc := cX1_balance) (maxL := 4) (ret := none) (by decide) rfl ?_
  intro p e s m args below meth c s₁ B hml hvv
  obtain ⟨rfl, hA, hI, hK, hX⟩ := hvv
  have hx := B.exec
  have hb := B.bytes
  have hr := B.returns
  have hts := atoms_spec (ws := wsX1_balance) B.pre
  have hown : s.vm.findClass RX1 = some m.cls := findClass_of_methodNamed B.named
  have hlocks := B.notSynchronized
  have hS : va_S G.2.2.2.1 s.heap s.heap [] := va_S.rf
  have in1 : ∀ w ∈ wsX10, w ∈ wsX1_balance := by decide +kernel
  have in3 : ∀ w ∈ wsX30, w ∈ wsX1_balance := by decide +kernel
  have lk_9 := hts (.fieldLink RX1 9 "BeamLines$Forces" "pressing" "[I") (by decide +kernel)
  have lk_86 := hts (.fieldLink RX1 86 "BeamLines$Lines" "common" "J") (by decide +kernel)
  have hl := lv_entry ([.ref (G.2.2.1 1 o), .ref (G.2.2.1 0 a0), .ref (G.2.2.1 3 a1)]) (n := 4) (Nat.le_of_ble_eq_true rfl)
  rw [lg_entry_eq]
  generalize (lg_sl ([.ref (G.2.2.1 1 o), .ref (G.2.2.1 0 a0), .ref (G.2.2.1 3 a1)]) ++ List.replicate (4 - (lg_sl ([.ref (G.2.2.1 1 o), .ref (G.2.2.1 0 a0), .ref (G.2.2.1 3 a1)])).length) Slot.unset).toArray = ls at hl ⊢
  have hl : lv_has ls 4 [(0, .ref (G.2.2.1 1 o)), (1, .ref (G.2.2.1 0 a0)), (2, .ref (G.2.2.1 3 a1))] := hl
  have L2 : ∀ (n2 : Nat), ∀ (st : St) (v3x2 : Int) (H : Heap) (locs : List Loc) (ls : Array Slot), Iv vC G st H → va_S G.2.2.2.1 s.heap H locs → lv_has ls 4 [(0, .ref (G.2.2.1 1 o)), (1, .ref (G.2.2.1 0 a0)), (2, .ref (G.2.2.1 3 a1)), (3, .int (iI v3x2))] → f1_balance_l2 o a0 a1 Q n2 st v3x2 → W p l e (headSpec wsX1_balance ({ frames := 3, cells := 0, slots := 0, locals := 71 })).room s m ([.ref (G.2.2.1 1 o), .ref (G.2.2.1 0 a0), .ref (G.2.2.1 3 a1)] : List Value).toArray below meth c H locs 0 0 (MQ below (QvM vC G Q) ([.ref (G.2.2.1 1 o), .ref (G.2.2.1 0 a0), .ref (G.2.2.1 3 a1)] : List Value).toArray s 0 0 G.2.2.2.1) (F0 m 2 ls []) := by
    intro n2
    induction n2 with
    | zero =>
      intro st v3x2 H locs ls hI hS hl h
      exact h.elim
    | succ n2 ih2 =>
      have J23 : ∀ (st : St) (v3x23 : Int) (H : Heap) (locs : List Loc) (ls : Array Slot), Iv vC G st H → va_S G.2.2.2.1 s.heap H locs → lv_has ls 4 [(0, .ref (G.2.2.1 1 o)), (1, .ref (G.2.2.1 0 a0)), (2, .ref (G.2.2.1 3 a1)), (3, .int (iI v3x23))] → f1_balance_j23 o a0 a1 (fun st v3x2 => f1_balance_l2 o a0 a1 Q n2 st v3x2) Q st v3x23 → W p l e (headSpec wsX1_balance ({ frames := 3, cells := 0, slots := 0, locals := 71 })).room s m ([.ref (G.2.2.1 1 o), .ref (G.2.2.1 0 a0), .ref (G.2.2.1 3 a1)] : List Value).toArray below meth c H locs 0 0 (MQ below (QvM vC G Q) ([.ref (G.2.2.1 1 o), .ref (G.2.2.1 0 a0), .ref (G.2.2.1 3 a1)] : List Value).toArray s 0 0 G.2.2.2.1) (F0 m 23 ls []) := by
        intro st v3x23 H locs ls hI hS hl h
        unfold f1_balance_j23 at h
        obtain ⟨x11, hx11⟩ : ∃ z : Int, z = v3x23 + 1 := ⟨_, rfl⟩
        replace h := h x11 hx11
        refine lv_iinc (v := iI x11) (lv' := [(3, .int (iI x11)), (0, .ref (G.2.2.1 1 o)), (1, .ref (G.2.2.1 0 a0)), (2, .ref (G.2.2.1 3 a1))]) hx hb dX1_balance_23 hl (k := 3) rfl (by rw [hx11]; exact iI_add _ _) (by decide) rfl (fun ls hl => ?_)
        refine lv_goto (tgt := 2) hx hb dX1_balance_26 (by decide) ?_
        exact ih2 st x11 _ _ ls hI hS (lv_sub hl [1, 2, 3, 0] rfl) h
      intro st v3x2 H locs ls hI hS hl h
      unfold f1_balance_l2 at h
      refine lv_iload_n hx hb dX1_balance_2 rfl (lv_at hl 3 rfl) ?_
      refine r_bipush (n := 31) hx hb dX1_balance_3 rfl ?_
      obtain ⟨g1, h⟩ := h
      refine r_icmp_ge (tgt := 29) hx hb dX1_balance_5 (by decide) g1 (inI_mk rfl) (fun c2 => ?_) (fun c2 => ?_)
      · replace h := h.1 c2
        refine lv_aload_n hx hb dX1_balance_29 rfl (lv_at hl 0 rfl) ?_
        refine lv_aload_n hx hb dX1_balance_30 rfl (lv_at hl 1 rfl) ?_
        refine lv_aload_n hx hb dX1_balance_31 rfl (lv_at hl 2 rfl) ?_
        refine gg_3_4 hx hb hts in3 hown hK hI hv_a1 lk_86 dX1_balance_32 ?_
        refine r_callv (va_runV (As := [.ref (G.2.2.1 0 a0), .long (lI (st 3 4 a1 0))]) (rest := []) ⟨hx, hb, hml, hown, hts⟩ (m1_sweep l G o a0 hv_this hv_a0 _ st (st 3 4 a1 0) h) (cwV 2 hts gX1_balance_X1_sweep rfl rfl rfl hd1_sweep ⟨Nat.le_of_ble_eq_true rfl, Nat.le_of_ble_eq_true rfl⟩) (pre_V hK hX hI hA hS hv_this rfl rfl [.ref (G.2.2.1 0 a0), .long (lI (st 3 4 a1 0))]) rfl rfl hl.1 rfl (lv_room (Nat.le_of_ble_eq_true rfl)) dX1_balance_35 ⟨Nat.le_of_ble_eq_true rfl, Nat.le_of_ble_eq_true rfl⟩) hS (fun st4 h H locs hI hS => ?_)
        exact r_vret hx hb hr hlocks hK hI hS (Qp := Q) h dX1_balance_38
      · replace h := h.2 c2
        refine lv_aload_n hx hb dX1_balance_8 rfl (lv_at hl 0 rfl) ?_
        refine gg_1_0 hx hb hts in1 hown hK hI hv_this lk_9 dX1_balance_9 ?_
        refine lv_iload_n hx hb dX1_balance_12 rfl (lv_at hl 3 rfl) ?_
        obtain ⟨g5, g6, h⟩ := h
        refine r_iald hx hb hK hI (K := 12) (vrC_1_0 hv_this) rfl (lts_mk rfl) dX1_balance_13 g5 g6 ?_
        obtain ⟨g7, h⟩ := h
        refine r_if_eq (tgt := 23) hx hb dX1_balance_14 (by decide) g7 (fun c8 => ?_) (fun c8 => ?_)
        · replace h := h.1 c8
          exact J23 st v3x2 _ _ ls hI hS (lv_sub hl [0, 1, 2, 3] rfl) h
        · replace h := h.2 c8
          refine lv_aload_n hx hb dX1_balance_17 rfl (lv_at hl 0 rfl) ?_
          refine lv_aload_n hx hb dX1_balance_18 rfl (lv_at hl 2 rfl) ?_
          refine lv_iload_n hx hb dX1_balance_19 rfl (lv_at hl 3 rfl) ?_
          refine r_callv (va_runV (As := [.ref (G.2.2.1 3 a1), .int (iI v3x2)]) (rest := []) ⟨hx, hb, hml, hown, hts⟩ (m1_holdUp l G o a1 hv_this hv_a1 _ st v3x2 h) (cwV 2 hts gX1_balance_X1_holdUp rfl rfl rfl hd1_holdUp ⟨Nat.le_of_ble_eq_true rfl, Nat.le_of_ble_eq_true rfl⟩) (pre_V hK hX hI hA hS hv_this rfl rfl [.ref (G.2.2.1 3 a1), .int (iI v3x2)]) rfl rfl hl.1 rfl (lv_room (Nat.le_of_ble_eq_true rfl)) dX1_balance_20 ⟨Nat.le_of_ble_eq_true rfl, Nat.le_of_ble_eq_true rfl⟩) hS (fun st10 h H locs hI hS => ?_)
          exact J23 st10 v3x2 _ _ ls hI hS (lv_sub hl [0, 1, 2, 3] rfl) h
  unfold f1_balance at h
  refine r_iconst (n := 0) hx hb dX1_balance_0 ?_
  refine lv_istore_n (lv' := [(3, .int (iI 0)), (0, .ref (G.2.2.1 1 o)), (1, .ref (G.2.2.1 0 a0)), (2, .ref (G.2.2.1 3 a1))]) hx hb dX1_balance_1 rfl hl (by decide) rfl (fun ls hl => ?_)
  obtain ⟨kk, h⟩ := h
  exact L2 kk st 0 _ _ ls hI hS (lv_sub hl [1, 2, 3, 0] rfl) h
theorem hd1_underOne : yX1_underOne.cls = RX1 ∧ yX1_underOne.cls ≠ "java/lang/invoke/MethodHandle" ∧ yX1_underOne.cls ≠ "java/lang/invoke/VarHandle" ∧ (parseMethodDescriptor yX1_underOne.desc).map (fun d => d.parameters.length) = some 3 := by decide +kernel
set_option maxHeartbeats 4000000 in
set_option maxRecDepth 100000 in
theorem m1_underOne (l : Launch) (G : WG)  (o : Int) (a0 : Int) (a1 : Int) (hv_this : vC 1 o) (hv_a0 : vC 0 a0) (hv_a1 : vC 3 a1) (Q : St → Prop) (st : St) (a2 : Int) (h : f1_underOne o a0 a1 Q st a2) : Met l yX1_underOne wsX1_underOne ({ frames := 4, cells := 0, slots := 0, locals := 94 }) (PcM vC G st [.ref (G.2.2.1 1 o), .ref (G.2.2.1 0 a0), .ref (G.2.2.1 3 a1), .int (iI a2)]) (QvM vC G Q) 0 0 G.2.2.2.1 := by
  refine Met.ofW (cc := cX1_underOne) (maxL := 4) (ret := none) (by decide) rfl ?_
  intro p e s m args below meth c s₁ B hml hvv
  obtain ⟨rfl, hA, hI, hK, hX⟩ := hvv
  have hx := B.exec
  have hb := B.bytes
  have hr := B.returns
  have hts := atoms_spec (ws := wsX1_underOne) B.pre
  have hown : s.vm.findClass RX1 = some m.cls := findClass_of_methodNamed B.named
  have hlocks := B.notSynchronized
  have hS : va_S G.2.2.2.1 s.heap s.heap [] := va_S.rf
  have hl := lv_entry ([.ref (G.2.2.1 1 o), .ref (G.2.2.1 0 a0), .ref (G.2.2.1 3 a1), .int (iI a2)]) (n := 4) (Nat.le_of_ble_eq_true rfl)
  rw [lg_entry_eq]
  generalize (lg_sl ([.ref (G.2.2.1 1 o), .ref (G.2.2.1 0 a0), .ref (G.2.2.1 3 a1), .int (iI a2)]) ++ List.replicate (4 - (lg_sl ([.ref (G.2.2.1 1 o), .ref (G.2.2.1 0 a0), .ref (G.2.2.1 3 a1), .int (iI a2)])).length) Slot.unset).toArray = ls at hl ⊢
  have hl : lv_has ls 4 [(0, .ref (G.2.2.1 1 o)), (1, .ref (G.2.2.1 0 a0)), (2, .ref (G.2.2.1 3 a1)), (3, .int (iI a2))] := hl
  unfold f1_underOne at h
  refine lv_aload_n hx hb dX1_underOne_0 rfl (lv_at hl 0 rfl) ?_
  refine r_callv (va_runV (As := []) (rest := []) ⟨hx, hb, hml, hown, hts⟩ (m1_liftAll l G o hv_this _ st h) (cwV 0 hts gX1_underOne_X1_liftAll rfl rfl rfl hd1_liftAll ⟨Nat.le_of_ble_eq_true rfl, Nat.le_of_ble_eq_true rfl⟩) (pre_V hK hX hI hA hS hv_this rfl rfl []) rfl rfl hl.1 rfl (lv_room (Nat.le_of_ble_eq_true rfl)) dX1_underOne_1 ⟨Nat.le_of_ble_eq_true rfl, Nat.le_of_ble_eq_true rfl⟩) hS (fun st2 h H locs hI hS => ?_)
  refine lv_aload_n hx hb dX1_underOne_4 rfl (lv_at hl 0 rfl) ?_
  refine lv_aload_n hx hb dX1_underOne_5 rfl (lv_at hl 1 rfl) ?_
  refine r_iconst (n := 1) hx hb dX1_underOne_6 ?_
  refine lv_iload_n hx hb dX1_underOne_7 rfl (lv_at hl 3 rfl) ?_
  refine r_callv (va_runV (As := [.ref (G.2.2.1 0 a0), .int (iI 1), .int (iI a2)]) (rest := []) ⟨hx, hb, hml, hown, hts⟩ (m1_press l G o a0 hv_this hv_a0 _ st2 1 a2 h) (cwV 3 hts gX1_underOne_X1_press rfl rfl rfl hd1_press ⟨Nat.le_of_ble_eq_true rfl, Nat.le_of_ble_eq_true rfl⟩) (pre_V hK hX hI hA hS hv_this rfl rfl [.ref (G.2.2.1 0 a0), .int (iI 1), .int (iI a2)]) rfl rfl hl.1 rfl (lv_room (Nat.le_of_ble_eq_true rfl)) dX1_underOne_8 ⟨Nat.le_of_ble_eq_true rfl, Nat.le_of_ble_eq_true rfl⟩) hS (fun st4 h H locs hI hS => ?_)
  refine lv_aload_n hx hb dX1_underOne_11 rfl (lv_at hl 0 rfl) ?_
  refine lv_aload_n hx hb dX1_underOne_12 rfl (lv_at hl 1 rfl) ?_
  refine lv_aload_n hx hb dX1_underOne_13 rfl (lv_at hl 2 rfl) ?_
  refine r_callv (va_runV (As := [.ref (G.2.2.1 0 a0), .ref (G.2.2.1 3 a1)]) (rest := []) ⟨hx, hb, hml, hown, hts⟩ (m1_balance l G o a0 a1 hv_this hv_a0 hv_a1 _ st4 h) (cwV 2 hts gX1_underOne_X1_balance rfl rfl rfl hd1_balance ⟨Nat.le_of_ble_eq_true rfl, Nat.le_of_ble_eq_true rfl⟩) (pre_V hK hX hI hA hS hv_this rfl rfl [.ref (G.2.2.1 0 a0), .ref (G.2.2.1 3 a1)]) rfl rfl hl.1 rfl (lv_room (Nat.le_of_ble_eq_true rfl)) dX1_underOne_14 ⟨Nat.le_of_ble_eq_true rfl, Nat.le_of_ble_eq_true rfl⟩) hS (fun st6 h H locs hI hS => ?_)
  exact r_vret hx hb hr hlocks hK hI hS (Qp := Q) h dX1_underOne_17
theorem hd1_pressAxles : yX1_pressAxles.cls = RX1 ∧ yX1_pressAxles.cls ≠ "java/lang/invoke/MethodHandle" ∧ yX1_pressAxles.cls ≠ "java/lang/invoke/VarHandle" ∧ (parseMethodDescriptor yX1_pressAxles.desc).map (fun d => d.parameters.length) = some 2 := by decide +kernel
set_option maxHeartbeats 4000000 in
set_option maxRecDepth 100000 in
theorem m1_pressAxles (l : Launch) (G : WG)  (o : Int) (a0 : Int) (hv_this : vC 1 o) (hv_a0 : vC 0 a0) (Q : St → Prop) (st : St) (a1 : Int) (h : f1_pressAxles o a0 Q st a1) : Met l yX1_pressAxles wsX1_pressAxles ({ frames := 2, cells := 0, slots := 0, locals := 44 }) (PcM vC G st [.ref (G.2.2.1 1 o), .ref (G.2.2.1 0 a0), .int (iI a1)]) (QvM vC G Q) 0 0 G.2.2.2.1 := by
  refine Met.ofW (cc := cX1_pressAxles) (maxL := 4) (ret := none) (by decide) rfl ?_
  intro p e s m args below meth c s₁ B hml hvv
  obtain ⟨rfl, hA, hI, hK, hX⟩ := hvv
  have hx := B.exec
  have hb := B.bytes
  have hr := B.returns
  have hts := atoms_spec (ws := wsX1_pressAxles) B.pre
  have hown : s.vm.findClass RX1 = some m.cls := findClass_of_methodNamed B.named
  have hlocks := B.notSynchronized
  have hS : va_S G.2.2.2.1 s.heap s.heap [] := va_S.rf
  have in0 : ∀ w ∈ wsX00, w ∈ wsX1_pressAxles := by decide +kernel
  have in6 : ∀ w ∈ wsX60, w ∈ wsX1_pressAxles := by decide +kernel
  have lk_46 := hts (.fieldLink RX1 46 "BeamLines$Row" "size" "I") (by decide +kernel)
  have lk_108 := hts (.fieldLink RX1 108 "BeamLines$Beam" "axles" "LBeamLines$Row;") (by decide +kernel)
  have hl := lv_entry ([.ref (G.2.2.1 1 o), .ref (G.2.2.1 0 a0), .int (iI a1)]) (n := 4) (Nat.le_of_ble_eq_true rfl)
  rw [lg_entry_eq]
  generalize (lg_sl ([.ref (G.2.2.1 1 o), .ref (G.2.2.1 0 a0), .int (iI a1)]) ++ List.replicate (4 - (lg_sl ([.ref (G.2.2.1 1 o), .ref (G.2.2.1 0 a0), .int (iI a1)])).length) Slot.unset).toArray = ls at hl ⊢
  have hl : lv_has ls 4 [(0, .ref (G.2.2.1 1 o)), (1, .ref (G.2.2.1 0 a0)), (2, .int (iI a1))] := hl
  have L2 : ∀ (n2 : Nat), ∀ (st : St) (v3x2 : Int) (H : Heap) (locs : List Loc) (ls : Array Slot), Iv vC G st H → va_S G.2.2.2.1 s.heap H locs → lv_has ls 4 [(0, .ref (G.2.2.1 1 o)), (1, .ref (G.2.2.1 0 a0)), (2, .int (iI a1)), (3, .int (iI v3x2))] → f1_pressAxles_l2 o a0 Q a1 n2 st v3x2 → W p l e (headSpec wsX1_pressAxles ({ frames := 2, cells := 0, slots := 0, locals := 44 })).room s m ([.ref (G.2.2.1 1 o), .ref (G.2.2.1 0 a0), .int (iI a1)] : List Value).toArray below meth c H locs 0 0 (MQ below (QvM vC G Q) ([.ref (G.2.2.1 1 o), .ref (G.2.2.1 0 a0), .int (iI a1)] : List Value).toArray s 0 0 G.2.2.2.1) (F0 m 2 ls []) := by
    intro n2
    induction n2 with
    | zero =>
      intro st v3x2 H locs ls hI hS hl h
      exact h.elim
    | succ n2 ih2 =>
      intro st v3x2 H locs ls hI hS hl h
      unfold f1_pressAxles_l2 at h
      refine lv_iload_n hx hb dX1_pressAxles_2 rfl (lv_at hl 3 rfl) ?_
      refine lv_aload_n hx hb dX1_pressAxles_3 rfl (lv_at hl 1 rfl) ?_
      refine gg_0_5 hx hb hts in0 hown hK hI hv_a0 lk_108 dX1_pressAxles_4 ?_
      refine gg_6_2 hx hb hts in6 hown hK hI (vrC_0_5 hv_a0) lk_46 dX1_pressAxles_7 ?_
      obtain ⟨g1, h⟩ := h
      obtain ⟨g2, h⟩ := h
      refine r_icmp_ge (tgt := 42) hx hb dX1_pressAxles_10 (by decide) g1 g2 (fun c3 => ?_) (fun c3 => ?_)
      · replace h := h.1 c3
        exact r_vret hx hb hr hlocks hK hI hS (Qp := Q) h dX1_pressAxles_42
      · replace h := h.2 c3
        refine lv_aload_n hx hb dX1_pressAxles_13 rfl (lv_at hl 0 rfl) ?_
        refine lv_aload_n hx hb dX1_pressAxles_14 rfl (lv_at hl 1 rfl) ?_
        refine lv_aload_n hx hb dX1_pressAxles_15 rfl (lv_at hl 1 rfl) ?_
        refine gg_0_5 hx hb hts in0 hown hK hI hv_a0 lk_108 dX1_pressAxles_16 ?_
        refine lv_iload_n hx hb dX1_pressAxles_19 rfl (lv_at hl 3 rfl) ?_
        refine r_calli (va_runV (As := [.int (iI v3x2)]) (rest := [.ref (G.2.2.1 0 a0), .ref (G.2.2.1 1 o)]) ⟨hx, hb, hml, hown, hts⟩ (m6_first l G (4 * a0 + 3) (vrC_0_5 hv_a0) _ st v3x2 h) (cwV 1 hts gX1_pressAxles_X6_first rfl rfl rfl hd6_first ⟨Nat.le_of_ble_eq_true rfl, Nat.le_of_ble_eq_true rfl⟩) (pre_V hK hX hI hA hS (vrC_0_5 hv_a0) rfl rfl [.int (iI v3x2)]) rfl rfl hl.1 rfl (lv_room (Nat.le_of_ble_eq_true rfl)) dX1_pressAxles_20 ⟨Nat.le_of_ble_eq_true rfl, Nat.le_of_ble_eq_true rfl⟩) hS (fun z4 st5 h H locs hI hS => ?_)
        refine lv_iload_n hx hb dX1_pressAxles_23 rfl (lv_at hl 2 rfl) ?_
        refine lv_aload_n hx hb dX1_pressAxles_24 rfl (lv_at hl 1 rfl) ?_
        refine gg_0_5 hx hb hts in0 hown hK hI hv_a0 lk_108 dX1_pressAxles_25 ?_
        refine lv_iload_n hx hb dX1_pressAxles_28 rfl (lv_at hl 3 rfl) ?_
        refine r_calli (va_runV (As := [.int (iI v3x2)]) (rest := [.int (iI a1), .int (iI z4), .ref (G.2.2.1 0 a0), .ref (G.2.2.1 1 o)]) ⟨hx, hb, hml, hown, hts⟩ (m6_second l G (4 * a0 + 3) (vrC_0_5 hv_a0) _ st5 v3x2 h) (cwV 1 hts gX1_pressAxles_X6_second rfl rfl rfl hd6_second ⟨Nat.le_of_ble_eq_true rfl, Nat.le_of_ble_eq_true rfl⟩) (pre_V hK hX hI hA hS (vrC_0_5 hv_a0) rfl rfl [.int (iI v3x2)]) rfl rfl hl.1 rfl (lv_room (Nat.le_of_ble_eq_true rfl)) dX1_pressAxles_29 ⟨Nat.le_of_ble_eq_true rfl, Nat.le_of_ble_eq_true rfl⟩) hS (fun z6 st7 h H locs hI hS => ?_)
        refine r_isub hx hb dX1_pressAxles_32 ?_
        refine r_callv (va_runV (As := [.ref (G.2.2.1 0 a0), .int (iI z4), .int (iI (a1 - z6))]) (rest := []) ⟨hx, hb, hml, hown, hts⟩ (m1_press l G o a0 hv_this hv_a0 _ st7 z4 (a1 - z6) h) (cwV 3 hts gX1_pressAxles_X1_press rfl rfl rfl hd1_press ⟨Nat.le_of_ble_eq_true rfl, Nat.le_of_ble_eq_true rfl⟩) (pre_V hK hX hI hA hS hv_this rfl rfl [.ref (G.2.2.1 0 a0), .int (iI z4), .int (iI (a1 - z6))]) rfl rfl hl.1 rfl (lv_room (Nat.le_of_ble_eq_true rfl)) dX1_pressAxles_33 ⟨Nat.le_of_ble_eq_true rfl, Nat.le_of_ble_eq_true rfl⟩) hS (fun st9 h H locs hI hS => ?_)
        obtain ⟨x10, hx10⟩ : ∃ z : Int, z = v3x2 + 1 := ⟨_, rfl⟩
        replace h := h x10 hx10
        refine lv_iinc (v := iI x10) (lv' := [(3, .int (iI x10)), (0, .ref (G.2.2.1 1 o)), (1, .ref (G.2.2.1 0 a0)), (2, .int (iI a1))]) hx hb dX1_pressAxles_36 hl (k := 3) rfl (by rw [hx10]; exact iI_add _ _) (by decide) rfl (fun ls hl => ?_)
        refine lv_goto (tgt := 2) hx hb dX1_pressAxles_39 (by decide) ?_
        exact ih2 st9 x10 _ _ ls hI hS (lv_sub hl [1, 2, 3, 0] rfl) h
  unfold f1_pressAxles at h
  refine r_iconst (n := 0) hx hb dX1_pressAxles_0 ?_
  refine lv_istore_n (lv' := [(3, .int (iI 0)), (0, .ref (G.2.2.1 1 o)), (1, .ref (G.2.2.1 0 a0)), (2, .int (iI a1))]) hx hb dX1_pressAxles_1 rfl hl (by decide) rfl (fun ls hl => ?_)
  obtain ⟨kk, h⟩ := h
  exact L2 kk st 0 _ _ ls hI hS (lv_sub hl [1, 2, 3, 0] rfl) h
theorem hd1_underAll : yX1_underAll.cls = RX1 ∧ yX1_underAll.cls ≠ "java/lang/invoke/MethodHandle" ∧ yX1_underAll.cls ≠ "java/lang/invoke/VarHandle" ∧ (parseMethodDescriptor yX1_underAll.desc).map (fun d => d.parameters.length) = some 3 := by decide +kernel
set_option maxHeartbeats 4000000 in
set_option maxRecDepth 100000 in
theorem m1_underAll (l : Launch) (G : WG)  (o : Int) (a0 : Int) (a1 : Int) (hv_this : vC 1 o) (hv_a0 : vC 0 a0) (hv_a1 : vC 3 a1) (Q : St → Prop) (st : St) (a2 : Int) (h : f1_underAll o a0 a1 Q st a2) : Met l yX1_underAll wsX1_underAll ({ frames := 4, cells := 0, slots := 0, locals := 94 }) (PcM vC G st [.ref (G.2.2.1 1 o), .ref (G.2.2.1 0 a0), .ref (G.2.2.1 3 a1), .int (iI a2)]) (QvM vC G Q) 0 0 G.2.2.2.1 := by
  refine Met.ofW (cc := cX1_underAll) (maxL := 5) (ret := none) (by decide) rfl ?_
  intro p e s m args below meth c s₁ B hml hvv
  obtain ⟨rfl, hA, hI, hK, hX⟩ := hvv
  have hx := B.exec
  have hb := B.bytes
  have hr := B.returns
  have hts := atoms_spec (ws := wsX1_underAll) B.pre
  have hown : s.vm.findClass RX1 = some m.cls := findClass_of_methodNamed B.named
  have hlocks := B.notSynchronized
  have hS : va_S G.2.2.2.1 s.heap s.heap [] := va_S.rf
  have in0 : ∀ w ∈ wsX00, w ∈ wsX1_underAll := by decide +kernel
  have in6 : ∀ w ∈ wsX60, w ∈ wsX1_underAll := by decide +kernel
  have lk_40 := hts (.fieldLink RX1 40 "BeamLines$Beam" "loads" "LBeamLines$Row;") (by decide +kernel)
  have lk_46 := hts (.fieldLink RX1 46 "BeamLines$Row" "size" "I") (by decide +kernel)
  have hl := lv_entry ([.ref (G.2.2.1 1 o), .ref (G.2.2.1 0 a0), .ref (G.2.2.1 3 a1), .int (iI a2)]) (n := 5) (Nat.le_of_ble_eq_true rfl)
  rw [lg_entry_eq]
  generalize (lg_sl ([.ref (G.2.2.1 1 o), .ref (G.2.2.1 0 a0), .ref (G.2.2.1 3 a1), .int (iI a2)]) ++ List.replicate (5 - (lg_sl ([.ref (G.2.2.1 1 o), .ref (G.2.2.1 0 a0), .ref (G.2.2.1 3 a1), .int (iI a2)])).length) Slot.unset).toArray = ls at hl ⊢
  have hl : lv_has ls 5 [(0, .ref (G.2.2.1 1 o)), (1, .ref (G.2.2.1 0 a0)), (2, .ref (G.2.2.1 3 a1)), (3, .int (iI a2))] := hl
  have J59 : ∀ (st : St) (H : Heap) (locs : List Loc) (ls : Array Slot), Iv vC G st H → va_S G.2.2.2.1 s.heap H locs → lv_has ls 5 [(0, .ref (G.2.2.1 1 o)), (1, .ref (G.2.2.1 0 a0)), (2, .ref (G.2.2.1 3 a1))] → f1_underAll_j59 o a0 a1 Q st → W p l e (headSpec wsX1_underAll ({ frames := 4, cells := 0, slots := 0, locals := 94 })).room s m ([.ref (G.2.2.1 1 o), .ref (G.2.2.1 0 a0), .ref (G.2.2.1 3 a1), .int (iI a2)] : List Value).toArray below meth c H locs 0 0 (MQ below (QvM vC G Q) ([.ref (G.2.2.1 1 o), .ref (G.2.2.1 0 a0), .ref (G.2.2.1 3 a1), .int (iI a2)] : List Value).toArray s 0 0 G.2.2.2.1) (F0 m 59 ls []) := by
    intro st H locs ls hI hS hl h
    unfold f1_underAll_j59 at h
    refine lv_aload_n hx hb dX1_underAll_59 rfl (lv_at hl 0 rfl) ?_
    refine lv_aload_n hx hb dX1_underAll_60 rfl (lv_at hl 1 rfl) ?_
    refine lv_aload_n hx hb dX1_underAll_61 rfl (lv_at hl 2 rfl) ?_
    refine r_callv (va_runV (As := [.ref (G.2.2.1 0 a0), .ref (G.2.2.1 3 a1)]) (rest := []) ⟨hx, hb, hml, hown, hts⟩ (m1_balance l G o a0 a1 hv_this hv_a0 hv_a1 _ st h) (cwV 2 hts gX1_underAll_X1_balance rfl rfl rfl hd1_balance ⟨Nat.le_of_ble_eq_true rfl, Nat.le_of_ble_eq_true rfl⟩) (pre_V hK hX hI hA hS hv_this rfl rfl [.ref (G.2.2.1 0 a0), .ref (G.2.2.1 3 a1)]) rfl rfl hl.1 rfl (lv_room (Nat.le_of_ble_eq_true rfl)) dX1_underAll_62 ⟨Nat.le_of_ble_eq_true rfl, Nat.le_of_ble_eq_true rfl⟩) hS (fun st18 h H locs hI hS => ?_)
    exact r_vret hx hb hr hlocks hK hI hS (Qp := Q) h dX1_underAll_65
  have L7 : ∀ (n7 : Nat), ∀ (st : St) (v4x7 : Int) (H : Heap) (locs : List Loc) (ls : Array Slot), Iv vC G st H → va_S G.2.2.2.1 s.heap H locs → lv_has ls 5 [(0, .ref (G.2.2.1 1 o)), (1, .ref (G.2.2.1 0 a0)), (2, .ref (G.2.2.1 3 a1)), (3, .int (iI a2)), (4, .int (iI v4x7))] → f1_underAll_l7 o a0 a1 Q a2 n7 st v4x7 → W p l e (headSpec wsX1_underAll ({ frames := 4, cells := 0, slots := 0, locals := 94 })).room s m ([.ref (G.2.2.1 1 o), .ref (G.2.2.1 0 a0), .ref (G.2.2.1 3 a1), .int (iI a2)] : List Value).toArray below meth c H locs 0 0 (MQ below (QvM vC G Q) ([.ref (G.2.2.1 1 o), .ref (G.2.2.1 0 a0), .ref (G.2.2.1 3 a1), .int (iI a2)] : List Value).toArray s 0 0 G.2.2.2.1) (F0 m 7 ls []) := by
    intro n7
    induction n7 with
    | zero =>
      intro st v4x7 H locs ls hI hS hl h
      exact h.elim
    | succ n7 ih7 =>
      intro st v4x7 H locs ls hI hS hl h
      unfold f1_underAll_l7 at h
      refine lv_iload hx hb dX1_underAll_7 (lv_at hl 4 rfl) ?_
      refine lv_aload_n hx hb dX1_underAll_9 rfl (lv_at hl 1 rfl) ?_
      refine gg_0_4 hx hb hts in0 hown hK hI hv_a0 lk_40 dX1_underAll_10 ?_
      refine gg_6_2 hx hb hts in6 hown hK hI (vrC_0_4 hv_a0) lk_46 dX1_underAll_13 ?_
      obtain ⟨g3, h⟩ := h
      obtain ⟨g4, h⟩ := h
      refine r_icmp_ge (tgt := 48) hx hb dX1_underAll_16 (by decide) g3 g4 (fun c5 => ?_) (fun c5 => ?_)
      · replace h := h.1 c5
        refine lv_iload_n hx hb dX1_underAll_48 rfl (lv_at hl 3 rfl) ?_
        refine r_iconst (n := (-1)) hx hb dX1_underAll_49 ?_
        obtain ⟨g6, h⟩ := h
        refine r_icmp_eq (tgt := 59) hx hb dX1_underAll_50 (by decide) g6 (inI_mk rfl) (fun c7 => ?_) (fun c7 => ?_)
        · replace h := h.1 c7
          exact J59 st  _ _ ls hI hS (lv_sub hl [0, 1, 2] rfl) h
        · replace h := h.2 c7
          refine lv_aload_n hx hb dX1_underAll_53 rfl (lv_at hl 0 rfl) ?_
          refine lv_aload_n hx hb dX1_underAll_54 rfl (lv_at hl 1 rfl) ?_
          refine lv_iload_n hx hb dX1_underAll_55 rfl (lv_at hl 3 rfl) ?_
          refine r_callv (va_runV (As := [.ref (G.2.2.1 0 a0), .int (iI a2)]) (rest := []) ⟨hx, hb, hml, hown, hts⟩ (m1_pressAxles l G o a0 hv_this hv_a0 _ st a2 h) (cwV 2 hts gX1_underAll_X1_pressAxles rfl rfl rfl hd1_pressAxles ⟨Nat.le_of_ble_eq_true rfl, Nat.le_of_ble_eq_true rfl⟩) (pre_V hK hX hI hA hS hv_this rfl rfl [.ref (G.2.2.1 0 a0), .int (iI a2)]) rfl rfl hl.1 rfl (lv_room (Nat.le_of_ble_eq_true rfl)) dX1_underAll_56 ⟨Nat.le_of_ble_eq_true rfl, Nat.le_of_ble_eq_true rfl⟩) hS (fun st9 h H locs hI hS => ?_)
          exact J59 st9  _ _ ls hI hS (lv_sub hl [0, 1, 2] rfl) h
      · replace h := h.2 c5
        refine lv_aload_n hx hb dX1_underAll_19 rfl (lv_at hl 0 rfl) ?_
        refine lv_aload_n hx hb dX1_underAll_20 rfl (lv_at hl 1 rfl) ?_
        refine lv_aload_n hx hb dX1_underAll_21 rfl (lv_at hl 1 rfl) ?_
        refine gg_0_4 hx hb hts in0 hown hK hI hv_a0 lk_40 dX1_underAll_22 ?_
        refine lv_iload hx hb dX1_underAll_25 (lv_at hl 4 rfl) ?_
        refine r_calli (va_runV (As := [.int (iI v4x7)]) (rest := [.ref (G.2.2.1 0 a0), .ref (G.2.2.1 1 o)]) ⟨hx, hb, hml, hown, hts⟩ (m6_first l G (4 * a0 + 2) (vrC_0_4 hv_a0) _ st v4x7 h) (cwV 1 hts gX1_underAll_X6_first rfl rfl rfl hd6_first ⟨Nat.le_of_ble_eq_true rfl, Nat.le_of_ble_eq_true rfl⟩) (pre_V hK hX hI hA hS (vrC_0_4 hv_a0) rfl rfl [.int (iI v4x7)]) rfl rfl hl.1 rfl (lv_room (Nat.le_of_ble_eq_true rfl)) dX1_underAll_27 ⟨Nat.le_of_ble_eq_true rfl, Nat.le_of_ble_eq_true rfl⟩) hS (fun z10 st11 h H locs hI hS => ?_)
        refine lv_aload_n hx hb dX1_underAll_30 rfl (lv_at hl 1 rfl) ?_
        refine gg_0_4 hx hb hts in0 hown hK hI hv_a0 lk_40 dX1_underAll_31 ?_
        refine lv_iload hx hb dX1_underAll_34 (lv_at hl 4 rfl) ?_
        refine r_calli (va_runV (As := [.int (iI v4x7)]) (rest := [.int (iI z10), .ref (G.2.2.1 0 a0), .ref (G.2.2.1 1 o)]) ⟨hx, hb, hml, hown, hts⟩ (m6_second l G (4 * a0 + 2) (vrC_0_4 hv_a0) _ st11 v4x7 h) (cwV 1 hts gX1_underAll_X6_second rfl rfl rfl hd6_second ⟨Nat.le_of_ble_eq_true rfl, Nat.le_of_ble_eq_true rfl⟩) (pre_V hK hX hI hA hS (vrC_0_4 hv_a0) rfl rfl [.int (iI v4x7)]) rfl rfl hl.1 rfl (lv_room (Nat.le_of_ble_eq_true rfl)) dX1_underAll_36 ⟨Nat.le_of_ble_eq_true rfl, Nat.le_of_ble_eq_true rfl⟩) hS (fun z12 st13 h H locs hI hS => ?_)
        refine r_callv (va_runV (As := [.ref (G.2.2.1 0 a0), .int (iI z10), .int (iI z12)]) (rest := []) ⟨hx, hb, hml, hown, hts⟩ (m1_press l G o a0 hv_this hv_a0 _ st13 z10 z12 h) (cwV 3 hts gX1_underAll_X1_press rfl rfl rfl hd1_press ⟨Nat.le_of_ble_eq_true rfl, Nat.le_of_ble_eq_true rfl⟩) (pre_V hK hX hI hA hS hv_this rfl rfl [.ref (G.2.2.1 0 a0), .int (iI z10), .int (iI z12)]) rfl rfl hl.1 rfl (lv_room (Nat.le_of_ble_eq_true rfl)) dX1_underAll_39 ⟨Nat.le_of_ble_eq_true rfl, Nat.le_of_ble_eq_true rfl⟩) hS (fun st15 h H locs hI hS => ?_)
        obtain ⟨x16, hx16⟩ : ∃ z : Int, z = v4x7 + 1 := ⟨_, rfl⟩
        replace h := h x16 hx16
        refine lv_iinc (v := iI x16) (lv' := [(4, .int (iI x16)), (0, .ref (G.2.2.1 1 o)), (1, .ref (G.2.2.1 0 a0)), (2, .ref (G.2.2.1 3 a1)), (3, .int (iI a2))]) hx hb dX1_underAll_42 hl (k := 4) rfl (by rw [hx16]; exact iI_add _ _) (by decide) rfl (fun ls hl => ?_)
        refine lv_goto (tgt := 7) hx hb dX1_underAll_45 (by decide) ?_
        exact ih7 st15 x16 _ _ ls hI hS (lv_sub hl [1, 2, 3, 4, 0] rfl) h
  unfold f1_underAll at h
  refine lv_aload_n hx hb dX1_underAll_0 rfl (lv_at hl 0 rfl) ?_
  refine r_callv (va_runV (As := []) (rest := []) ⟨hx, hb, hml, hown, hts⟩ (m1_liftAll l G o hv_this _ st h) (cwV 0 hts gX1_underAll_X1_liftAll rfl rfl rfl hd1_liftAll ⟨Nat.le_of_ble_eq_true rfl, Nat.le_of_ble_eq_true rfl⟩) (pre_V hK hX hI hA hS hv_this rfl rfl []) rfl rfl hl.1 rfl (lv_room (Nat.le_of_ble_eq_true rfl)) dX1_underAll_1 ⟨Nat.le_of_ble_eq_true rfl, Nat.le_of_ble_eq_true rfl⟩) hS (fun st2 h H locs hI hS => ?_)
  refine r_iconst (n := 0) hx hb dX1_underAll_4 ?_
  refine lv_istore (lv' := [(4, .int (iI 0)), (0, .ref (G.2.2.1 1 o)), (1, .ref (G.2.2.1 0 a0)), (2, .ref (G.2.2.1 3 a1)), (3, .int (iI a2))]) hx hb dX1_underAll_5 hl (by decide) rfl (fun ls hl => ?_)
  obtain ⟨kk, h⟩ := h
  exact L7 kk st2 0 _ _ ls hI hS (lv_sub hl [1, 2, 3, 4, 0] rfl) h
theorem hd1_shearIn : yX1_shearIn.cls = RX1 ∧ yX1_shearIn.cls ≠ "java/lang/invoke/MethodHandle" ∧ yX1_shearIn.cls ≠ "java/lang/invoke/VarHandle" ∧ (parseMethodDescriptor yX1_shearIn.desc).map (fun d => d.parameters.length) = some 1 := by decide +kernel
set_option maxHeartbeats 4000000 in
set_option maxRecDepth 100000 in
theorem m1_shearIn (l : Launch) (G : WG)  (o : Int) (hv_this : vC 1 o) (Q : Int → St → Prop) (st : St) (a0 : Int) (h : f1_shearIn o Q st a0) : Met l yX1_shearIn wsX1_shearIn ({ frames := 0, cells := 0, slots := 0, locals := 0 }) (PcM vC G st [.ref (G.2.2.1 1 o), .int (iI a0)]) (QlM vC G Q) 0 0 G.2.2.2.1 := by
  refine Met.ofW (cc := cX1_shearIn) (maxL := 2) (ret := (some .long)) (by decide) rfl ?_
  intro p e s m args below meth c s₁ B hml hvv
  obtain ⟨rfl, hA, hI, hK, hX⟩ := hvv
  have hx := B.exec
  have hb := B.bytes
  have hr := B.returns
  have hts := atoms_spec (ws := wsX1_shearIn) B.pre
  have hown : s.vm.findClass RX1 = some m.cls := findClass_of_methodNamed B.named
  have hlocks := B.notSynchronized
  have hS : va_S G.2.2.2.1 s.heap s.heap [] := va_S.rf
  have in1 : ∀ w ∈ wsX10, w ∈ wsX1_shearIn := by decide +kernel
  have lk_19 := hts (.fieldLink RX1 19 "BeamLines$Forces" "shears" "[J") (by decide +kernel)
  have hl := lv_entry ([.ref (G.2.2.1 1 o), .int (iI a0)]) (n := 2) (Nat.le_of_ble_eq_true rfl)
  rw [lg_entry_eq]
  generalize (lg_sl ([.ref (G.2.2.1 1 o), .int (iI a0)]) ++ List.replicate (2 - (lg_sl ([.ref (G.2.2.1 1 o), .int (iI a0)])).length) Slot.unset).toArray = ls at hl ⊢
  have hl : lv_has ls 2 [(0, .ref (G.2.2.1 1 o)), (1, .int (iI a0))] := hl
  unfold f1_shearIn at h
  refine lv_iload_n hx hb dX1_shearIn_0 rfl (lv_at hl 1 rfl) ?_
  obtain ⟨g1, h⟩ := h
  refine r_if_lt (tgt := 19) hx hb dX1_shearIn_1 (by decide) g1 (fun c2 => ?_) (fun c2 => ?_)
  · replace h := h.1 c2
    refine r_lconst (z := 0) hx hb dX1_shearIn_19 rfl ?_
    exact r_lret hx hb hr hlocks hK hI hS (Qp := Q) h dX1_shearIn_20
  · replace h := h.2 c2
    refine lv_iload_n hx hb dX1_shearIn_4 rfl (lv_at hl 1 rfl) ?_
    refine r_bipush (n := 31) hx hb dX1_shearIn_5 rfl ?_
    obtain ⟨g3, h⟩ := h
    refine r_icmp_ge (tgt := 19) hx hb dX1_shearIn_7 (by decide) g3 (inI_mk rfl) (fun c4 => ?_) (fun c4 => ?_)
    · replace h := h.1 c4
      refine r_lconst (z := 0) hx hb dX1_shearIn_19 rfl ?_
      exact r_lret hx hb hr hlocks hK hI hS (Qp := Q) h dX1_shearIn_20
    · replace h := h.2 c4
      refine lv_aload_n hx hb dX1_shearIn_10 rfl (lv_at hl 0 rfl) ?_
      refine gg_1_2 hx hb hts in1 hown hK hI hv_this lk_19 dX1_shearIn_11 ?_
      refine lv_iload_n hx hb dX1_shearIn_14 rfl (lv_at hl 1 rfl) ?_
      obtain ⟨g5, g6, h⟩ := h
      refine r_lald hx hb hK hI (K := 14) (vrC_1_2 hv_this) rfl (lts_mk rfl) dX1_shearIn_15 g5 g6 ?_
      refine lv_goto (tgt := 20) hx hb dX1_shearIn_16 (by decide) ?_
      exact r_lret hx hb hr hlocks hK hI hS (Qp := Q) h dX1_shearIn_20
theorem hd1_momentAt : yX1_momentAt.cls = RX1 ∧ yX1_momentAt.cls ≠ "java/lang/invoke/MethodHandle" ∧ yX1_momentAt.cls ≠ "java/lang/invoke/VarHandle" ∧ (parseMethodDescriptor yX1_momentAt.desc).map (fun d => d.parameters.length) = some 1 := by decide +kernel
set_option maxHeartbeats 4000000 in
set_option maxRecDepth 100000 in
theorem m1_momentAt (l : Launch) (G : WG)  (o : Int) (hv_this : vC 1 o) (Q : Int → St → Prop) (st : St) (a0 : Int) (h : f1_momentAt o Q st a0) : Met l yX1_momentAt wsX1_momentAt ({ frames := 0, cells := 0, slots := 0, locals := 0 }) (PcM vC G st [.ref (G.2.2.1 1 o), .int (iI a0)]) (QlM vC G Q) 0 0 G.2.2.2.1 := by
  refine Met.ofW (cc := cX1_momentAt) (maxL := 2) (ret := (some .long)) (by decide) rfl ?_
  intro p e s m args below meth c s₁ B hml hvv
  obtain ⟨rfl, hA, hI, hK, hX⟩ := hvv
  have hx := B.exec
  have hb := B.bytes
  have hr := B.returns
  have hts := atoms_spec (ws := wsX1_momentAt) B.pre
  have hown : s.vm.findClass RX1 = some m.cls := findClass_of_methodNamed B.named
  have hlocks := B.notSynchronized
  have hS : va_S G.2.2.2.1 s.heap s.heap [] := va_S.rf
  have in1 : ∀ w ∈ wsX10, w ∈ wsX1_momentAt := by decide +kernel
  have lk_22 := hts (.fieldLink RX1 22 "BeamLines$Forces" "moments" "[J") (by decide +kernel)
  have hl := lv_entry ([.ref (G.2.2.1 1 o), .int (iI a0)]) (n := 2) (Nat.le_of_ble_eq_true rfl)
  rw [lg_entry_eq]
  generalize (lg_sl ([.ref (G.2.2.1 1 o), .int (iI a0)]) ++ List.replicate (2 - (lg_sl ([.ref (G.2.2.1 1 o), .int (iI a0)])).length) Slot.unset).toArray = ls at hl ⊢
  have hl : lv_has ls 2 [(0, .ref (G.2.2.1 1 o)), (1, .int (iI a0))] := hl
  unfold f1_momentAt at h
  refine lv_iload_n hx hb dX1_momentAt_0 rfl (lv_at hl 1 rfl) ?_
  obtain ⟨g1, h⟩ := h
  refine r_if_lt (tgt := 19) hx hb dX1_momentAt_1 (by decide) g1 (fun c2 => ?_) (fun c2 => ?_)
  · replace h := h.1 c2
    refine r_lconst (z := 0) hx hb dX1_momentAt_19 rfl ?_
    exact r_lret hx hb hr hlocks hK hI hS (Qp := Q) h dX1_momentAt_20
  · replace h := h.2 c2
    refine lv_iload_n hx hb dX1_momentAt_4 rfl (lv_at hl 1 rfl) ?_
    refine r_bipush (n := 31) hx hb dX1_momentAt_5 rfl ?_
    obtain ⟨g3, h⟩ := h
    refine r_icmp_ge (tgt := 19) hx hb dX1_momentAt_7 (by decide) g3 (inI_mk rfl) (fun c4 => ?_) (fun c4 => ?_)
    · replace h := h.1 c4
      refine r_lconst (z := 0) hx hb dX1_momentAt_19 rfl ?_
      exact r_lret hx hb hr hlocks hK hI hS (Qp := Q) h dX1_momentAt_20
    · replace h := h.2 c4
      refine lv_aload_n hx hb dX1_momentAt_10 rfl (lv_at hl 0 rfl) ?_
      refine gg_1_3 hx hb hts in1 hown hK hI hv_this lk_22 dX1_momentAt_11 ?_
      refine lv_iload_n hx hb dX1_momentAt_14 rfl (lv_at hl 1 rfl) ?_
      obtain ⟨g5, g6, h⟩ := h
      refine r_lald hx hb hK hI (K := 15) (vrC_1_3 hv_this) rfl (lts_mk rfl) dX1_momentAt_15 g5 g6 ?_
      refine lv_goto (tgt := 20) hx hb dX1_momentAt_16 (by decide) ?_
      exact r_lret hx hb hr hlocks hK hI hS (Qp := Q) h dX1_momentAt_20
theorem hd1_ofKind : yX1_ofKind.cls = RX1 ∧ yX1_ofKind.cls ≠ "java/lang/invoke/MethodHandle" ∧ yX1_ofKind.cls ≠ "java/lang/invoke/VarHandle" ∧ (parseMethodDescriptor yX1_ofKind.desc).map (fun d => d.parameters.length) = some 2 := by decide +kernel
set_option maxHeartbeats 4000000 in
set_option maxRecDepth 100000 in
theorem m1_ofKind (l : Launch) (G : WG)  (o : Int) (hv_this : vC 1 o) (Q : Int → St → Prop) (st : St) (a0 : Int) (a1 : Int) (h : f1_ofKind o Q st a0 a1) : Met l yX1_ofKind wsX1_ofKind ({ frames := 1, cells := 0, slots := 0, locals := 21 }) (PcM vC G st [.ref (G.2.2.1 1 o), .int (iI a0), .int (iI a1)]) (QlM vC G Q) 0 0 G.2.2.2.1 := by
  refine Met.ofW (cc := cX1_ofKind) (maxL := 3) (ret := (some .long)) (by decide) rfl ?_
  intro p e s m args below meth c s₁ B hml hvv
  obtain ⟨rfl, hA, hI, hK, hX⟩ := hvv
  have hx := B.exec
  have hb := B.bytes
  have hr := B.returns
  have hts := atoms_spec (ws := wsX1_ofKind) B.pre
  have hown : s.vm.findClass RX1 = some m.cls := findClass_of_methodNamed B.named
  have hlocks := B.notSynchronized
  have hS : va_S G.2.2.2.1 s.heap s.heap [] := va_S.rf
  have hl := lv_entry ([.ref (G.2.2.1 1 o), .int (iI a0), .int (iI a1)]) (n := 3) (Nat.le_of_ble_eq_true rfl)
  rw [lg_entry_eq]
  generalize (lg_sl ([.ref (G.2.2.1 1 o), .int (iI a0), .int (iI a1)]) ++ List.replicate (3 - (lg_sl ([.ref (G.2.2.1 1 o), .int (iI a0), .int (iI a1)])).length) Slot.unset).toArray = ls at hl ⊢
  have hl : lv_has ls 3 [(0, .ref (G.2.2.1 1 o)), (1, .int (iI a0)), (2, .int (iI a1))] := hl
  unfold f1_ofKind at h
  refine lv_iload_n hx hb dX1_ofKind_0 rfl (lv_at hl 1 rfl) ?_
  obtain ⟨g1, h⟩ := h
  refine r_if_ne (tgt := 10) hx hb dX1_ofKind_1 (by decide) g1 (fun c2 => ?_) (fun c2 => ?_)
  · replace h := h.2 c2
    refine lv_iload_n hx hb dX1_ofKind_10 rfl (lv_at hl 1 rfl) ?_
    refine r_iconst (n := 1) hx hb dX1_ofKind_11 ?_
    obtain ⟨g3, h⟩ := h
    refine r_icmp_ne (tgt := 23) hx hb dX1_ofKind_12 (by decide) g3 (inI_mk rfl) (fun c4 => ?_) (fun c4 => ?_)
    · replace h := h.2 c4
      refine lv_aload_n hx hb dX1_ofKind_23 rfl (lv_at hl 0 rfl) ?_
      refine lv_iload_n hx hb dX1_ofKind_24 rfl (lv_at hl 2 rfl) ?_
      refine r_calll (va_runV (As := [.int (iI a1)]) (rest := []) ⟨hx, hb, hml, hown, hts⟩ (m1_momentAt l G o hv_this _ st a1 h) (cwV 1 hts gX1_ofKind_X1_momentAt rfl rfl rfl hd1_momentAt ⟨Nat.le_of_ble_eq_true rfl, Nat.le_of_ble_eq_true rfl⟩) (pre_V hK hX hI hA hS hv_this rfl rfl [.int (iI a1)]) rfl rfl hl.1 rfl (lv_room (Nat.le_of_ble_eq_true rfl)) dX1_ofKind_25 ⟨Nat.le_of_ble_eq_true rfl, Nat.le_of_ble_eq_true rfl⟩) hS (fun z5 st6 h H locs hI hS => ?_)
      exact r_lret hx hb hr hlocks hK hI hS (Qp := Q) h dX1_ofKind_28
    · replace h := h.1 c4
      refine lv_aload_n hx hb dX1_ofKind_15 rfl (lv_at hl 0 rfl) ?_
      refine lv_iload_n hx hb dX1_ofKind_16 rfl (lv_at hl 2 rfl) ?_
      refine r_calll (va_runV (As := [.int (iI a1)]) (rest := []) ⟨hx, hb, hml, hown, hts⟩ (m1_shearIn l G o hv_this _ st a1 h) (cwV 1 hts gX1_ofKind_X1_shearIn rfl rfl rfl hd1_shearIn ⟨Nat.le_of_ble_eq_true rfl, Nat.le_of_ble_eq_true rfl⟩) (pre_V hK hX hI hA hS hv_this rfl rfl [.int (iI a1)]) rfl rfl hl.1 rfl (lv_room (Nat.le_of_ble_eq_true rfl)) dX1_ofKind_17 ⟨Nat.le_of_ble_eq_true rfl, Nat.le_of_ble_eq_true rfl⟩) hS (fun z7 st8 h H locs hI hS => ?_)
      refine lv_goto (tgt := 28) hx hb dX1_ofKind_20 (by decide) ?_
      exact r_lret hx hb hr hlocks hK hI hS (Qp := Q) h dX1_ofKind_28
  · replace h := h.1 c2
    refine lv_aload_n hx hb dX1_ofKind_4 rfl (lv_at hl 0 rfl) ?_
    refine lv_iload_n hx hb dX1_ofKind_5 rfl (lv_at hl 2 rfl) ?_
    refine r_calll (va_runV (As := [.int (iI a1)]) (rest := []) ⟨hx, hb, hml, hown, hts⟩ (m1_reactionOf l G o hv_this _ st a1 h) (cwV 1 hts gX1_ofKind_X1_reactionOf rfl rfl rfl hd1_reactionOf ⟨Nat.le_of_ble_eq_true rfl, Nat.le_of_ble_eq_true rfl⟩) (pre_V hK hX hI hA hS hv_this rfl rfl [.int (iI a1)]) rfl rfl hl.1 rfl (lv_room (Nat.le_of_ble_eq_true rfl)) dX1_ofKind_6 ⟨Nat.le_of_ble_eq_true rfl, Nat.le_of_ble_eq_true rfl⟩) hS (fun z9 st10 h H locs hI hS => ?_)
    exact r_lret hx hb hr hlocks hK hI hS (Qp := Q) h dX1_ofKind_9
theorem hd1_liftedSet : yX1_liftedSet.cls = RX1 ∧ yX1_liftedSet.cls ≠ "java/lang/invoke/MethodHandle" ∧ yX1_liftedSet.cls ≠ "java/lang/invoke/VarHandle" ∧ (parseMethodDescriptor yX1_liftedSet.desc).map (fun d => d.parameters.length) = some 0 := by decide +kernel
set_option maxHeartbeats 4000000 in
set_option maxRecDepth 100000 in
theorem m1_liftedSet (l : Launch) (G : WG)  (o : Int) (hv_this : vC 1 o) (Q : Int → St → Prop) (st : St)  (h : f1_liftedSet o Q st) : Met l yX1_liftedSet wsX1_liftedSet ({ frames := 0, cells := 0, slots := 0, locals := 0 }) (PcM vC G st [.ref (G.2.2.1 1 o)]) (QiM vC G Q) 0 0 G.2.2.2.1 := by
  refine Met.ofW (cc := cX1_liftedSet) (maxL := 3) (ret := (some .int)) (by decide) rfl ?_
  intro p e s m args below meth c s₁ B hml hvv
  obtain ⟨rfl, hA, hI, hK, hX⟩ := hvv
  have hx := B.exec
  have hb := B.bytes
  have hr := B.returns
  have hts := atoms_spec (ws := wsX1_liftedSet) B.pre
  have hown : s.vm.findClass RX1 = some m.cls := findClass_of_methodNamed B.named
  have hlocks := B.notSynchronized
  have hS : va_S G.2.2.2.1 s.heap s.heap [] := va_S.rf
  have in1 : ∀ w ∈ wsX10, w ∈ wsX1_liftedSet := by decide +kernel
  have lk_15 := hts (.fieldLink RX1 15 "BeamLines$Forces" "reactions" "[J") (by decide +kernel)
  have hl := lv_entry ([.ref (G.2.2.1 1 o)]) (n := 3) (Nat.le_of_ble_eq_true rfl)
  rw [lg_entry_eq]
  generalize (lg_sl ([.ref (G.2.2.1 1 o)]) ++ List.replicate (3 - (lg_sl ([.ref (G.2.2.1 1 o)])).length) Slot.unset).toArray = ls at hl ⊢
  have hl : lv_has ls 3 [(0, .ref (G.2.2.1 1 o))] := hl
  have L4 : ∀ (n4 : Nat), ∀ (st : St) (v1x4 : Int) (v2x4 : Int) (H : Heap) (locs : List Loc) (ls : Array Slot), Iv vC G st H → va_S G.2.2.2.1 s.heap H locs → lv_has ls 3 [(0, .ref (G.2.2.1 1 o)), (1, .int (iI v1x4)), (2, .int (iI v2x4))] → f1_liftedSet_l4 o Q n4 st v1x4 v2x4 → W p l e (headSpec wsX1_liftedSet ({ frames := 0, cells := 0, slots := 0, locals := 0 })).room s m ([.ref (G.2.2.1 1 o)] : List Value).toArray below meth c H locs 0 0 (MQ below (QiM vC G Q) ([.ref (G.2.2.1 1 o)] : List Value).toArray s 0 0 G.2.2.2.1) (F0 m 4 ls []) := by
    intro n4
    induction n4 with
    | zero =>
      intro st v1x4 v2x4 H locs ls hI hS hl h
      exact h.elim
    | succ n4 ih4 =>
      have J26 : ∀ (st : St) (v1x26 : Int) (v2x26 : Int) (H : Heap) (locs : List Loc) (ls : Array Slot), Iv vC G st H → va_S G.2.2.2.1 s.heap H locs → lv_has ls 3 [(0, .ref (G.2.2.1 1 o)), (1, .int (iI v1x26)), (2, .int (iI v2x26))] → f1_liftedSet_j26 o (fun st v1x4 v2x4 => f1_liftedSet_l4 o Q n4 st v1x4 v2x4) Q st v1x26 v2x26 → W p l e (headSpec wsX1_liftedSet ({ frames := 0, cells := 0, slots := 0, locals := 0 })).room s m ([.ref (G.2.2.1 1 o)] : List Value).toArray below meth c H locs 0 0 (MQ below (QiM vC G Q) ([.ref (G.2.2.1 1 o)] : List Value).toArray s 0 0 G.2.2.2.1) (F0 m 26 ls []) := by
        intro st v1x26 v2x26 H locs ls hI hS hl h
        unfold f1_liftedSet_j26 at h
        obtain ⟨x8, hx8⟩ : ∃ z : Int, z = v2x26 + 1 := ⟨_, rfl⟩
        replace h := h x8 hx8
        refine lv_iinc (v := iI x8) (lv' := [(2, .int (iI x8)), (0, .ref (G.2.2.1 1 o)), (1, .int (iI v1x26))]) hx hb dX1_liftedSet_26 hl (k := 2) rfl (by rw [hx8]; exact iI_add _ _) (by decide) rfl (fun ls hl => ?_)
        refine lv_goto (tgt := 4) hx hb dX1_liftedSet_29 (by decide) ?_
        exact ih4 st v1x26 x8 _ _ ls hI hS (lv_sub hl [1, 2, 0] rfl) h
      intro st v1x4 v2x4 H locs ls hI hS hl h
      unfold f1_liftedSet_l4 at h
      refine lv_iload_n hx hb dX1_liftedSet_4 rfl (lv_at hl 2 rfl) ?_
      refine r_iconst (n := 5) hx hb dX1_liftedSet_5 ?_
      obtain ⟨g1, h⟩ := h
      refine r_icmp_ge (tgt := 32) hx hb dX1_liftedSet_6 (by decide) g1 (inI_mk rfl) (fun c2 => ?_) (fun c2 => ?_)
      · replace h := h.1 c2
        refine lv_iload_n hx hb dX1_liftedSet_32 rfl (lv_at hl 1 rfl) ?_
        exact r_iret hx hb hr hlocks hK hI hS (Qp := Q) h dX1_liftedSet_33
      · replace h := h.2 c2
        refine lv_aload_n hx hb dX1_liftedSet_9 rfl (lv_at hl 0 rfl) ?_
        refine gg_1_1 hx hb hts in1 hown hK hI hv_this lk_15 dX1_liftedSet_10 ?_
        refine lv_iload_n hx hb dX1_liftedSet_13 rfl (lv_at hl 2 rfl) ?_
        obtain ⟨g3, g4, h⟩ := h
        refine r_lald hx hb hK hI (K := 13) (vrC_1_1 hv_this) rfl (lts_mk rfl) dX1_liftedSet_14 g3 g4 ?_
        refine r_lconst (z := 0) hx hb dX1_liftedSet_15 rfl ?_
        obtain ⟨g5, h⟩ := h
        refine r_lcmp_ge (tgt := 26) hx hb dX1_liftedSet_16 dX1_liftedSet_17 (by decide) g5 (inL_mk rfl) (fun c6 => ?_) (fun c6 => ?_)
        · replace h := h.1 c6
          exact J26 st v1x4 v2x4 _ _ ls hI hS (lv_sub hl [0, 1, 2] rfl) h
        · replace h := h.2 c6
          refine lv_iload_n hx hb dX1_liftedSet_20 rfl (lv_at hl 1 rfl) ?_
          refine r_iconst (n := 1) hx hb dX1_liftedSet_21 ?_
          refine lv_iload_n hx hb dX1_liftedSet_22 rfl (lv_at hl 2 rfl) ?_
          refine r_ishl hx hb dX1_liftedSet_23 ?_
          refine r_ior hx hb dX1_liftedSet_24 ?_
          refine r_topi (fun x7 hx7 => ?_)
          replace h := h x7 hx7
          refine lv_istore_n (lv' := [(1, .int (iI x7)), (0, .ref (G.2.2.1 1 o)), (2, .int (iI v2x4))]) hx hb dX1_liftedSet_25 rfl hl (by decide) rfl (fun ls hl => ?_)
          exact J26 st x7 v2x4 _ _ ls hI hS (lv_sub hl [1, 0, 2] rfl) h
  unfold f1_liftedSet at h
  refine r_iconst (n := 0) hx hb dX1_liftedSet_0 ?_
  refine lv_istore_n (lv' := [(1, .int (iI 0)), (0, .ref (G.2.2.1 1 o))]) hx hb dX1_liftedSet_1 rfl hl (by decide) rfl (fun ls hl => ?_)
  refine r_iconst (n := 0) hx hb dX1_liftedSet_2 ?_
  refine lv_istore_n (lv' := [(2, .int (iI 0)), (1, .int (iI 0)), (0, .ref (G.2.2.1 1 o))]) hx hb dX1_liftedSet_3 rfl hl (by decide) rfl (fun ls hl => ?_)
  obtain ⟨kk, h⟩ := h
  exact L4 kk st 0 0 _ _ ls hI hS (lv_sub hl [2, 1, 0] rfl) h
theorem hd1_bearsTooMuch : yX1_bearsTooMuch.cls = RX1 ∧ yX1_bearsTooMuch.cls ≠ "java/lang/invoke/MethodHandle" ∧ yX1_bearsTooMuch.cls ≠ "java/lang/invoke/VarHandle" ∧ (parseMethodDescriptor yX1_bearsTooMuch.desc).map (fun d => d.parameters.length) = some 2 := by decide +kernel
set_option maxHeartbeats 4000000 in
set_option maxRecDepth 100000 in
theorem m1_bearsTooMuch (l : Launch) (G : WG)  (o : Int) (a0 : Int) (a1 : Int) (hv_this : vC 1 o) (hv_a0 : vC 0 a0) (hv_a1 : vC 3 a1) (Q : Int → St → Prop) (st : St)  (h : f1_bearsTooMuch o a0 a1 Q st) : Met l yX1_bearsTooMuch wsX1_bearsTooMuch ({ frames := 2, cells := 0, slots := 0, locals := 42 }) (PcM vC G st [.ref (G.2.2.1 1 o), .ref (G.2.2.1 0 a0), .ref (G.2.2.1 3 a1)]) (QiM vC G Q) 0 0 G.2.2.2.1 := by
  refine Met.ofW (cc := cX1_bearsTooMuch) (maxL := 5) (ret := (some .boolean)) (by decide) rfl ?_
  intro p e s m args below meth c s₁ B hml hvv
  obtain ⟨rfl, hA, hI, hK, hX⟩ := hvv
  have hx := B.exec
  have hb := B.bytes
  have hr := B.returns
  have hts := atoms_spec (ws := wsX1_bearsTooMuch) B.pre
  have hown : s.vm.findClass RX1 = some m.cls := findClass_of_methodNamed B.named
  have hlocks := B.notSynchronized
  have hS : va_S G.2.2.2.1 s.heap s.heap [] := va_S.rf
  have in0 : ∀ w ∈ wsX00, w ∈ wsX1_bearsTooMuch := by decide +kernel
  have in3 : ∀ w ∈ wsX30, w ∈ wsX1_bearsTooMuch := by decide +kernel
  have in6 : ∀ w ∈ wsX60, w ∈ wsX1_bearsTooMuch := by decide +kernel
  have lk_46 := hts (.fieldLink RX1 46 "BeamLines$Row" "size" "I") (by decide +kernel)
  have lk_83 := hts (.fieldLink RX1 83 "BeamLines$Beam" "supports" "LBeamLines$Row;") (by decide +kernel)
  have lk_86 := hts (.fieldLink RX1 86 "BeamLines$Lines" "common" "J") (by decide +kernel)
  have hl := lv_entry ([.ref (G.2.2.1 1 o), .ref (G.2.2.1 0 a0), .ref (G.2.2.1 3 a1)]) (n := 5) (Nat.le_of_ble_eq_true rfl)
  rw [lg_entry_eq]
  generalize (lg_sl ([.ref (G.2.2.1 1 o), .ref (G.2.2.1 0 a0), .ref (G.2.2.1 3 a1)]) ++ List.replicate (5 - (lg_sl ([.ref (G.2.2.1 1 o), .ref (G.2.2.1 0 a0), .ref (G.2.2.1 3 a1)])).length) Slot.unset).toArray = ls at hl ⊢
  have hl : lv_has ls 5 [(0, .ref (G.2.2.1 1 o)), (1, .ref (G.2.2.1 0 a0)), (2, .ref (G.2.2.1 3 a1))] := hl
  have L2 : ∀ (n2 : Nat), ∀ (st : St) (v3x2 : Int) (H : Heap) (locs : List Loc) (ls : Array Slot), Iv vC G st H → va_S G.2.2.2.1 s.heap H locs → lv_has ls 5 [(0, .ref (G.2.2.1 1 o)), (1, .ref (G.2.2.1 0 a0)), (2, .ref (G.2.2.1 3 a1)), (3, .int (iI v3x2))] → f1_bearsTooMuch_l2 o a0 a1 Q n2 st v3x2 → W p l e (headSpec wsX1_bearsTooMuch ({ frames := 2, cells := 0, slots := 0, locals := 42 })).room s m ([.ref (G.2.2.1 1 o), .ref (G.2.2.1 0 a0), .ref (G.2.2.1 3 a1)] : List Value).toArray below meth c H locs 0 0 (MQ below (QiM vC G Q) ([.ref (G.2.2.1 1 o), .ref (G.2.2.1 0 a0), .ref (G.2.2.1 3 a1)] : List Value).toArray s 0 0 G.2.2.2.1) (F0 m 2 ls []) := by
    intro n2
    induction n2 with
    | zero =>
      intro st v3x2 H locs ls hI hS hl h
      exact h.elim
    | succ n2 ih2 =>
      have J48 : ∀ (st : St) (v3x48 : Int) (H : Heap) (locs : List Loc) (ls : Array Slot), Iv vC G st H → va_S G.2.2.2.1 s.heap H locs → lv_has ls 5 [(0, .ref (G.2.2.1 1 o)), (1, .ref (G.2.2.1 0 a0)), (2, .ref (G.2.2.1 3 a1)), (3, .int (iI v3x48))] → f1_bearsTooMuch_j48 o a0 a1 (fun st v3x2 => f1_bearsTooMuch_l2 o a0 a1 Q n2 st v3x2) Q st v3x48 → W p l e (headSpec wsX1_bearsTooMuch ({ frames := 2, cells := 0, slots := 0, locals := 42 })).room s m ([.ref (G.2.2.1 1 o), .ref (G.2.2.1 0 a0), .ref (G.2.2.1 3 a1)] : List Value).toArray below meth c H locs 0 0 (MQ below (QiM vC G Q) ([.ref (G.2.2.1 1 o), .ref (G.2.2.1 0 a0), .ref (G.2.2.1 3 a1)] : List Value).toArray s 0 0 G.2.2.2.1) (F0 m 48 ls []) := by
        intro st v3x48 H locs ls hI hS hl h
        unfold f1_bearsTooMuch_j48 at h
        obtain ⟨x14, hx14⟩ : ∃ z : Int, z = v3x48 + 1 := ⟨_, rfl⟩
        replace h := h x14 hx14
        refine lv_iinc (v := iI x14) (lv' := [(3, .int (iI x14)), (0, .ref (G.2.2.1 1 o)), (1, .ref (G.2.2.1 0 a0)), (2, .ref (G.2.2.1 3 a1))]) hx hb dX1_bearsTooMuch_48 hl (k := 3) rfl (by rw [hx14]; exact iI_add _ _) (by decide) rfl (fun ls hl => ?_)
        refine lv_goto (tgt := 2) hx hb dX1_bearsTooMuch_51 (by decide) ?_
        exact ih2 st x14 _ _ ls hI hS (lv_sub hl [1, 2, 3, 0] rfl) h
      intro st v3x2 H locs ls hI hS hl h
      unfold f1_bearsTooMuch_l2 at h
      refine lv_iload_n hx hb dX1_bearsTooMuch_2 rfl (lv_at hl 3 rfl) ?_
      refine lv_aload_n hx hb dX1_bearsTooMuch_3 rfl (lv_at hl 1 rfl) ?_
      refine gg_0_2 hx hb hts in0 hown hK hI hv_a0 lk_83 dX1_bearsTooMuch_4 ?_
      refine gg_6_2 hx hb hts in6 hown hK hI (vrC_0_2 hv_a0) lk_46 dX1_bearsTooMuch_7 ?_
      obtain ⟨g1, h⟩ := h
      obtain ⟨g2, h⟩ := h
      refine r_icmp_ge (tgt := 54) hx hb dX1_bearsTooMuch_10 (by decide) g1 g2 (fun c3 => ?_) (fun c3 => ?_)
      · replace h := h.1 c3
        refine r_iconst (n := 0) hx hb dX1_bearsTooMuch_54 ?_
        exact r_zret hx hb hr hlocks hK hI hS (Qp := Q) (by decide) h dX1_bearsTooMuch_55
      · replace h := h.2 c3
        refine lv_aload_n hx hb dX1_bearsTooMuch_13 rfl (lv_at hl 1 rfl) ?_
        refine gg_0_2 hx hb hts in0 hown hK hI hv_a0 lk_83 dX1_bearsTooMuch_14 ?_
        refine lv_iload_n hx hb dX1_bearsTooMuch_17 rfl (lv_at hl 3 rfl) ?_
        refine r_calli (va_runV (As := [.int (iI v3x2)]) (rest := []) ⟨hx, hb, hml, hown, hts⟩ (m6_second l G (4 * a0) (vrC_0_2 hv_a0) _ st v3x2 h) (cwV 1 hts gX1_bearsTooMuch_X6_second rfl rfl rfl hd6_second ⟨Nat.le_of_ble_eq_true rfl, Nat.le_of_ble_eq_true rfl⟩) (pre_V hK hX hI hA hS (vrC_0_2 hv_a0) rfl rfl [.int (iI v3x2)]) rfl rfl hl.1 rfl (lv_room (Nat.le_of_ble_eq_true rfl)) dX1_bearsTooMuch_18 ⟨Nat.le_of_ble_eq_true rfl, Nat.le_of_ble_eq_true rfl⟩) hS (fun z4 st5 h H locs hI hS => ?_)
        refine lv_istore (lv' := [(4, .int (iI z4)), (0, .ref (G.2.2.1 1 o)), (1, .ref (G.2.2.1 0 a0)), (2, .ref (G.2.2.1 3 a1)), (3, .int (iI v3x2))]) hx hb dX1_bearsTooMuch_21 hl (by decide) rfl (fun ls hl => ?_)
        refine lv_iload hx hb dX1_bearsTooMuch_23 (lv_at hl 0 rfl) ?_
        refine r_iconst (n := (-1)) hx hb dX1_bearsTooMuch_25 ?_
        obtain ⟨g6, h⟩ := h
        refine r_icmp_eq (tgt := 48) hx hb dX1_bearsTooMuch_26 (by decide) g6 (inI_mk rfl) (fun c7 => ?_) (fun c7 => ?_)
        · replace h := h.1 c7
          exact J48 st5 v3x2 _ _ ls hI hS (lv_sub hl [1, 2, 3, 4] rfl) h
        · replace h := h.2 c7
          refine lv_aload_n hx hb dX1_bearsTooMuch_29 rfl (lv_at hl 1 rfl) ?_
          refine lv_iload_n hx hb dX1_bearsTooMuch_30 rfl (lv_at hl 4 rfl) ?_
          refine r_calll (va_runV (As := [.int (iI v3x2)]) (rest := []) ⟨hx, hb, hml, hown, hts⟩ (m1_reactionOf l G o hv_this _ st5 v3x2 h) (cwV 1 hts gX1_bearsTooMuch_X1_reactionOf rfl rfl rfl hd1_reactionOf ⟨Nat.le_of_ble_eq_true rfl, Nat.le_of_ble_eq_true rfl⟩) (pre_V hK hX hI hA hS hv_this rfl rfl [.int (iI v3x2)]) rfl rfl hl.1 rfl (lv_room (Nat.le_of_ble_eq_true rfl)) dX1_bearsTooMuch_31 ⟨Nat.le_of_ble_eq_true rfl, Nat.le_of_ble_eq_true rfl⟩) hS (fun z8 st9 h H locs hI hS => ?_)
          refine lv_aload_n hx hb dX1_bearsTooMuch_34 rfl (lv_at hl 3 rfl) ?_
          refine gg_3_4 hx hb hts in3 hown hK hI hv_a1 lk_86 dX1_bearsTooMuch_35 ?_
          refine lv_iload hx hb dX1_bearsTooMuch_38 (lv_at hl 0 rfl) ?_
          obtain ⟨g10, h⟩ := h
          refine r_i2l hx hb dX1_bearsTooMuch_40 g10 ?_
          refine r_lmul hx hb dX1_bearsTooMuch_41 ?_
          obtain ⟨g11, h⟩ := h
          obtain ⟨g12, h⟩ := h
          refine r_lcmp_le (tgt := 48) hx hb dX1_bearsTooMuch_42 dX1_bearsTooMuch_43 (by decide) g11 g12 (fun c13 => ?_) (fun c13 => ?_)
          · replace h := h.1 c13
            exact J48 st9 v3x2 _ _ ls hI hS (lv_sub hl [1, 2, 3, 4] rfl) h
          · replace h := h.2 c13
            refine r_iconst (n := 1) hx hb dX1_bearsTooMuch_46 ?_
            exact r_zret hx hb hr hlocks hK hI hS (Qp := Q) (by decide) h dX1_bearsTooMuch_47
  unfold f1_bearsTooMuch at h
  refine r_iconst (n := 0) hx hb dX1_bearsTooMuch_0 ?_
  refine lv_istore_n (lv' := [(3, .int (iI 0)), (0, .ref (G.2.2.1 1 o)), (1, .ref (G.2.2.1 0 a0)), (2, .ref (G.2.2.1 3 a1))]) hx hb dX1_bearsTooMuch_1 rfl hl (by decide) rfl (fun ls hl => ?_)
  obtain ⟨kk, h⟩ := h
  exact L2 kk st 0 _ _ ls hI hS (lv_sub hl [1, 2, 3, 0] rfl) h
theorem hd1_bendsTooMuch : yX1_bendsTooMuch.cls = RX1 ∧ yX1_bendsTooMuch.cls ≠ "java/lang/invoke/MethodHandle" ∧ yX1_bendsTooMuch.cls ≠ "java/lang/invoke/VarHandle" ∧ (parseMethodDescriptor yX1_bendsTooMuch.desc).map (fun d => d.parameters.length) = some 2 := by decide +kernel
set_option maxHeartbeats 4000000 in
set_option maxRecDepth 100000 in
theorem m1_bendsTooMuch (l : Launch) (G : WG)  (o : Int) (a0 : Int) (a1 : Int) (hv_this : vC 1 o) (hv_a0 : vC 0 a0) (hv_a1 : vC 3 a1) (Q : Int → St → Prop) (st : St)  (h : f1_bendsTooMuch o a0 a1 Q st) : Met l yX1_bendsTooMuch wsX1_bendsTooMuch ({ frames := 1, cells := 0, slots := 0, locals := 23 }) (PcM vC G st [.ref (G.2.2.1 1 o), .ref (G.2.2.1 0 a0), .ref (G.2.2.1 3 a1)]) (QiM vC G Q) 0 0 G.2.2.2.1 := by
  refine Met.ofW (cc := cX1_bendsTooMuch) (maxL := 6) (ret := (some .boolean)) (by decide) rfl ?_
  intro p e s m args below meth c s₁ B hml hvv
  obtain ⟨rfl, hA, hI, hK, hX⟩ := hvv
  have hx := B.exec
  have hb := B.bytes
  have hr := B.returns
  have hts := atoms_spec (ws := wsX1_bendsTooMuch) B.pre
  have hown : s.vm.findClass RX1 = some m.cls := findClass_of_methodNamed B.named
  have hlocks := B.notSynchronized
  have hS : va_S G.2.2.2.1 s.heap s.heap [] := va_S.rf
  have in0 : ∀ w ∈ wsX00, w ∈ wsX1_bendsTooMuch := by decide +kernel
  have in3 : ∀ w ∈ wsX30, w ∈ wsX1_bendsTooMuch := by decide +kernel
  have lk_86 := hts (.fieldLink RX1 86 "BeamLines$Lines" "common" "J") (by decide +kernel)
  have lk_92 := hts (.fieldLink RX1 92 "BeamLines$Beam" "most" "I") (by decide +kernel)
  have lk_95 := hts (.fieldLink RX1 95 "BeamLines$Beam" "length" "I") (by decide +kernel)
  have ml_98 : (Cond.methodLink RX1 98 Lib.MathLoose.abs_long.x).before _ s = true ∧ (Cond.static Lib.MathLoose.abs_long.x).before _ s = true ∧ (Cond.initialized "java/lang/Math").before _ s = true ∧ (Cond.code Lib.MathLoose.abs_long.x Lib.MathLoose.abs_long.code 2 (some .long)).before _ s = true := ⟨hts _ (by decide +kernel), hts _ (by decide +kernel), hts _ (by decide +kernel), hts _ (by decide +kernel)⟩
  have hl := lv_entry ([.ref (G.2.2.1 1 o), .ref (G.2.2.1 0 a0), .ref (G.2.2.1 3 a1)]) (n := 6) (Nat.le_of_ble_eq_true rfl)
  rw [lg_entry_eq]
  generalize (lg_sl ([.ref (G.2.2.1 1 o), .ref (G.2.2.1 0 a0), .ref (G.2.2.1 3 a1)]) ++ List.replicate (6 - (lg_sl ([.ref (G.2.2.1 1 o), .ref (G.2.2.1 0 a0), .ref (G.2.2.1 3 a1)])).length) Slot.unset).toArray = ls at hl ⊢
  have hl : lv_has ls 6 [(0, .ref (G.2.2.1 1 o)), (1, .ref (G.2.2.1 0 a0)), (2, .ref (G.2.2.1 3 a1))] := hl
  have L14 : ∀ (v3x14 : Int) (n14 : Nat), ∀ (st : St) (v5x14 : Int) (H : Heap) (locs : List Loc) (ls : Array Slot), Iv vC G st H → va_S G.2.2.2.1 s.heap H locs → lv_has ls 6 [(0, .ref (G.2.2.1 1 o)), (1, .ref (G.2.2.1 0 a0)), (3, .long (lI v3x14)), (5, .int (iI v5x14))] → f1_bendsTooMuch_l14 o a0 a1 Q v3x14 n14 st v5x14 → W p l e (headSpec wsX1_bendsTooMuch ({ frames := 1, cells := 0, slots := 0, locals := 23 })).room s m ([.ref (G.2.2.1 1 o), .ref (G.2.2.1 0 a0), .ref (G.2.2.1 3 a1)] : List Value).toArray below meth c H locs 0 0 (MQ below (QiM vC G Q) ([.ref (G.2.2.1 1 o), .ref (G.2.2.1 0 a0), .ref (G.2.2.1 3 a1)] : List Value).toArray s 0 0 G.2.2.2.1) (F0 m 14 ls []) := by
    intro v3x14 n14
    induction n14 with
    | zero =>
      intro st v5x14 H locs ls hI hS hl h
      exact h.elim
    | succ n14 ih14 =>
      intro st v5x14 H locs ls hI hS hl h
      unfold f1_bendsTooMuch_l14 at h
      refine lv_iload hx hb dX1_bendsTooMuch_14 (lv_at hl 3 rfl) ?_
      refine lv_aload_n hx hb dX1_bendsTooMuch_16 rfl (lv_at hl 1 rfl) ?_
      refine gg_0_0 hx hb hts in0 hown hK hI hv_a0 lk_95 dX1_bendsTooMuch_17 ?_
      obtain ⟨g3, h⟩ := h
      obtain ⟨g4, h⟩ := h
      refine r_icmp_gt (tgt := 45) hx hb dX1_bendsTooMuch_20 (by decide) g3 g4 (fun c5 => ?_) (fun c5 => ?_)
      · replace h := h.1 c5
        refine r_iconst (n := 0) hx hb dX1_bendsTooMuch_45 ?_
        exact r_zret hx hb hr hlocks hK hI hS (Qp := Q) (by decide) h dX1_bendsTooMuch_46
      · replace h := h.2 c5
        refine lv_aload_n hx hb dX1_bendsTooMuch_23 rfl (lv_at hl 0 rfl) ?_
        refine lv_iload hx hb dX1_bendsTooMuch_24 (lv_at hl 3 rfl) ?_
        refine r_calll (va_runV (As := [.int (iI v5x14)]) (rest := []) ⟨hx, hb, hml, hown, hts⟩ (m1_momentAt l G o hv_this _ st v5x14 h) (cwV 1 hts gX1_bendsTooMuch_X1_momentAt rfl rfl rfl hd1_momentAt ⟨Nat.le_of_ble_eq_true rfl, Nat.le_of_ble_eq_true rfl⟩) (pre_V hK hX hI hA hS hv_this rfl rfl [.int (iI v5x14)]) rfl rfl hl.1 rfl (lv_room (Nat.le_of_ble_eq_true rfl)) dX1_bendsTooMuch_26 ⟨Nat.le_of_ble_eq_true rfl, Nat.le_of_ble_eq_true rfl⟩) hS (fun z6 st7 h H locs hI hS => ?_)
        obtain ⟨g8, h⟩ := h
        refine r_mabs_long hx hb (hml.trans hl.1.symm) hown ml_98 dX1_bendsTooMuch_29 g8 ⟨Nat.le_of_ble_eq_true rfl, Nat.le_of_ble_eq_true rfl, Nat.zero_le _, Nat.zero_le _⟩ (Nat.le_of_ble_eq_true rfl) ?_
        refine lv_lload_n hx hb dX1_bendsTooMuch_32 rfl (lv_at hl 2 rfl) ?_
        obtain ⟨g9, h⟩ := h
        obtain ⟨g10, h⟩ := h
        refine r_lcmp_le (tgt := 39) hx hb dX1_bendsTooMuch_33 dX1_bendsTooMuch_34 (by decide) g9 g10 (fun c11 => ?_) (fun c11 => ?_)
        · replace h := h.1 c11
          obtain ⟨x12, hx12⟩ : ∃ z : Int, z = v5x14 + 1 := ⟨_, rfl⟩
          replace h := h x12 hx12
          refine lv_iinc (v := iI x12) (lv' := [(5, .int (iI x12)), (0, .ref (G.2.2.1 1 o)), (1, .ref (G.2.2.1 0 a0)), (3, .long (lI v3x14))]) hx hb dX1_bendsTooMuch_39 hl (k := 3) rfl (by rw [hx12]; exact iI_add _ _) (by decide) rfl (fun ls hl => ?_)
          refine lv_goto (tgt := 14) hx hb dX1_bendsTooMuch_42 (by decide) ?_
          exact ih14 st7 x12 _ _ ls hI hS (lv_sub hl [1, 2, 3, 0] rfl) h
        · replace h := h.2 c11
          refine r_iconst (n := 1) hx hb dX1_bendsTooMuch_37 ?_
          exact r_zret hx hb hr hlocks hK hI hS (Qp := Q) (by decide) h dX1_bendsTooMuch_38
  unfold f1_bendsTooMuch at h
  refine lv_aload_n hx hb dX1_bendsTooMuch_0 rfl (lv_at hl 2 rfl) ?_
  refine gg_3_4 hx hb hts in3 hown hK hI hv_a1 lk_86 dX1_bendsTooMuch_1 ?_
  refine lv_aload_n hx hb dX1_bendsTooMuch_4 rfl (lv_at hl 1 rfl) ?_
  refine gg_0_1 hx hb hts in0 hown hK hI hv_a0 lk_92 dX1_bendsTooMuch_5 ?_
  obtain ⟨g1, h⟩ := h
  refine r_i2l hx hb dX1_bendsTooMuch_8 g1 ?_
  refine r_lmul hx hb dX1_bendsTooMuch_9 ?_
  refine r_topl (fun x2 hx2 => ?_)
  replace h := h x2 hx2
  refine lv_lstore_n (lv' := [(3, .long (lI x2)), (0, .ref (G.2.2.1 1 o)), (1, .ref (G.2.2.1 0 a0)), (2, .ref (G.2.2.1 3 a1))]) hx hb dX1_bendsTooMuch_10 rfl hl (by decide) rfl (fun ls hl => ?_)
  refine r_iconst (n := 0) hx hb dX1_bendsTooMuch_11 ?_
  refine lv_istore (lv' := [(5, .int (iI 0)), (3, .long (lI x2)), (0, .ref (G.2.2.1 1 o)), (1, .ref (G.2.2.1 0 a0)), (2, .ref (G.2.2.1 3 a1))]) hx hb dX1_bendsTooMuch_12 hl (by decide) rfl (fun ls hl => ?_)
  obtain ⟨kk, h⟩ := h
  exact L14 x2 kk st 0 _ _ ls hI hS (lv_sub hl [2, 3, 1, 0] rfl) h
theorem hd1_firstReason : yX1_firstReason.cls = RX1 ∧ yX1_firstReason.cls ≠ "java/lang/invoke/MethodHandle" ∧ yX1_firstReason.cls ≠ "java/lang/invoke/VarHandle" ∧ (parseMethodDescriptor yX1_firstReason.desc).map (fun d => d.parameters.length) = some 2 := by decide +kernel
set_option maxHeartbeats 4000000 in
set_option maxRecDepth 100000 in
theorem m1_firstReason (l : Launch) (G : WG)  (o : Int) (a0 : Int) (a1 : Int) (hv_this : vC 1 o) (hv_a0 : vC 0 a0) (hv_a1 : vC 3 a1) (Q : Int → St → Prop) (st : St)  (h : f1_firstReason o a0 a1 Q st) : Met l yX1_firstReason wsX1_firstReason ({ frames := 3, cells := 0, slots := 0, locals := 66 }) (PcM vC G st [.ref (G.2.2.1 1 o), .ref (G.2.2.1 0 a0), .ref (G.2.2.1 3 a1)]) (QiM vC G Q) 0 0 G.2.2.2.1 := by
  refine Met.ofW (cc := cX1_firstReason) (maxL := 3) (ret := (some .int)) (by decide) rfl ?_
  intro p e s m args below meth c s₁ B hml hvv
  obtain ⟨rfl, hA, hI, hK, hX⟩ := hvv
  have hx := B.exec
  have hb := B.bytes
  have hr := B.returns
  have hts := atoms_spec (ws := wsX1_firstReason) B.pre
  have hown : s.vm.findClass RX1 = some m.cls := findClass_of_methodNamed B.named
  have hlocks := B.notSynchronized
  have hS : va_S G.2.2.2.1 s.heap s.heap [] := va_S.rf
  have hl := lv_entry ([.ref (G.2.2.1 1 o), .ref (G.2.2.1 0 a0), .ref (G.2.2.1 3 a1)]) (n := 3) (Nat.le_of_ble_eq_true rfl)
  rw [lg_entry_eq]
  generalize (lg_sl ([.ref (G.2.2.1 1 o), .ref (G.2.2.1 0 a0), .ref (G.2.2.1 3 a1)]) ++ List.replicate (3 - (lg_sl ([.ref (G.2.2.1 1 o), .ref (G.2.2.1 0 a0), .ref (G.2.2.1 3 a1)])).length) Slot.unset).toArray = ls at hl ⊢
  have hl : lv_has ls 3 [(0, .ref (G.2.2.1 1 o)), (1, .ref (G.2.2.1 0 a0)), (2, .ref (G.2.2.1 3 a1))] := hl
  unfold f1_firstReason at h
  refine lv_aload_n hx hb dX1_firstReason_0 rfl (lv_at hl 0 rfl) ?_
  refine r_calli (va_runV (As := []) (rest := []) ⟨hx, hb, hml, hown, hts⟩ (m1_liftedSet l G o hv_this _ st h) (cwV 0 hts gX1_firstReason_X1_liftedSet rfl rfl rfl hd1_liftedSet ⟨Nat.le_of_ble_eq_true rfl, Nat.le_of_ble_eq_true rfl⟩) (pre_V hK hX hI hA hS hv_this rfl rfl []) rfl rfl hl.1 rfl (lv_room (Nat.le_of_ble_eq_true rfl)) dX1_firstReason_1 ⟨Nat.le_of_ble_eq_true rfl, Nat.le_of_ble_eq_true rfl⟩) hS (fun z1 st2 h H locs hI hS => ?_)
  obtain ⟨g3, h⟩ := h
  refine r_if_eq (tgt := 9) hx hb dX1_firstReason_4 (by decide) g3 (fun c4 => ?_) (fun c4 => ?_)
  · replace h := h.1 c4
    refine lv_aload_n hx hb dX1_firstReason_9 rfl (lv_at hl 0 rfl) ?_
    refine lv_aload_n hx hb dX1_firstReason_10 rfl (lv_at hl 1 rfl) ?_
    refine lv_aload_n hx hb dX1_firstReason_11 rfl (lv_at hl 2 rfl) ?_
    refine r_calli (va_runV (As := [.ref (G.2.2.1 0 a0), .ref (G.2.2.1 3 a1)]) (rest := []) ⟨hx, hb, hml, hown, hts⟩ (m1_bearsTooMuch l G o a0 a1 hv_this hv_a0 hv_a1 _ st2 h) (cwV 2 hts gX1_firstReason_X1_bearsTooMuch rfl rfl rfl hd1_bearsTooMuch ⟨Nat.le_of_ble_eq_true rfl, Nat.le_of_ble_eq_true rfl⟩) (pre_V hK hX hI hA hS hv_this rfl rfl [.ref (G.2.2.1 0 a0), .ref (G.2.2.1 3 a1)]) rfl rfl hl.1 rfl (lv_room (Nat.le_of_ble_eq_true rfl)) dX1_firstReason_12 ⟨Nat.le_of_ble_eq_true rfl, Nat.le_of_ble_eq_true rfl⟩) hS (fun z5 st6 h H locs hI hS => ?_)
    obtain ⟨g7, h⟩ := h
    refine r_if_eq (tgt := 20) hx hb dX1_firstReason_15 (by decide) g7 (fun c8 => ?_) (fun c8 => ?_)
    · replace h := h.1 c8
      refine lv_aload_n hx hb dX1_firstReason_20 rfl (lv_at hl 0 rfl) ?_
      refine lv_aload_n hx hb dX1_firstReason_21 rfl (lv_at hl 1 rfl) ?_
      refine lv_aload_n hx hb dX1_firstReason_22 rfl (lv_at hl 2 rfl) ?_
      refine r_calli (va_runV (As := [.ref (G.2.2.1 0 a0), .ref (G.2.2.1 3 a1)]) (rest := []) ⟨hx, hb, hml, hown, hts⟩ (m1_bendsTooMuch l G o a0 a1 hv_this hv_a0 hv_a1 _ st6 h) (cwV 2 hts gX1_firstReason_X1_bendsTooMuch rfl rfl rfl hd1_bendsTooMuch ⟨Nat.le_of_ble_eq_true rfl, Nat.le_of_ble_eq_true rfl⟩) (pre_V hK hX hI hA hS hv_this rfl rfl [.ref (G.2.2.1 0 a0), .ref (G.2.2.1 3 a1)]) rfl rfl hl.1 rfl (lv_room (Nat.le_of_ble_eq_true rfl)) dX1_firstReason_23 ⟨Nat.le_of_ble_eq_true rfl, Nat.le_of_ble_eq_true rfl⟩) hS (fun z9 st10 h H locs hI hS => ?_)
      obtain ⟨g11, h⟩ := h
      refine r_if_eq (tgt := 33) hx hb dX1_firstReason_26 (by decide) g11 (fun c12 => ?_) (fun c12 => ?_)
      · replace h := h.1 c12
        refine r_iconst (n := 0) hx hb dX1_firstReason_33 ?_
        exact r_iret hx hb hr hlocks hK hI hS (Qp := Q) h dX1_firstReason_34
      · replace h := h.2 c12
        refine r_iconst (n := 3) hx hb dX1_firstReason_29 ?_
        refine lv_goto (tgt := 34) hx hb dX1_firstReason_30 (by decide) ?_
        exact r_iret hx hb hr hlocks hK hI hS (Qp := Q) h dX1_firstReason_34
    · replace h := h.2 c8
      refine r_iconst (n := 2) hx hb dX1_firstReason_18 ?_
      exact r_iret hx hb hr hlocks hK hI hS (Qp := Q) h dX1_firstReason_19
  · replace h := h.2 c4
    refine r_iconst (n := 1) hx hb dX1_firstReason_7 ?_
    exact r_iret hx hb hr hlocks hK hI hS (Qp := Q) h dX1_firstReason_8
theorem hd2_forgetOldest : yX2_forgetOldest.cls = RX2 ∧ yX2_forgetOldest.cls ≠ "java/lang/invoke/MethodHandle" ∧ yX2_forgetOldest.cls ≠ "java/lang/invoke/VarHandle" ∧ (parseMethodDescriptor yX2_forgetOldest.desc).map (fun d => d.parameters.length) = some 0 := by decide +kernel
set_option maxHeartbeats 4000000 in
set_option maxRecDepth 100000 in
theorem m2_forgetOldest (l : Launch) (G : WG)   (hv_this : vC 2 0) (Q : St → Prop) (st : St)  (h : f2_forgetOldest Q st) : Met l yX2_forgetOldest wsX2_forgetOldest ({ frames := 0, cells := 0, slots := 0, locals := 0 }) (PcM vC G st [.ref (G.2.2.1 2 0)]) (QvM vC G Q) 0 0 G.2.2.2.1 := by
  refine Met.ofW (cc := cX2_forgetOldest) (maxL := 3) (ret := none) (by decide) rfl ?_
  intro p e s m args below meth c s₁ B hml hvv
  obtain ⟨rfl, hA, hI, hK, hX⟩ := hvv
  have hx := B.exec
  have hb := B.bytes
  have hr := B.returns
  have hts := atoms_spec (ws := wsX2_forgetOldest) B.pre
  have hown : s.vm.findClass RX2 = some m.cls := findClass_of_methodNamed B.named
  have hlocks := B.notSynchronized
  have hS : va_S G.2.2.2.1 s.heap s.heap [] := va_S.rf
  have in2 : ∀ w ∈ wsX20, w ∈ wsX2_forgetOldest := by decide +kernel
  have lk_11 := hts (.fieldLink RX2 11 "BeamLines$History" "beams" "[LBeamLines$Beam;") (by decide +kernel)
  have lk_17 := hts (.fieldLink RX2 17 "BeamLines$History" "size" "I") (by decide +kernel)
  have hl := lv_entry ([.ref (G.2.2.1 2 0)]) (n := 3) (Nat.le_of_ble_eq_true rfl)
  rw [lg_entry_eq]
  generalize (lg_sl ([.ref (G.2.2.1 2 0)]) ++ List.replicate (3 - (lg_sl ([.ref (G.2.2.1 2 0)])).length) Slot.unset).toArray = ls at hl ⊢
  have hl : lv_has ls 3 [(0, .ref (G.2.2.1 2 0))] := hl
  have L9 : ∀ (q1x9 : Int) (hrq1x9 : vC 0 q1x9) (n9 : Nat), ∀ (st : St) (v2x9 : Int) (H : Heap) (locs : List Loc) (ls : Array Slot), Iv vC G st H → va_S G.2.2.2.1 s.heap H locs → lv_has ls 3 [(0, .ref (G.2.2.1 2 0)), (1, .ref (G.2.2.1 0 q1x9)), (2, .int (iI v2x9))] → f2_forgetOldest_l9 Q q1x9 n9 st v2x9 → W p l e (headSpec wsX2_forgetOldest ({ frames := 0, cells := 0, slots := 0, locals := 0 })).room s m ([.ref (G.2.2.1 2 0)] : List Value).toArray below meth c H locs 0 0 (MQ below (QvM vC G Q) ([.ref (G.2.2.1 2 0)] : List Value).toArray s 0 0 G.2.2.2.1) (F0 m 9 ls []) := by
    intro q1x9 hrq1x9 n9
    induction n9 with
    | zero =>
      intro st v2x9 H locs ls hI hS hl h
      exact h.elim
    | succ n9 ih9 =>
      intro st v2x9 H locs ls hI hS hl h
      unfold f2_forgetOldest_l9 at h
      refine lv_iload_n hx hb dX2_forgetOldest_9 rfl (lv_at hl 2 rfl) ?_
      refine r_bipush (n := 8) hx hb dX2_forgetOldest_10 rfl ?_
      obtain ⟨g3, h⟩ := h
      refine r_icmp_ge (tgt := 35) hx hb dX2_forgetOldest_12 (by decide) g3 (inI_mk rfl) (fun c4 => ?_) (fun c4 => ?_)
      · replace h := h.1 c4
        refine lv_aload_n hx hb dX2_forgetOldest_35 rfl (lv_at hl 0 rfl) ?_
        refine gg_2_0 hx hb hts in2 hown hK hI hv_this lk_11 dX2_forgetOldest_36 ?_
        refine r_bipush (n := 7) hx hb dX2_forgetOldest_39 rfl ?_
        refine lv_aload_n hx hb dX2_forgetOldest_41 rfl (lv_at hl 1 rfl) ?_
        refine r_aastB hx hb hK hI hS (vrC_2_0 hv_this) hrq1x9 dX2_forgetOldest_42 (by decide) (by decide) (fun st5 hst5 H locs hI hS => ?_)
        replace h := h st5 hst5
        refine lv_aload_n hx hb dX2_forgetOldest_43 rfl (lv_at hl 0 rfl) ?_
        refine r_bipush (n := 7) hx hb dX2_forgetOldest_44 rfl ?_
        refine pp_2_1 hx hb hts in2 hown hK hI hS hv_this lk_17 dX2_forgetOldest_46 (fun st6 hst6 H locs hI hS => ?_)
        replace h := h st6 hst6
        exact r_vret hx hb hr hlocks hK hI hS (Qp := Q) h dX2_forgetOldest_49
      · replace h := h.2 c4
        refine lv_aload_n hx hb dX2_forgetOldest_15 rfl (lv_at hl 0 rfl) ?_
        refine gg_2_0 hx hb hts in2 hown hK hI hv_this lk_11 dX2_forgetOldest_16 ?_
        refine lv_iload_n hx hb dX2_forgetOldest_19 rfl (lv_at hl 2 rfl) ?_
        refine r_iconst (n := 1) hx hb dX2_forgetOldest_20 ?_
        refine r_isub hx hb dX2_forgetOldest_21 ?_
        refine lv_aload_n hx hb dX2_forgetOldest_22 rfl (lv_at hl 0 rfl) ?_
        refine gg_2_0 hx hb hts in2 hown hK hI hv_this lk_11 dX2_forgetOldest_23 ?_
        refine lv_iload_n hx hb dX2_forgetOldest_26 rfl (lv_at hl 2 rfl) ?_
        obtain ⟨g7, g8, h⟩ := h
        obtain ⟨x9, hx9⟩ : ∃ z : Int, z = st 16 0 0 v2x9 := ⟨_, rfl⟩
        replace h := h x9 hx9
        obtain ⟨g10, h⟩ := h
        refine r_aaldB hx hb hK hI (K := 16) (vrC_2_0 hv_this) rfl (lts_mk rfl) dX2_forgetOldest_27 g7 g8 (a := G.2.2.1 0 x9) (by rw [Int.toNat_of_nonneg g7, hx9]) ?_
        obtain ⟨g11, g12, h⟩ := h
        refine r_aastB hx hb hK hI hS (vrC_2_0 hv_this) (vC_0 g10.1 g10.2) dX2_forgetOldest_28 g11 g12 (fun st13 hst13 H locs hI hS => ?_)
        replace h := h st13 hst13
        obtain ⟨x14, hx14⟩ : ∃ z : Int, z = v2x9 + 1 := ⟨_, rfl⟩
        replace h := h x14 hx14
        refine lv_iinc (v := iI x14) (lv' := [(2, .int (iI x14)), (0, .ref (G.2.2.1 2 0)), (1, .ref (G.2.2.1 0 q1x9))]) hx hb dX2_forgetOldest_29 hl (k := 2) rfl (by rw [hx14]; exact iI_add _ _) (by decide) rfl (fun ls hl => ?_)
        refine lv_goto (tgt := 9) hx hb dX2_forgetOldest_32 (by decide) ?_
        exact ih9 st13 x14 _ _ ls hI hS (lv_sub hl [1, 2, 0] rfl) h
  unfold f2_forgetOldest at h
  refine lv_aload_n hx hb dX2_forgetOldest_0 rfl (lv_at hl 0 rfl) ?_
  refine gg_2_0 hx hb hts in2 hown hK hI hv_this lk_11 dX2_forgetOldest_1 ?_
  refine r_iconst (n := 0) hx hb dX2_forgetOldest_4 ?_
  obtain ⟨x1, hx1⟩ : ∃ z : Int, z = st 16 0 0 0 := ⟨_, rfl⟩
  replace h := h x1 hx1
  obtain ⟨g2, h⟩ := h
  refine r_aaldB hx hb hK hI (K := 16) (vrC_2_0 hv_this) rfl (lts_mk rfl) dX2_forgetOldest_5 (by decide) (by decide) (a := G.2.2.1 0 x1) (by rw [Int.toNat_of_nonneg (by decide), hx1]) ?_
  refine lv_astore_n (lv' := [(1, .ref (G.2.2.1 0 x1)), (0, .ref (G.2.2.1 2 0))]) hx hb dX2_forgetOldest_6 rfl hl (by decide) rfl (fun ls hl => ?_)
  refine r_iconst (n := 1) hx hb dX2_forgetOldest_7 ?_
  refine lv_istore_n (lv' := [(2, .int (iI 1)), (1, .ref (G.2.2.1 0 x1)), (0, .ref (G.2.2.1 2 0))]) hx hb dX2_forgetOldest_8 rfl hl (by decide) rfl (fun ls hl => ?_)
  obtain ⟨kk, h⟩ := h
  exact L9 x1 (vC_0 g2.1 g2.2) kk st 1 _ _ ls hI hS (lv_sub hl [2, 1, 0] rfl) h
theorem hd2_remember : yX2_remember.cls = RX2 ∧ yX2_remember.cls ≠ "java/lang/invoke/MethodHandle" ∧ yX2_remember.cls ≠ "java/lang/invoke/VarHandle" ∧ (parseMethodDescriptor yX2_remember.desc).map (fun d => d.parameters.length) = some 1 := by decide +kernel
set_option maxHeartbeats 4000000 in
set_option maxRecDepth 100000 in
theorem m2_remember (l : Launch) (G : WG)  (a0 : Int) (hv_this : vC 2 0) (hv_a0 : vC 0 a0) (Q : St → Prop) (st : St)  (h : f2_remember a0 Q st) : Met l yX2_remember wsX2_remember ({ frames := 4, cells := 0, slots := 0, locals := 85 }) (PcM vC G st [.ref (G.2.2.1 2 0), .ref (G.2.2.1 0 a0)]) (QvM vC G Q) 0 0 G.2.2.2.1 := by
  refine Met.ofW (cc := cX2_remember) (maxL := 2) (ret := none) (by decide) rfl ?_
  intro p e s m args below meth c s₁ B hml hvv
  obtain ⟨rfl, hA, hI, hK, hX⟩ := hvv
  have hx := B.exec
  have hb := B.bytes
  have hr := B.returns
  have hts := atoms_spec (ws := wsX2_remember) B.pre
  have hown : s.vm.findClass RX2 = some m.cls := findClass_of_methodNamed B.named
  have hlocks := B.notSynchronized
  have hS : va_S G.2.2.2.1 s.heap s.heap [] := va_S.rf
  have in2 : ∀ w ∈ wsX20, w ∈ wsX2_remember := by decide +kernel
  have lk_11 := hts (.fieldLink RX2 11 "BeamLines$History" "beams" "[LBeamLines$Beam;") (by decide +kernel)
  have lk_17 := hts (.fieldLink RX2 17 "BeamLines$History" "size" "I") (by decide +kernel)
  have hl := lv_entry ([.ref (G.2.2.1 2 0), .ref (G.2.2.1 0 a0)]) (n := 2) (Nat.le_of_ble_eq_true rfl)
  rw [lg_entry_eq]
  generalize (lg_sl ([.ref (G.2.2.1 2 0), .ref (G.2.2.1 0 a0)]) ++ List.replicate (2 - (lg_sl ([.ref (G.2.2.1 2 0), .ref (G.2.2.1 0 a0)])).length) Slot.unset).toArray = ls at hl ⊢
  have hl : lv_has ls 2 [(0, .ref (G.2.2.1 2 0)), (1, .ref (G.2.2.1 0 a0))] := hl
  have J13 : ∀ (st : St) (H : Heap) (locs : List Loc) (ls : Array Slot), Iv vC G st H → va_S G.2.2.2.1 s.heap H locs → lv_has ls 2 [(0, .ref (G.2.2.1 2 0)), (1, .ref (G.2.2.1 0 a0))] → f2_remember_j13 a0 Q st → W p l e (headSpec wsX2_remember ({ frames := 4, cells := 0, slots := 0, locals := 85 })).room s m ([.ref (G.2.2.1 2 0), .ref (G.2.2.1 0 a0)] : List Value).toArray below meth c H locs 0 0 (MQ below (QvM vC G Q) ([.ref (G.2.2.1 2 0), .ref (G.2.2.1 0 a0)] : List Value).toArray s 0 0 G.2.2.2.1) (F0 m 13 ls []) := by
    intro st H locs ls hI hS hl h
    unfold f2_remember_j13 at h
    refine lv_aload_n hx hb dX2_remember_13 rfl (lv_at hl 0 rfl) ?_
    refine gg_2_0 hx hb hts in2 hown hK hI hv_this lk_11 dX2_remember_14 ?_
    refine lv_aload_n hx hb dX2_remember_17 rfl (lv_at hl 0 rfl) ?_
    refine gg_2_1 hx hb hts in2 hown hK hI hv_this lk_17 dX2_remember_18 ?_
    obtain ⟨g5, g6, h⟩ := h
    obtain ⟨x7, hx7⟩ : ∃ z : Int, z = st 16 0 0 (st 2 1 0 0) := ⟨_, rfl⟩
    replace h := h x7 hx7
    obtain ⟨g8, h⟩ := h
    refine r_aaldB hx hb hK hI (K := 16) (vrC_2_0 hv_this) rfl (lts_mk rfl) dX2_remember_21 g5 g6 (a := G.2.2.1 0 x7) (by rw [Int.toNat_of_nonneg g5, hx7]) ?_
    refine lv_aload_n hx hb dX2_remember_22 rfl (lv_at hl 1 rfl) ?_
    refine r_callv (va_runV (As := [.ref (G.2.2.1 0 a0)]) (rest := []) ⟨hx, hb, hml, hown, hts⟩ (m0_copyFrom l G x7 a0 (vC_0 g8.1 g8.2) hv_a0 _ st h) (cwV 1 hts gX2_remember_X0_copyFrom rfl rfl rfl hd0_copyFrom ⟨Nat.le_of_ble_eq_true rfl, Nat.le_of_ble_eq_true rfl⟩) (pre_V hK hX hI hA hS (vC_0 g8.1 g8.2) rfl rfl [.ref (G.2.2.1 0 a0)]) rfl rfl hl.1 rfl (lv_room (Nat.le_of_ble_eq_true rfl)) dX2_remember_23 ⟨Nat.le_of_ble_eq_true rfl, Nat.le_of_ble_eq_true rfl⟩) hS (fun st10 h H locs hI hS => ?_)
    refine lv_aload_n hx hb dX2_remember_26 rfl (lv_at hl 0 rfl) ?_
    refine lv_dup hx hb dX2_remember_27 rfl ?_
    refine gg_2_1 hx hb hts in2 hown hK hI hv_this lk_17 dX2_remember_28 ?_
    refine r_iconst (n := 1) hx hb dX2_remember_31 ?_
    refine r_iadd hx hb dX2_remember_32 ?_
    refine pp_2_1 hx hb hts in2 hown hK hI hS hv_this lk_17 dX2_remember_33 (fun st11 hst11 H locs hI hS => ?_)
    replace h := h st11 hst11
    exact r_vret hx hb hr hlocks hK hI hS (Qp := Q) h dX2_remember_36
  unfold f2_remember at h
  refine lv_aload_n hx hb dX2_remember_0 rfl (lv_at hl 0 rfl) ?_
  refine gg_2_1 hx hb hts in2 hown hK hI hv_this lk_17 dX2_remember_1 ?_
  refine r_bipush (n := 8) hx hb dX2_remember_4 rfl ?_
  obtain ⟨g1, h⟩ := h
  refine r_icmp_lt (tgt := 13) hx hb dX2_remember_6 (by decide) g1 (inI_mk rfl) (fun c2 => ?_) (fun c2 => ?_)
  · replace h := h.1 c2
    exact J13 st  _ _ ls hI hS (lv_sub hl [0, 1] rfl) h
  · replace h := h.2 c2
    refine lv_aload_n hx hb dX2_remember_9 rfl (lv_at hl 0 rfl) ?_
    refine r_callv (va_runV (As := []) (rest := []) ⟨hx, hb, hml, hown, hts⟩ (m2_forgetOldest l G hv_this _ st h) (cwV 0 hts gX2_remember_X2_forgetOldest rfl rfl rfl hd2_forgetOldest ⟨Nat.le_of_ble_eq_true rfl, Nat.le_of_ble_eq_true rfl⟩) (pre_V hK hX hI hA hS hv_this rfl rfl []) rfl rfl hl.1 rfl (lv_room (Nat.le_of_ble_eq_true rfl)) dX2_remember_10 ⟨Nat.le_of_ble_eq_true rfl, Nat.le_of_ble_eq_true rfl⟩) hS (fun st4 h H locs hI hS => ?_)
    exact J13 st4  _ _ ls hI hS (lv_sub hl [0, 1] rfl) h
theorem hd2_takeBack : yX2_takeBack.cls = RX2 ∧ yX2_takeBack.cls ≠ "java/lang/invoke/MethodHandle" ∧ yX2_takeBack.cls ≠ "java/lang/invoke/VarHandle" ∧ (parseMethodDescriptor yX2_takeBack.desc).map (fun d => d.parameters.length) = some 1 := by decide +kernel
set_option maxHeartbeats 4000000 in
set_option maxRecDepth 100000 in
theorem m2_takeBack (l : Launch) (G : WG)  (a0 : Int) (hv_this : vC 2 0) (hv_a0 : vC 0 a0) (Q : Int → St → Prop) (st : St)  (h : f2_takeBack a0 Q st) : Met l yX2_takeBack wsX2_takeBack ({ frames := 4, cells := 0, slots := 0, locals := 85 }) (PcM vC G st [.ref (G.2.2.1 2 0), .ref (G.2.2.1 0 a0)]) (QiM vC G Q) 0 0 G.2.2.2.1 := by
  refine Met.ofW (cc := cX2_takeBack) (maxL := 2) (ret := (some .boolean)) (by decide) rfl ?_
  intro p e s m args below meth c s₁ B hml hvv
  obtain ⟨rfl, hA, hI, hK, hX⟩ := hvv
  have hx := B.exec
  have hb := B.bytes
  have hr := B.returns
  have hts := atoms_spec (ws := wsX2_takeBack) B.pre
  have hown : s.vm.findClass RX2 = some m.cls := findClass_of_methodNamed B.named
  have hlocks := B.notSynchronized
  have hS : va_S G.2.2.2.1 s.heap s.heap [] := va_S.rf
  have in2 : ∀ w ∈ wsX20, w ∈ wsX2_takeBack := by decide +kernel
  have lk_11 := hts (.fieldLink RX2 11 "BeamLines$History" "beams" "[LBeamLines$Beam;") (by decide +kernel)
  have lk_17 := hts (.fieldLink RX2 17 "BeamLines$History" "size" "I") (by decide +kernel)
  have hl := lv_entry ([.ref (G.2.2.1 2 0), .ref (G.2.2.1 0 a0)]) (n := 2) (Nat.le_of_ble_eq_true rfl)
  rw [lg_entry_eq]
  generalize (lg_sl ([.ref (G.2.2.1 2 0), .ref (G.2.2.1 0 a0)]) ++ List.replicate (2 - (lg_sl ([.ref (G.2.2.1 2 0), .ref (G.2.2.1 0 a0)])).length) Slot.unset).toArray = ls at hl ⊢
  have hl : lv_has ls 2 [(0, .ref (G.2.2.1 2 0)), (1, .ref (G.2.2.1 0 a0))] := hl
  unfold f2_takeBack at h
  refine lv_aload_n hx hb dX2_takeBack_0 rfl (lv_at hl 0 rfl) ?_
  refine gg_2_1 hx hb hts in2 hown hK hI hv_this lk_17 dX2_takeBack_1 ?_
  obtain ⟨g1, h⟩ := h
  refine r_if_le (tgt := 16) hx hb dX2_takeBack_4 (by decide) g1 (fun c2 => ?_) (fun c2 => ?_)
  · replace h := h.1 c2
    refine r_iconst (n := 0) hx hb dX2_takeBack_16 ?_
    exact r_zret hx hb hr hlocks hK hI hS (Qp := Q) (by decide) h dX2_takeBack_17
  · replace h := h.2 c2
    refine lv_aload_n hx hb dX2_takeBack_7 rfl (lv_at hl 0 rfl) ?_
    refine gg_2_1 hx hb hts in2 hown hK hI hv_this lk_17 dX2_takeBack_8 ?_
    refine r_bipush (n := 8) hx hb dX2_takeBack_11 rfl ?_
    obtain ⟨g3, h⟩ := h
    refine r_icmp_le (tgt := 18) hx hb dX2_takeBack_13 (by decide) g3 (inI_mk rfl) (fun c4 => ?_) (fun c4 => ?_)
    · replace h := h.1 c4
      refine lv_aload_n hx hb dX2_takeBack_18 rfl (lv_at hl 0 rfl) ?_
      refine lv_dup hx hb dX2_takeBack_19 rfl ?_
      refine gg_2_1 hx hb hts in2 hown hK hI hv_this lk_17 dX2_takeBack_20 ?_
      refine r_iconst (n := 1) hx hb dX2_takeBack_23 ?_
      refine r_isub hx hb dX2_takeBack_24 ?_
      refine pp_2_1 hx hb hts in2 hown hK hI hS hv_this lk_17 dX2_takeBack_25 (fun st5 hst5 H locs hI hS => ?_)
      replace h := h st5 hst5
      refine lv_aload_n hx hb dX2_takeBack_28 rfl (lv_at hl 1 rfl) ?_
      refine lv_aload_n hx hb dX2_takeBack_29 rfl (lv_at hl 0 rfl) ?_
      refine gg_2_0 hx hb hts in2 hown hK hI hv_this lk_11 dX2_takeBack_30 ?_
      refine lv_aload_n hx hb dX2_takeBack_33 rfl (lv_at hl 0 rfl) ?_
      refine gg_2_1 hx hb hts in2 hown hK hI hv_this lk_17 dX2_takeBack_34 ?_
      obtain ⟨g6, g7, h⟩ := h
      obtain ⟨x8, hx8⟩ : ∃ z : Int, z = st5 16 0 0 (st5 2 1 0 0) := ⟨_, rfl⟩
      replace h := h x8 hx8
      obtain ⟨g9, h⟩ := h
      refine r_aaldB hx hb hK hI (K := 16) (vrC_2_0 hv_this) rfl (lts_mk rfl) dX2_takeBack_37 g6 g7 (a := G.2.2.1 0 x8) (by rw [Int.toNat_of_nonneg g6, hx8]) ?_
      refine r_callv (va_runV (As := [.ref (G.2.2.1 0 x8)]) (rest := []) ⟨hx, hb, hml, hown, hts⟩ (m0_copyFrom l G a0 x8 hv_a0 (vC_0 g9.1 g9.2) _ st5 h) (cwV 1 hts gX2_takeBack_X0_copyFrom rfl rfl rfl hd0_copyFrom ⟨Nat.le_of_ble_eq_true rfl, Nat.le_of_ble_eq_true rfl⟩) (pre_V hK hX hI hA hS hv_a0 rfl rfl [.ref (G.2.2.1 0 x8)]) rfl rfl hl.1 rfl (lv_room (Nat.le_of_ble_eq_true rfl)) dX2_takeBack_38 ⟨Nat.le_of_ble_eq_true rfl, Nat.le_of_ble_eq_true rfl⟩) hS (fun st11 h H locs hI hS => ?_)
      refine r_iconst (n := 1) hx hb dX2_takeBack_41 ?_
      exact r_zret hx hb hr hlocks hK hI hS (Qp := Q) (by decide) h dX2_takeBack_42
    · replace h := h.2 c4
      refine r_iconst (n := 0) hx hb dX2_takeBack_16 ?_
      exact r_zret hx hb hr hlocks hK hI hS (Qp := Q) (by decide) h dX2_takeBack_17
theorem hd3_weighing : yX3_weighing.cls ≠ "java/lang/invoke/MethodHandle" ∧ yX3_weighing.cls ≠ "java/lang/invoke/VarHandle" ∧ (parseMethodDescriptor yX3_weighing.desc).map (fun d => d.parameters.length) = some 3 := by decide +kernel
set_option maxHeartbeats 4000000 in
set_option maxRecDepth 100000 in
theorem m3_weighing (l : Launch) (G : WG)  (a0 : Int) (hv_a0 : vC 0 a0) (Q : Int → St → Prop) (st : St) (a1 : Int) (a2 : Int) (h : f3_weighing a0 Q st a1 a2) : Met l yX3_weighing wsX3_weighing ({ frames := 2, cells := 0, slots := 0, locals := 42 }) (PcM vC G st [.ref (G.2.2.1 0 a0), .int (iI a1), .int (iI a2)]) (QiM vC G Q) 0 0 G.2.2.2.1 := by
  refine Met.ofW (cc := cX3_weighing) (maxL := 3) (ret := (some .int)) (by decide) rfl ?_
  intro p e s m args below meth c s₁ B hml hvv
  obtain ⟨rfl, hA, hI, hK, hX⟩ := hvv
  have hx := B.exec
  have hb := B.bytes
  have hr := B.returns
  have hts := atoms_spec (ws := wsX3_weighing) B.pre
  have hown : s.vm.findClass RX3 = some m.cls := findClass_of_methodNamed B.named
  have hlocks := B.notSynchronized
  have hS : va_S G.2.2.2.1 s.heap s.heap [] := va_S.rf
  have in0 : ∀ w ∈ wsX00, w ∈ wsX3_weighing := by decide +kernel
  have lk_63 := hts (.fieldLink RX3 63 "BeamLines$Beam" "hinges" "LBeamLines$Row;") (by decide +kernel)
  have ml_70 : (Cond.methodLink RX3 70 Lib.Math.max.name).before _ s = true ∧ (Cond.static Lib.Math.max.name).before _ s = true ∧ (Cond.initialized "java/lang/Math").before _ s = true ∧ (Cond.code Lib.Math.max.name Lib.Math.max.code 2 (some .int)).before _ s = true := ⟨hts _ (by decide +kernel), hts _ (by decide +kernel), hts _ (by decide +kernel), hts _ (by decide +kernel)⟩
  have hl := lv_entry ([.ref (G.2.2.1 0 a0), .int (iI a1), .int (iI a2)]) (n := 3) (Nat.le_of_ble_eq_true rfl)
  rw [lg_entry_eq]
  generalize (lg_sl ([.ref (G.2.2.1 0 a0), .int (iI a1), .int (iI a2)]) ++ List.replicate (3 - (lg_sl ([.ref (G.2.2.1 0 a0), .int (iI a1), .int (iI a2)])).length) Slot.unset).toArray = ls at hl ⊢
  have hl : lv_has ls 3 [(0, .ref (G.2.2.1 0 a0)), (1, .int (iI a1)), (2, .int (iI a2))] := hl
  unfold f3_weighing at h
  refine lv_iload_n hx hb dX3_weighing_0 rfl (lv_at hl 1 rfl) ?_
  obtain ⟨g1, h⟩ := h
  refine r_if_ne (tgt := 6) hx hb dX3_weighing_1 (by decide) g1 (fun c2 => ?_) (fun c2 => ?_)
  · replace h := h.2 c2
    refine lv_iload_n hx hb dX3_weighing_6 rfl (lv_at hl 1 rfl) ?_
    refine r_iconst (n := 1) hx hb dX3_weighing_7 ?_
    obtain ⟨g3, h⟩ := h
    refine r_icmp_ne (tgt := 13) hx hb dX3_weighing_8 (by decide) g3 (inI_mk rfl) (fun c4 => ?_) (fun c4 => ?_)
    · replace h := h.2 c4
      refine r_iconst (n := 0) hx hb dX3_weighing_13 ?_
      refine lv_aload_n hx hb dX3_weighing_14 rfl (lv_at hl 0 rfl) ?_
      refine gg_0_3 hx hb hts in0 hown hK hI hv_a0 lk_63 dX3_weighing_15 ?_
      refine lv_iload_n hx hb dX3_weighing_18 rfl (lv_at hl 1 rfl) ?_
      refine r_iconst (n := 2) hx hb dX3_weighing_19 ?_
      refine r_isub hx hb dX3_weighing_20 ?_
      refine r_calli (va_runV (As := [.int (iI (a1 - 2))]) (rest := [.int (iI 0)]) ⟨hx, hb, hml, hown, hts⟩ (m6_first l G (4 * a0 + 1) (vrC_0_3 hv_a0) _ st (a1 - 2) h) (cwV 1 hts gX3_weighing_X6_first rfl rfl rfl hd6_first ⟨Nat.le_of_ble_eq_true rfl, Nat.le_of_ble_eq_true rfl⟩) (pre_V hK hX hI hA hS (vrC_0_3 hv_a0) rfl rfl [.int (iI (a1 - 2))]) rfl rfl hl.1 rfl (lv_room (Nat.le_of_ble_eq_true rfl)) dX3_weighing_21 ⟨Nat.le_of_ble_eq_true rfl, Nat.le_of_ble_eq_true rfl⟩) hS (fun z5 st6 h H locs hI hS => ?_)
      refine lv_iload_n hx hb dX3_weighing_24 rfl (lv_at hl 2 rfl) ?_
      refine r_isub hx hb dX3_weighing_25 ?_
      obtain ⟨g7, h⟩ := h
      refine r_mmax hx hb (hml.trans hl.1.symm) hown ml_70 dX3_weighing_26 (inI_mk rfl) g7 ⟨Nat.le_of_ble_eq_true rfl, Nat.le_of_ble_eq_true rfl, Nat.zero_le _, Nat.zero_le _⟩ (Nat.le_of_ble_eq_true rfl) ?_
      exact r_iret hx hb hr hlocks hK hI hS (Qp := Q) h dX3_weighing_29
    · replace h := h.1 c4
      refine lv_iload_n hx hb dX3_weighing_11 rfl (lv_at hl 2 rfl) ?_
      exact r_iret hx hb hr hlocks hK hI hS (Qp := Q) h dX3_weighing_12
  · replace h := h.1 c2
    refine r_iconst (n := 1) hx hb dX3_weighing_4 ?_
    exact r_iret hx hb hr hlocks hK hI hS (Qp := Q) h dX3_weighing_5
theorem hd3_setEquations : yX3_setEquations.cls = RX3 ∧ yX3_setEquations.cls ≠ "java/lang/invoke/MethodHandle" ∧ yX3_setEquations.cls ≠ "java/lang/invoke/VarHandle" ∧ (parseMethodDescriptor yX3_setEquations.desc).map (fun d => d.parameters.length) = some 1 := by decide +kernel
set_option maxHeartbeats 4000000 in
set_option maxRecDepth 100000 in
theorem m3_setEquations (l : Launch) (G : WG)  (o : Int) (a0 : Int) (hv_this : vC 3 o) (hv_a0 : vC 0 a0) (Q : St → Prop) (st : St)  (h : f3_setEquations o a0 Q st) : Met l yX3_setEquations wsX3_setEquations ({ frames := 3, cells := 0, slots := 0, locals := 64 }) (PcM vC G st [.ref (G.2.2.1 3 o), .ref (G.2.2.1 0 a0)]) (QvM vC G Q) 0 0 G.2.2.2.1 := by
  refine Met.ofW (cc := cX3_setEquations) (maxL := 4) (ret := none) (by decide) rfl ?_
  intro p e s m args below meth c s₁ B hml hvv
  obtain ⟨rfl, hA, hI, hK, hX⟩ := hvv
  have hx := B.exec
  have hb := B.bytes
  have hr := B.returns
  have hts := atoms_spec (ws := wsX3_setEquations) B.pre
  have hown : s.vm.findClass RX3 = some m.cls := findClass_of_methodNamed B.named
  have hlocks := B.notSynchronized
  have hS : va_S G.2.2.2.1 s.heap s.heap [] := va_S.rf
  have in0 : ∀ w ∈ wsX00, w ∈ wsX3_setEquations := by decide +kernel
  have in3 : ∀ w ∈ wsX30, w ∈ wsX3_setEquations := by decide +kernel
  have lk_11 := hts (.fieldLink RX3 11 "BeamLines$Lines" "matrix" "[[J") (by decide +kernel)
  have lk_19 := hts (.fieldLink RX3 19 "BeamLines$Lines" "size" "I") (by decide +kernel)
  have lk_30 := hts (.fieldLink RX3 30 "BeamLines$Beam" "supports" "LBeamLines$Row;") (by decide +kernel)
  have hl := lv_entry ([.ref (G.2.2.1 3 o), .ref (G.2.2.1 0 a0)]) (n := 4) (Nat.le_of_ble_eq_true rfl)
  rw [lg_entry_eq]
  generalize (lg_sl ([.ref (G.2.2.1 3 o), .ref (G.2.2.1 0 a0)]) ++ List.replicate (4 - (lg_sl ([.ref (G.2.2.1 3 o), .ref (G.2.2.1 0 a0)])).length) Slot.unset).toArray = ls at hl ⊢
  have hl : lv_has ls 4 [(0, .ref (G.2.2.1 3 o)), (1, .ref (G.2.2.1 0 a0))] := hl
  have L2 : ∀ (n2 : Nat), ∀ (st : St) (v2x2 : Int) (H : Heap) (locs : List Loc) (ls : Array Slot), Iv vC G st H → va_S G.2.2.2.1 s.heap H locs → lv_has ls 4 [(0, .ref (G.2.2.1 3 o)), (1, .ref (G.2.2.1 0 a0)), (2, .int (iI v2x2))] → f3_setEquations_l2 o a0 Q n2 st v2x2 → W p l e (headSpec wsX3_setEquations ({ frames := 3, cells := 0, slots := 0, locals := 64 })).room s m ([.ref (G.2.2.1 3 o), .ref (G.2.2.1 0 a0)] : List Value).toArray below meth c H locs 0 0 (MQ below (QvM vC G Q) ([.ref (G.2.2.1 3 o), .ref (G.2.2.1 0 a0)] : List Value).toArray s 0 0 G.2.2.2.1) (F0 m 2 ls []) := by
    intro n2
    induction n2 with
    | zero =>
      intro st v2x2 H locs ls hI hS hl h
      exact h.elim
    | succ n2 ih2 =>
      have L12 : ∀ (v2x12 : Int) (n12 : Nat), ∀ (st : St) (v3x12 : Int) (H : Heap) (locs : List Loc) (ls : Array Slot), Iv vC G st H → va_S G.2.2.2.1 s.heap H locs → lv_has ls 4 [(0, .ref (G.2.2.1 3 o)), (1, .ref (G.2.2.1 0 a0)), (2, .int (iI v2x12)), (3, .int (iI v3x12))] → f3_setEquations_l12 o a0 (fun st v2x2 => f3_setEquations_l2 o a0 Q n2 st v2x2) Q v2x12 n12 st v3x12 → W p l e (headSpec wsX3_setEquations ({ frames := 3, cells := 0, slots := 0, locals := 64 })).room s m ([.ref (G.2.2.1 3 o), .ref (G.2.2.1 0 a0)] : List Value).toArray below meth c H locs 0 0 (MQ below (QvM vC G Q) ([.ref (G.2.2.1 3 o), .ref (G.2.2.1 0 a0)] : List Value).toArray s 0 0 G.2.2.2.1) (F0 m 12 ls []) := by
        intro v2x12 n12
        induction n12 with
        | zero =>
          intro st v3x12 H locs ls hI hS hl h
          exact h.elim
        | succ n12 ih12 =>
          have J64 : ∀ (st : St) (v3x64 : Int) (s0x64 : Int) (s1x64 : Int) (hrp2x64 : vC 18 (5 * o + v2x12)) (H : Heap) (locs : List Loc) (ls : Array Slot), Iv vC G st H → va_S G.2.2.2.1 s.heap H locs → lv_has ls 4 [(0, .ref (G.2.2.1 3 o)), (1, .ref (G.2.2.1 0 a0)), (2, .int (iI v2x12)), (3, .int (iI v3x64))] → f3_setEquations_j64 o a0 (fun st v2x2 => f3_setEquations_l2 o a0 Q n2 st v2x2) (fun st v3x12 => f3_setEquations_l12 o a0 (fun st v2x2 => f3_setEquations_l2 o a0 Q n2 st v2x2) Q v2x12 n12 st v3x12) Q v2x12 st v3x64 s0x64 s1x64 → W p l e (headSpec wsX3_setEquations ({ frames := 3, cells := 0, slots := 0, locals := 64 })).room s m ([.ref (G.2.2.1 3 o), .ref (G.2.2.1 0 a0)] : List Value).toArray below meth c H locs 0 0 (MQ below (QvM vC G Q) ([.ref (G.2.2.1 3 o), .ref (G.2.2.1 0 a0)] : List Value).toArray s 0 0 G.2.2.2.1) (F0 m 64 ls [.long (lI s0x64), .int (iI s1x64), .ref (G.2.2.1 18 (5 * o + v2x12))]) := by
            intro st v3x64 s0x64 s1x64 hrp2x64 H locs ls hI hS hl h
            unfold f3_setEquations_j64 at h
            obtain ⟨g23, g24, h⟩ := h
            refine r_last hx hb hK hI hS (K := 18) hrp2x64 (fun _ => rfl) (lts_mk rfl) dX3_setEquations_64 g23 g24 (fun st25 hst25 H locs hI hS => ?_)
            replace h := h st25 hst25
            obtain ⟨x26, hx26⟩ : ∃ z : Int, z = v3x64 + 1 := ⟨_, rfl⟩
            replace h := h x26 hx26
            refine lv_iinc (v := iI x26) (lv' := [(3, .int (iI x26)), (0, .ref (G.2.2.1 3 o)), (1, .ref (G.2.2.1 0 a0)), (2, .int (iI v2x12))]) hx hb dX3_setEquations_65 hl (k := 3) rfl (by rw [hx26]; exact iI_add _ _) (by decide) rfl (fun ls hl => ?_)
            refine lv_goto (tgt := 12) hx hb dX3_setEquations_68 (by decide) ?_
            exact ih12 st25 x26 _ _ ls hI hS (lv_sub hl [1, 2, 3, 0] rfl) h
          intro st v3x12 H locs ls hI hS hl h
          unfold f3_setEquations_l12 at h
          refine lv_iload_n hx hb dX3_setEquations_12 rfl (lv_at hl 3 rfl) ?_
          refine lv_aload_n hx hb dX3_setEquations_13 rfl (lv_at hl 0 rfl) ?_
          refine gg_3_2 hx hb hts in3 hown hK hI hv_this lk_19 dX3_setEquations_14 ?_
          obtain ⟨g4, h⟩ := h
          obtain ⟨g5, h⟩ := h
          refine r_icmp_ge (tgt := 71) hx hb dX3_setEquations_17 (by decide) g4 g5 (fun c6 => ?_) (fun c6 => ?_)
          · replace h := h.1 c6
            obtain ⟨x7, hx7⟩ : ∃ z : Int, z = v2x12 + 1 := ⟨_, rfl⟩
            replace h := h x7 hx7
            refine lv_iinc (v := iI x7) (lv' := [(2, .int (iI x7)), (0, .ref (G.2.2.1 3 o)), (1, .ref (G.2.2.1 0 a0)), (3, .int (iI v3x12))]) hx hb dX3_setEquations_71 hl (k := 2) rfl (by rw [hx7]; exact iI_add _ _) (by decide) rfl (fun ls hl => ?_)
            refine lv_goto (tgt := 2) hx hb dX3_setEquations_74 (by decide) ?_
            exact ih2 st x7 _ _ ls hI hS (lv_sub hl [1, 2, 0] rfl) h
          · replace h := h.2 c6
            refine lv_aload_n hx hb dX3_setEquations_20 rfl (lv_at hl 0 rfl) ?_
            refine gg_3_0 hx hb hts in3 hown hK hI hv_this lk_11 dX3_setEquations_21 ?_
            refine lv_iload_n hx hb dX3_setEquations_24 rfl (lv_at hl 2 rfl) ?_
            obtain ⟨g8, g9, h⟩ := h
            refine r_aaldL hx hb hK hI (K := 17) (vrC_3_0 hv_this) rfl (lts_mk rfl) dX3_setEquations_25 g8 g9 (a := G.2.2.1 18 (5 * o + v2x12)) (by rw [Int.toNat_of_nonneg g8]) ?_
            refine lv_iload_n hx hb dX3_setEquations_26 rfl (lv_at hl 3 rfl) ?_
            refine lv_aload_n hx hb dX3_setEquations_27 rfl (lv_at hl 1 rfl) ?_
            refine lv_iload_n hx hb dX3_setEquations_28 rfl (lv_at hl 2 rfl) ?_
            refine lv_aload_n hx hb dX3_setEquations_29 rfl (lv_at hl 1 rfl) ?_
            refine gg_0_2 hx hb hts in0 hown hK hI hv_a0 lk_30 dX3_setEquations_30 ?_
            refine lv_iload_n hx hb dX3_setEquations_33 rfl (lv_at hl 3 rfl) ?_
            refine r_calli (va_runV (As := [.int (iI v3x12)]) (rest := [.int (iI v2x12), .ref (G.2.2.1 0 a0), .int (iI v3x12), .ref (G.2.2.1 18 (5 * o + v2x12))]) ⟨hx, hb, hml, hown, hts⟩ (m6_first l G (4 * a0) (vrC_0_2 hv_a0) _ st v3x12 h) (cwV 1 hts gX3_setEquations_X6_first rfl rfl rfl hd6_first ⟨Nat.le_of_ble_eq_true rfl, Nat.le_of_ble_eq_true rfl⟩) (pre_V hK hX hI hA hS (vrC_0_2 hv_a0) rfl rfl [.int (iI v3x12)]) rfl rfl hl.1 rfl (lv_room (Nat.le_of_ble_eq_true rfl)) dX3_setEquations_34 ⟨Nat.le_of_ble_eq_true rfl, Nat.le_of_ble_eq_true rfl⟩) hS (fun z10 st11 h H locs hI hS => ?_)
            refine r_calli (va_runS (As := [.ref (G.2.2.1 0 a0), .int (iI v2x12), .int (iI z10)]) (rest := [.int (iI v3x12), .ref (G.2.2.1 18 (5 * o + v2x12))]) ⟨hx, hb, hml, hown, hts⟩ (m3_weighing l G a0 hv_a0 _ st11 v2x12 z10 h) (va_cwS 3 hts gX3_setEquations_X3_weighing rfl rfl rfl hd3_weighing ⟨Nat.le_of_ble_eq_true rfl, Nat.le_of_ble_eq_true rfl⟩) (pre_S hK hX hI hA hS [.ref (G.2.2.1 0 a0), .int (iI v2x12), .int (iI z10)]) rfl rfl hl.1 rfl (lv_room (Nat.le_of_ble_eq_true rfl)) dX3_setEquations_37 ⟨Nat.le_of_ble_eq_true rfl, Nat.le_of_ble_eq_true rfl⟩) hS (fun z12 st13 h H locs hI hS => ?_)
            obtain ⟨g14, h⟩ := h
            refine r_i2l hx hb dX3_setEquations_40 g14 ?_
            obtain ⟨g15, g16, h⟩ := h
            refine r_last hx hb hK hI hS (K := 18) (va_17 (vrC_3_0 hv_this) g8 g9) (fun _ => rfl) (lts_mk rfl) dX3_setEquations_41 g15 g16 (fun st17 hst17 H locs hI hS => ?_)
            replace h := h st17 hst17
            refine lv_aload_n hx hb dX3_setEquations_42 rfl (lv_at hl 0 rfl) ?_
            refine gg_3_0 hx hb hts in3 hown hK hI hv_this lk_11 dX3_setEquations_43 ?_
            refine lv_iload_n hx hb dX3_setEquations_46 rfl (lv_at hl 2 rfl) ?_
            obtain ⟨g18, g19, h⟩ := h
            refine r_aaldL hx hb hK hI (K := 17) (vrC_3_0 hv_this) rfl (lts_mk rfl) dX3_setEquations_47 g18 g19 (a := G.2.2.1 18 (5 * o + v2x12)) (by rw [Int.toNat_of_nonneg g18]) ?_
            refine lv_aload_n hx hb dX3_setEquations_48 rfl (lv_at hl 0 rfl) ?_
            refine gg_3_2 hx hb hts in3 hown hK hI hv_this lk_19 dX3_setEquations_49 ?_
            refine lv_iload_n hx hb dX3_setEquations_52 rfl (lv_at hl 3 rfl) ?_
            refine r_iadd hx hb dX3_setEquations_53 ?_
            refine lv_iload_n hx hb dX3_setEquations_54 rfl (lv_at hl 2 rfl) ?_
            refine lv_iload_n hx hb dX3_setEquations_55 rfl (lv_at hl 3 rfl) ?_
            obtain ⟨g20, h⟩ := h
            obtain ⟨g21, h⟩ := h
            refine r_icmp_ne (tgt := 63) hx hb dX3_setEquations_56 (by decide) g20 g21 (fun c22 => ?_) (fun c22 => ?_)
            · replace h := h.2 c22
              refine r_lconst (z := 0) hx hb dX3_setEquations_63 rfl ?_
              exact J64 st17 v3x12 0 ((st17 3 2 o 0) + v3x12) (va_17 (vrC_3_0 hv_this) g18 g19) _ _ ls hI hS (lv_sub hl [0, 1, 2, 3] rfl) h
            · replace h := h.1 c22
              refine r_lconst (z := 1) hx hb dX3_setEquations_59 rfl ?_
              refine lv_goto (tgt := 64) hx hb dX3_setEquations_60 (by decide) ?_
              exact J64 st17 v3x12 1 ((st17 3 2 o 0) + v3x12) (va_17 (vrC_3_0 hv_this) g18 g19) _ _ ls hI hS (lv_sub hl [0, 1, 2, 3] rfl) h
      intro st v2x2 H locs ls hI hS hl h
      unfold f3_setEquations_l2 at h
      refine lv_iload_n hx hb dX3_setEquations_2 rfl (lv_at hl 2 rfl) ?_
      refine lv_aload_n hx hb dX3_setEquations_3 rfl (lv_at hl 0 rfl) ?_
      refine gg_3_2 hx hb hts in3 hown hK hI hv_this lk_19 dX3_setEquations_4 ?_
      obtain ⟨g1, h⟩ := h
      obtain ⟨g2, h⟩ := h
      refine r_icmp_ge (tgt := 77) hx hb dX3_setEquations_7 (by decide) g1 g2 (fun c3 => ?_) (fun c3 => ?_)
      · replace h := h.1 c3
        exact r_vret hx hb hr hlocks hK hI hS (Qp := Q) h dX3_setEquations_77
      · replace h := h.2 c3
        refine r_iconst (n := 0) hx hb dX3_setEquations_10 ?_
        refine lv_istore_n (lv' := [(3, .int (iI 0)), (0, .ref (G.2.2.1 3 o)), (1, .ref (G.2.2.1 0 a0)), (2, .int (iI v2x2))]) hx hb dX3_setEquations_11 rfl hl (by decide) rfl (fun ls hl => ?_)
        obtain ⟨kk, h⟩ := h
        exact L12 v2x2 kk st 0 _ _ ls hI hS (lv_sub hl [1, 2, 3, 0] rfl) h
  unfold f3_setEquations at h
  refine r_iconst (n := 0) hx hb dX3_setEquations_0 ?_
  refine lv_istore_n (lv' := [(2, .int (iI 0)), (0, .ref (G.2.2.1 3 o)), (1, .ref (G.2.2.1 0 a0))]) hx hb dX3_setEquations_1 rfl hl (by decide) rfl (fun ls hl => ?_)
  obtain ⟨kk, h⟩ := h
  exact L2 kk st 0 _ _ ls hI hS (lv_sub hl [1, 2, 0] rfl) h
theorem hd3_pivotRow : yX3_pivotRow.cls = RX3 ∧ yX3_pivotRow.cls ≠ "java/lang/invoke/MethodHandle" ∧ yX3_pivotRow.cls ≠ "java/lang/invoke/VarHandle" ∧ (parseMethodDescriptor yX3_pivotRow.desc).map (fun d => d.parameters.length) = some 1 := by decide +kernel
set_option maxHeartbeats 4000000 in
set_option maxRecDepth 100000 in
theorem m3_pivotRow (l : Launch) (G : WG)  (o : Int) (hv_this : vC 3 o) (Q : Int → St → Prop) (st : St) (a0 : Int) (h : f3_pivotRow o Q st a0) : Met l yX3_pivotRow wsX3_pivotRow ({ frames := 0, cells := 0, slots := 0, locals := 0 }) (PcM vC G st [.ref (G.2.2.1 3 o), .int (iI a0)]) (QiM vC G Q) 0 0 G.2.2.2.1 := by
  refine Met.ofW (cc := cX3_pivotRow) (maxL := 3) (ret := (some .int)) (by decide) rfl ?_
  intro p e s m args below meth c s₁ B hml hvv
  obtain ⟨rfl, hA, hI, hK, hX⟩ := hvv
  have hx := B.exec
  have hb := B.bytes
  have hr := B.returns
  have hts := atoms_spec (ws := wsX3_pivotRow) B.pre
  have hown : s.vm.findClass RX3 = some m.cls := findClass_of_methodNamed B.named
  have hlocks := B.notSynchronized
  have hS : va_S G.2.2.2.1 s.heap s.heap [] := va_S.rf
  have in3 : ∀ w ∈ wsX30, w ∈ wsX3_pivotRow := by decide +kernel
  have lk_11 := hts (.fieldLink RX3 11 "BeamLines$Lines" "matrix" "[[J") (by decide +kernel)
  have lk_19 := hts (.fieldLink RX3 19 "BeamLines$Lines" "size" "I") (by decide +kernel)
  have hl := lv_entry ([.ref (G.2.2.1 3 o), .int (iI a0)]) (n := 3) (Nat.le_of_ble_eq_true rfl)
  rw [lg_entry_eq]
  generalize (lg_sl ([.ref (G.2.2.1 3 o), .int (iI a0)]) ++ List.replicate (3 - (lg_sl ([.ref (G.2.2.1 3 o), .int (iI a0)])).length) Slot.unset).toArray = ls at hl ⊢
  have hl : lv_has ls 3 [(0, .ref (G.2.2.1 3 o)), (1, .int (iI a0))] := hl
  have L2 : ∀ (n2 : Nat), ∀ (st : St) (v2x2 : Int) (H : Heap) (locs : List Loc) (ls : Array Slot), Iv vC G st H → va_S G.2.2.2.1 s.heap H locs → lv_has ls 3 [(0, .ref (G.2.2.1 3 o)), (1, .int (iI a0)), (2, .int (iI v2x2))] → f3_pivotRow_l2 o Q a0 n2 st v2x2 → W p l e (headSpec wsX3_pivotRow ({ frames := 0, cells := 0, slots := 0, locals := 0 })).room s m ([.ref (G.2.2.1 3 o), .int (iI a0)] : List Value).toArray below meth c H locs 0 0 (MQ below (QiM vC G Q) ([.ref (G.2.2.1 3 o), .int (iI a0)] : List Value).toArray s 0 0 G.2.2.2.1) (F0 m 2 ls []) := by
    intro n2
    induction n2 with
    | zero =>
      intro st v2x2 H locs ls hI hS hl h
      exact h.elim
    | succ n2 ih2 =>
      intro st v2x2 H locs ls hI hS hl h
      unfold f3_pivotRow_l2 at h
      refine lv_iload_n hx hb dX3_pivotRow_2 rfl (lv_at hl 2 rfl) ?_
      refine lv_aload_n hx hb dX3_pivotRow_3 rfl (lv_at hl 0 rfl) ?_
      refine gg_3_2 hx hb hts in3 hown hK hI hv_this lk_19 dX3_pivotRow_4 ?_
      obtain ⟨g1, h⟩ := h
      obtain ⟨g2, h⟩ := h
      refine r_icmp_ge (tgt := 31) hx hb dX3_pivotRow_7 (by decide) g1 g2 (fun c3 => ?_) (fun c3 => ?_)
      · replace h := h.1 c3
        refine r_iconst (n := (-1)) hx hb dX3_pivotRow_31 ?_
        exact r_iret hx hb hr hlocks hK hI hS (Qp := Q) h dX3_pivotRow_32
      · replace h := h.2 c3
        refine lv_aload_n hx hb dX3_pivotRow_10 rfl (lv_at hl 0 rfl) ?_
        refine gg_3_0 hx hb hts in3 hown hK hI hv_this lk_11 dX3_pivotRow_11 ?_
        refine lv_iload_n hx hb dX3_pivotRow_14 rfl (lv_at hl 2 rfl) ?_
        obtain ⟨g4, g5, h⟩ := h
        refine r_aaldL hx hb hK hI (K := 17) (vrC_3_0 hv_this) rfl (lts_mk rfl) dX3_pivotRow_15 g4 g5 (a := G.2.2.1 18 (5 * o + v2x2)) (by rw [Int.toNat_of_nonneg g4]) ?_
        refine lv_iload_n hx hb dX3_pivotRow_16 rfl (lv_at hl 1 rfl) ?_
        obtain ⟨g6, g7, h⟩ := h
        refine r_lald hx hb hK hI (K := 18) (va_17 (vrC_3_0 hv_this) g4 g5) rfl (lts_mk rfl) dX3_pivotRow_17 g6 g7 ?_
        refine r_lconst (z := 0) hx hb dX3_pivotRow_18 rfl ?_
        obtain ⟨g8, h⟩ := h
        refine r_lcmp_eq (tgt := 25) hx hb dX3_pivotRow_19 dX3_pivotRow_20 (by decide) g8 (inL_mk rfl) (fun c9 => ?_) (fun c9 => ?_)
        · replace h := h.1 c9
          obtain ⟨x10, hx10⟩ : ∃ z : Int, z = v2x2 + 1 := ⟨_, rfl⟩
          replace h := h x10 hx10
          refine lv_iinc (v := iI x10) (lv' := [(2, .int (iI x10)), (0, .ref (G.2.2.1 3 o)), (1, .int (iI a0))]) hx hb dX3_pivotRow_25 hl (k := 2) rfl (by rw [hx10]; exact iI_add _ _) (by decide) rfl (fun ls hl => ?_)
          refine lv_goto (tgt := 2) hx hb dX3_pivotRow_28 (by decide) ?_
          exact ih2 st x10 _ _ ls hI hS (lv_sub hl [1, 2, 0] rfl) h
        · replace h := h.2 c9
          refine lv_iload_n hx hb dX3_pivotRow_23 rfl (lv_at hl 2 rfl) ?_
          exact r_iret hx hb hr hlocks hK hI hS (Qp := Q) h dX3_pivotRow_24
  unfold f3_pivotRow at h
  refine lv_iload_n hx hb dX3_pivotRow_0 rfl (lv_at hl 1 rfl) ?_
  refine lv_istore_n (lv' := [(2, .int (iI a0)), (0, .ref (G.2.2.1 3 o)), (1, .int (iI a0))]) hx hb dX3_pivotRow_1 rfl hl (by decide) rfl (fun ls hl => ?_)
  obtain ⟨kk, h⟩ := h
  exact L2 kk st a0 _ _ ls hI hS (lv_sub hl [1, 2, 0] rfl) h
theorem hd3_swapRows : yX3_swapRows.cls = RX3 ∧ yX3_swapRows.cls ≠ "java/lang/invoke/MethodHandle" ∧ yX3_swapRows.cls ≠ "java/lang/invoke/VarHandle" ∧ (parseMethodDescriptor yX3_swapRows.desc).map (fun d => d.parameters.length) = some 2 := by decide +kernel
set_option maxHeartbeats 4000000 in
set_option maxRecDepth 100000 in
theorem m3_swapRows (l : Launch) (G : WG)  (o : Int) (hv_this : vC 3 o) (Q : St → Prop) (st : St) (a0 : Int) (a1 : Int) (h : f3_swapRows o Q st a0 a1) : Met l yX3_swapRows wsX3_swapRows ({ frames := 0, cells := 0, slots := 0, locals := 0 }) (PcM vC G st [.ref (G.2.2.1 3 o), .int (iI a0), .int (iI a1)]) (QvM vC G Q) 0 0 G.2.2.2.1 := by
  refine Met.ofW (cc := cX3_swapRows) (maxL := 6) (ret := none) (by decide) rfl ?_
  intro p e s m args below meth c s₁ B hml hvv
  obtain ⟨rfl, hA, hI, hK, hX⟩ := hvv
  have hx := B.exec
  have hb := B.bytes
  have hr := B.returns
  have hts := atoms_spec (ws := wsX3_swapRows) B.pre
  have hown : s.vm.findClass RX3 = some m.cls := findClass_of_methodNamed B.named
  have hlocks := B.notSynchronized
  have hS : va_S G.2.2.2.1 s.heap s.heap [] := va_S.rf
  have in3 : ∀ w ∈ wsX30, w ∈ wsX3_swapRows := by decide +kernel
  have lk_11 := hts (.fieldLink RX3 11 "BeamLines$Lines" "matrix" "[[J") (by decide +kernel)
  have lk_19 := hts (.fieldLink RX3 19 "BeamLines$Lines" "size" "I") (by decide +kernel)
  have hl := lv_entry ([.ref (G.2.2.1 3 o), .int (iI a0), .int (iI a1)]) (n := 6) (Nat.le_of_ble_eq_true rfl)
  rw [lg_entry_eq]
  generalize (lg_sl ([.ref (G.2.2.1 3 o), .int (iI a0), .int (iI a1)]) ++ List.replicate (6 - (lg_sl ([.ref (G.2.2.1 3 o), .int (iI a0), .int (iI a1)])).length) Slot.unset).toArray = ls at hl ⊢
  have hl : lv_has ls 6 [(0, .ref (G.2.2.1 3 o)), (1, .int (iI a0)), (2, .int (iI a1))] := hl
  have L2 : ∀ (n2 : Nat), ∀ (st : St) (v3x2 : Int) (H : Heap) (locs : List Loc) (ls : Array Slot), Iv vC G st H → va_S G.2.2.2.1 s.heap H locs → lv_has ls 6 [(0, .ref (G.2.2.1 3 o)), (1, .int (iI a0)), (2, .int (iI a1)), (3, .int (iI v3x2))] → f3_swapRows_l2 o Q a0 a1 n2 st v3x2 → W p l e (headSpec wsX3_swapRows ({ frames := 0, cells := 0, slots := 0, locals := 0 })).room s m ([.ref (G.2.2.1 3 o), .int (iI a0), .int (iI a1)] : List Value).toArray below meth c H locs 0 0 (MQ below (QvM vC G Q) ([.ref (G.2.2.1 3 o), .int (iI a0), .int (iI a1)] : List Value).toArray s 0 0 G.2.2.2.1) (F0 m 2 ls []) := by
    intro n2
    induction n2 with
    | zero =>
      intro st v3x2 H locs ls hI hS hl h
      exact h.elim
    | succ n2 ih2 =>
      intro st v3x2 H locs ls hI hS hl h
      unfold f3_swapRows_l2 at h
      refine lv_iload_n hx hb dX3_swapRows_2 rfl (lv_at hl 3 rfl) ?_
      refine r_iconst (n := 2) hx hb dX3_swapRows_3 ?_
      refine lv_aload_n hx hb dX3_swapRows_4 rfl (lv_at hl 0 rfl) ?_
      refine gg_3_2 hx hb hts in3 hown hK hI hv_this lk_19 dX3_swapRows_5 ?_
      refine r_imul hx hb dX3_swapRows_8 ?_
      obtain ⟨g1, h⟩ := h
      obtain ⟨g2, h⟩ := h
      refine r_icmp_ge (tgt := 54) hx hb dX3_swapRows_9 (by decide) g1 g2 (fun c3 => ?_) (fun c3 => ?_)
      · replace h := h.1 c3
        exact r_vret hx hb hr hlocks hK hI hS (Qp := Q) h dX3_swapRows_54
      · replace h := h.2 c3
        refine lv_aload_n hx hb dX3_swapRows_12 rfl (lv_at hl 0 rfl) ?_
        refine gg_3_0 hx hb hts in3 hown hK hI hv_this lk_11 dX3_swapRows_13 ?_
        refine lv_iload_n hx hb dX3_swapRows_16 rfl (lv_at hl 1 rfl) ?_
        obtain ⟨g4, g5, h⟩ := h
        refine r_aaldL hx hb hK hI (K := 17) (vrC_3_0 hv_this) rfl (lts_mk rfl) dX3_swapRows_17 g4 g5 (a := G.2.2.1 18 (5 * o + a0)) (by rw [Int.toNat_of_nonneg g4]) ?_
        refine lv_iload_n hx hb dX3_swapRows_18 rfl (lv_at hl 3 rfl) ?_
        obtain ⟨g6, g7, h⟩ := h
        refine r_lald hx hb hK hI (K := 18) (va_17 (vrC_3_0 hv_this) g4 g5) rfl (lts_mk rfl) dX3_swapRows_19 g6 g7 ?_
        refine r_topl (fun x8 hx8 => ?_)
        replace h := h x8 hx8
        refine lv_lstore (lv' := [(4, .long (lI x8)), (0, .ref (G.2.2.1 3 o)), (1, .int (iI a0)), (2, .int (iI a1)), (3, .int (iI v3x2))]) hx hb dX3_swapRows_20 hl (by decide) rfl (fun ls hl => ?_)
        refine lv_aload_n hx hb dX3_swapRows_22 rfl (lv_at hl 1 rfl) ?_
        refine gg_3_0 hx hb hts in3 hown hK hI hv_this lk_11 dX3_swapRows_23 ?_
        refine lv_iload_n hx hb dX3_swapRows_26 rfl (lv_at hl 2 rfl) ?_
        obtain ⟨g9, g10, h⟩ := h
        refine r_aaldL hx hb hK hI (K := 17) (vrC_3_0 hv_this) rfl (lts_mk rfl) dX3_swapRows_27 g9 g10 (a := G.2.2.1 18 (5 * o + a0)) (by rw [Int.toNat_of_nonneg g9]) ?_
        refine lv_iload_n hx hb dX3_swapRows_28 rfl (lv_at hl 4 rfl) ?_
        refine lv_aload_n hx hb dX3_swapRows_29 rfl (lv_at hl 1 rfl) ?_
        refine gg_3_0 hx hb hts in3 hown hK hI hv_this lk_11 dX3_swapRows_30 ?_
        refine lv_iload_n hx hb dX3_swapRows_33 rfl (lv_at hl 3 rfl) ?_
        obtain ⟨g11, g12, h⟩ := h
        refine r_aaldL hx hb hK hI (K := 17) (vrC_3_0 hv_this) rfl (lts_mk rfl) dX3_swapRows_34 g11 g12 (a := G.2.2.1 18 (5 * o + a1)) (by rw [Int.toNat_of_nonneg g11]) ?_
        refine lv_iload_n hx hb dX3_swapRows_35 rfl (lv_at hl 4 rfl) ?_
        obtain ⟨g13, g14, h⟩ := h
        refine r_lald hx hb hK hI (K := 18) (va_17 (vrC_3_0 hv_this) g11 g12) rfl (lts_mk rfl) dX3_swapRows_36 g13 g14 ?_
        obtain ⟨g15, g16, h⟩ := h
        refine r_last hx hb hK hI hS (K := 18) (va_17 (vrC_3_0 hv_this) g9 g10) (fun _ => rfl) (lts_mk rfl) dX3_swapRows_37 g15 g16 (fun st17 hst17 H locs hI hS => ?_)
        replace h := h st17 hst17
        refine lv_aload_n hx hb dX3_swapRows_38 rfl (lv_at hl 1 rfl) ?_
        refine gg_3_0 hx hb hts in3 hown hK hI hv_this lk_11 dX3_swapRows_39 ?_
        refine lv_iload_n hx hb dX3_swapRows_42 rfl (lv_at hl 3 rfl) ?_
        obtain ⟨g18, g19, h⟩ := h
        refine r_aaldL hx hb hK hI (K := 17) (vrC_3_0 hv_this) rfl (lts_mk rfl) dX3_swapRows_43 g18 g19 (a := G.2.2.1 18 (5 * o + a1)) (by rw [Int.toNat_of_nonneg g18]) ?_
        refine lv_iload_n hx hb dX3_swapRows_44 rfl (lv_at hl 4 rfl) ?_
        refine lv_lload hx hb dX3_swapRows_45 (lv_at hl 0 rfl) ?_
        obtain ⟨g20, g21, h⟩ := h
        refine r_last hx hb hK hI hS (K := 18) (va_17 (vrC_3_0 hv_this) g18 g19) (fun _ => rfl) (lts_mk rfl) dX3_swapRows_47 g20 g21 (fun st22 hst22 H locs hI hS => ?_)
        replace h := h st22 hst22
        obtain ⟨x23, hx23⟩ : ∃ z : Int, z = v3x2 + 1 := ⟨_, rfl⟩
        replace h := h x23 hx23
        refine lv_iinc (v := iI x23) (lv' := [(3, .int (iI x23)), (4, .long (lI x8)), (0, .ref (G.2.2.1 3 o)), (1, .int (iI a0)), (2, .int (iI a1))]) hx hb dX3_swapRows_48 hl (k := 4) rfl (by rw [hx23]; exact iI_add _ _) (by decide) rfl (fun ls hl => ?_)
        refine lv_goto (tgt := 2) hx hb dX3_swapRows_51 (by decide) ?_
        exact ih2 st22 x23 _ _ ls hI hS (lv_sub hl [2, 3, 4, 0] rfl) h
  unfold f3_swapRows at h
  refine r_iconst (n := 0) hx hb dX3_swapRows_0 ?_
  refine lv_istore_n (lv' := [(3, .int (iI 0)), (0, .ref (G.2.2.1 3 o)), (1, .int (iI a0)), (2, .int (iI a1))]) hx hb dX3_swapRows_1 rfl hl (by decide) rfl (fun ls hl => ?_)
  obtain ⟨kk, h⟩ := h
  exact L2 kk st 0 _ _ ls hI hS (lv_sub hl [1, 2, 3, 0] rfl) h
theorem hd3_clearColumn : yX3_clearColumn.cls = RX3 ∧ yX3_clearColumn.cls ≠ "java/lang/invoke/MethodHandle" ∧ yX3_clearColumn.cls ≠ "java/lang/invoke/VarHandle" ∧ (parseMethodDescriptor yX3_clearColumn.desc).map (fun d => d.parameters.length) = some 2 := by decide +kernel
set_option maxHeartbeats 4000000 in
set_option maxRecDepth 100000 in
theorem m3_clearColumn (l : Launch) (G : WG)  (o : Int) (hv_this : vC 3 o) (Q : St → Prop) (st : St) (a0 : Int) (a1 : Int) (h : f3_clearColumn o Q st a0 a1) : Met l yX3_clearColumn wsX3_clearColumn ({ frames := 0, cells := 0, slots := 0, locals := 0 }) (PcM vC G st [.ref (G.2.2.1 3 o), .int (iI a0), .long (lI a1)]) (QvM vC G Q) 0 0 G.2.2.2.1 := by
  refine Met.ofW (cc := cX3_clearColumn) (maxL := 10) (ret := none) (by decide) rfl ?_
  intro p e s m args below meth c s₁ B hml hvv
  obtain ⟨rfl, hA, hI, hK, hX⟩ := hvv
  have hx := B.exec
  have hb := B.bytes
  have hr := B.returns
  have hts := atoms_spec (ws := wsX3_clearColumn) B.pre
  have hown : s.vm.findClass RX3 = some m.cls := findClass_of_methodNamed B.named
  have hlocks := B.notSynchronized
  have hS : va_S G.2.2.2.1 s.heap s.heap [] := va_S.rf
  have in3 : ∀ w ∈ wsX30, w ∈ wsX3_clearColumn := by decide +kernel
  have lk_11 := hts (.fieldLink RX3 11 "BeamLines$Lines" "matrix" "[[J") (by decide +kernel)
  have lk_19 := hts (.fieldLink RX3 19 "BeamLines$Lines" "size" "I") (by decide +kernel)
  have hl := lv_entry ([.ref (G.2.2.1 3 o), .int (iI a0), .long (lI a1)]) (n := 10) (Nat.le_of_ble_eq_true rfl)
  rw [lg_entry_eq]
  generalize (lg_sl ([.ref (G.2.2.1 3 o), .int (iI a0), .long (lI a1)]) ++ List.replicate (10 - (lg_sl ([.ref (G.2.2.1 3 o), .int (iI a0), .long (lI a1)])).length) Slot.unset).toArray = ls at hl ⊢
  have hl : lv_has ls 10 [(0, .ref (G.2.2.1 3 o)), (1, .int (iI a0)), (2, .long (lI a1))] := hl
  have L20 : ∀ (v4x20 : Int) (n20 : Nat), ∀ (st : St) (v6x20 : Int) (H : Heap) (locs : List Loc) (ls : Array Slot), Iv vC G st H → va_S G.2.2.2.1 s.heap H locs → lv_has ls 10 [(0, .ref (G.2.2.1 3 o)), (1, .int (iI a0)), (2, .long (lI a1)), (4, .long (lI v4x20)), (6, .int (iI v6x20))] → f3_clearColumn_l20 o Q a0 a1 v4x20 n20 st v6x20 → W p l e (headSpec wsX3_clearColumn ({ frames := 0, cells := 0, slots := 0, locals := 0 })).room s m ([.ref (G.2.2.1 3 o), .int (iI a0), .long (lI a1)] : List Value).toArray below meth c H locs 0 0 (MQ below (QvM vC G Q) ([.ref (G.2.2.1 3 o), .int (iI a0), .long (lI a1)] : List Value).toArray s 0 0 G.2.2.2.1) (F0 m 20 ls []) := by
    intro v4x20 n20
    induction n20 with
    | zero =>
      intro st v6x20 H locs ls hI hS hl h
      exact h.elim
    | succ n20 ih20 =>
      have J107 : ∀ (st : St) (v6x107 : Int) (H : Heap) (locs : List Loc) (ls : Array Slot), Iv vC G st H → va_S G.2.2.2.1 s.heap H locs → lv_has ls 10 [(0, .ref (G.2.2.1 3 o)), (1, .int (iI a0)), (2, .long (lI a1)), (4, .long (lI v4x20)), (6, .int (iI v6x107))] → f3_clearColumn_j107 o (fun st v6x20 => f3_clearColumn_l20 o Q a0 a1 v4x20 n20 st v6x20) Q a0 a1 v4x20 st v6x107 → W p l e (headSpec wsX3_clearColumn ({ frames := 0, cells := 0, slots := 0, locals := 0 })).room s m ([.ref (G.2.2.1 3 o), .int (iI a0), .long (lI a1)] : List Value).toArray below meth c H locs 0 0 (MQ below (QvM vC G Q) ([.ref (G.2.2.1 3 o), .int (iI a0), .long (lI a1)] : List Value).toArray s 0 0 G.2.2.2.1) (F0 m 107 ls []) := by
        intro st v6x107 H locs ls hI hS hl h
        unfold f3_clearColumn_j107 at h
        obtain ⟨x39, hx39⟩ : ∃ z : Int, z = v6x107 + 1 := ⟨_, rfl⟩
        replace h := h x39 hx39
        refine lv_iinc (v := iI x39) (lv' := [(6, .int (iI x39)), (0, .ref (G.2.2.1 3 o)), (1, .int (iI a0)), (2, .long (lI a1)), (4, .long (lI v4x20))]) hx hb dX3_clearColumn_107 hl (k := 4) rfl (by rw [hx39]; exact iI_add _ _) (by decide) rfl (fun ls hl => ?_)
        refine lv_goto (tgt := 20) hx hb dX3_clearColumn_110 (by decide) ?_
        exact ih20 st x39 _ _ ls hI hS (lv_sub hl [1, 2, 3, 4, 0] rfl) h
      have L52 : ∀ (v6x52 : Int) (v7x52 : Int) (n52 : Nat), ∀ (st : St) (v9x52 : Int) (H : Heap) (locs : List Loc) (ls : Array Slot), Iv vC G st H → va_S G.2.2.2.1 s.heap H locs → lv_has ls 10 [(0, .ref (G.2.2.1 3 o)), (1, .int (iI a0)), (2, .long (lI a1)), (4, .long (lI v4x20)), (6, .int (iI v6x52)), (7, .long (lI v7x52)), (9, .int (iI v9x52))] → f3_clearColumn_l52 o (fun st v6x20 => f3_clearColumn_l20 o Q a0 a1 v4x20 n20 st v6x20) Q a0 a1 v4x20 v6x52 v7x52 n52 st v9x52 → W p l e (headSpec wsX3_clearColumn ({ frames := 0, cells := 0, slots := 0, locals := 0 })).room s m ([.ref (G.2.2.1 3 o), .int (iI a0), .long (lI a1)] : List Value).toArray below meth c H locs 0 0 (MQ below (QvM vC G Q) ([.ref (G.2.2.1 3 o), .int (iI a0), .long (lI a1)] : List Value).toArray s 0 0 G.2.2.2.1) (F0 m 52 ls []) := by
        intro v6x52 v7x52 n52
        induction n52 with
        | zero =>
          intro st v9x52 H locs ls hI hS hl h
          exact h.elim
        | succ n52 ih52 =>
          intro st v9x52 H locs ls hI hS hl h
          unfold f3_clearColumn_l52 at h
          refine lv_iload hx hb dX3_clearColumn_52 (lv_at hl 6 rfl) ?_
          refine r_iconst (n := 2) hx hb dX3_clearColumn_54 ?_
          refine lv_aload_n hx hb dX3_clearColumn_55 rfl (lv_at hl 0 rfl) ?_
          refine gg_3_2 hx hb hts in3 hown hK hI hv_this lk_19 dX3_clearColumn_56 ?_
          refine r_imul hx hb dX3_clearColumn_59 ?_
          obtain ⟨g19, h⟩ := h
          obtain ⟨g20, h⟩ := h
          refine r_icmp_ge (tgt := 107) hx hb dX3_clearColumn_60 (by decide) g19 g20 (fun c21 => ?_) (fun c21 => ?_)
          · replace h := h.1 c21
            exact J107 st v6x52 _ _ ls hI hS (lv_sub hl [0, 1, 2, 3, 4] rfl) h
          · replace h := h.2 c21
            refine lv_aload_n hx hb dX3_clearColumn_63 rfl (lv_at hl 0 rfl) ?_
            refine gg_3_0 hx hb hts in3 hown hK hI hv_this lk_11 dX3_clearColumn_64 ?_
            refine lv_iload hx hb dX3_clearColumn_67 (lv_at hl 4 rfl) ?_
            obtain ⟨g22, g23, h⟩ := h
            refine r_aaldL hx hb hK hI (K := 17) (vrC_3_0 hv_this) rfl (lts_mk rfl) dX3_clearColumn_69 g22 g23 (a := G.2.2.1 18 (5 * o + v6x52)) (by rw [Int.toNat_of_nonneg g22]) ?_
            refine lv_iload hx hb dX3_clearColumn_70 (lv_at hl 6 rfl) ?_
            refine lv_lload hx hb dX3_clearColumn_72 (lv_at hl 3 rfl) ?_
            refine lv_aload_n hx hb dX3_clearColumn_74 rfl (lv_at hl 0 rfl) ?_
            refine gg_3_0 hx hb hts in3 hown hK hI hv_this lk_11 dX3_clearColumn_75 ?_
            refine lv_iload hx hb dX3_clearColumn_78 (lv_at hl 4 rfl) ?_
            obtain ⟨g24, g25, h⟩ := h
            refine r_aaldL hx hb hK hI (K := 17) (vrC_3_0 hv_this) rfl (lts_mk rfl) dX3_clearColumn_80 g24 g25 (a := G.2.2.1 18 (5 * o + v6x52)) (by rw [Int.toNat_of_nonneg g24]) ?_
            refine lv_iload hx hb dX3_clearColumn_81 (lv_at hl 6 rfl) ?_
            obtain ⟨g26, g27, h⟩ := h
            refine r_lald hx hb hK hI (K := 18) (va_17 (vrC_3_0 hv_this) g24 g25) rfl (lts_mk rfl) dX3_clearColumn_83 g26 g27 ?_
            refine r_lmul hx hb dX3_clearColumn_84 ?_
            refine lv_lload hx hb dX3_clearColumn_85 (lv_at hl 5 rfl) ?_
            refine lv_aload_n hx hb dX3_clearColumn_87 rfl (lv_at hl 0 rfl) ?_
            refine gg_3_0 hx hb hts in3 hown hK hI hv_this lk_11 dX3_clearColumn_88 ?_
            refine lv_iload_n hx hb dX3_clearColumn_91 rfl (lv_at hl 1 rfl) ?_
            obtain ⟨g28, g29, h⟩ := h
            refine r_aaldL hx hb hK hI (K := 17) (vrC_3_0 hv_this) rfl (lts_mk rfl) dX3_clearColumn_92 g28 g29 (a := G.2.2.1 18 (5 * o + a0)) (by rw [Int.toNat_of_nonneg g28]) ?_
            refine lv_iload hx hb dX3_clearColumn_93 (lv_at hl 6 rfl) ?_
            obtain ⟨g30, g31, h⟩ := h
            refine r_lald hx hb hK hI (K := 18) (va_17 (vrC_3_0 hv_this) g28 g29) rfl (lts_mk rfl) dX3_clearColumn_95 g30 g31 ?_
            refine r_lmul hx hb dX3_clearColumn_96 ?_
            refine r_lsub hx hb dX3_clearColumn_97 ?_
            refine lv_lload_n hx hb dX3_clearColumn_98 rfl (lv_at hl 2 rfl) ?_
            obtain ⟨g32, h⟩ := h
            obtain ⟨g33, h⟩ := h
            obtain ⟨g34, h⟩ := h
            refine r_ldiv hx hb dX3_clearColumn_99 g32 g33 g34 ?_
            obtain ⟨g35, g36, h⟩ := h
            refine r_last hx hb hK hI hS (K := 18) (va_17 (vrC_3_0 hv_this) g22 g23) (fun _ => rfl) (lts_mk rfl) dX3_clearColumn_100 g35 g36 (fun st37 hst37 H locs hI hS => ?_)
            replace h := h st37 hst37
            obtain ⟨x38, hx38⟩ : ∃ z : Int, z = v9x52 + 1 := ⟨_, rfl⟩
            replace h := h x38 hx38
            refine lv_iinc (v := iI x38) (lv' := [(9, .int (iI x38)), (0, .ref (G.2.2.1 3 o)), (1, .int (iI a0)), (2, .long (lI a1)), (4, .long (lI v4x20)), (6, .int (iI v6x52)), (7, .long (lI v7x52))]) hx hb dX3_clearColumn_101 hl (k := 6) rfl (by rw [hx38]; exact iI_add _ _) (by decide) rfl (fun ls hl => ?_)
            refine lv_goto (tgt := 52) hx hb dX3_clearColumn_104 (by decide) ?_
            exact ih52 st37 x38 _ _ ls hI hS (lv_sub hl [1, 2, 3, 4, 5, 6, 0] rfl) h
      intro st v6x20 H locs ls hI hS hl h
      unfold f3_clearColumn_l20 at h
      refine lv_iload hx hb dX3_clearColumn_20 (lv_at hl 4 rfl) ?_
      refine lv_aload_n hx hb dX3_clearColumn_22 rfl (lv_at hl 0 rfl) ?_
      refine gg_3_2 hx hb hts in3 hown hK hI hv_this lk_19 dX3_clearColumn_23 ?_
      obtain ⟨g8, h⟩ := h
      obtain ⟨g9, h⟩ := h
      refine r_icmp_ge (tgt := 113) hx hb dX3_clearColumn_26 (by decide) g8 g9 (fun c10 => ?_) (fun c10 => ?_)
      · replace h := h.1 c10
        exact r_vret hx hb hr hlocks hK hI hS (Qp := Q) h dX3_clearColumn_113
      · replace h := h.2 c10
        refine lv_iload hx hb dX3_clearColumn_29 (lv_at hl 4 rfl) ?_
        refine lv_iload_n hx hb dX3_clearColumn_31 rfl (lv_at hl 1 rfl) ?_
        obtain ⟨g11, h⟩ := h
        obtain ⟨g12, h⟩ := h
        refine r_icmp_ne (tgt := 38) hx hb dX3_clearColumn_32 (by decide) g11 g12 (fun c13 => ?_) (fun c13 => ?_)
        · replace h := h.2 c13
          refine lv_aload_n hx hb dX3_clearColumn_38 rfl (lv_at hl 0 rfl) ?_
          refine gg_3_0 hx hb hts in3 hown hK hI hv_this lk_11 dX3_clearColumn_39 ?_
          refine lv_iload hx hb dX3_clearColumn_42 (lv_at hl 4 rfl) ?_
          obtain ⟨g14, g15, h⟩ := h
          refine r_aaldL hx hb hK hI (K := 17) (vrC_3_0 hv_this) rfl (lts_mk rfl) dX3_clearColumn_44 g14 g15 (a := G.2.2.1 18 (5 * o + v6x20)) (by rw [Int.toNat_of_nonneg g14]) ?_
          refine lv_iload_n hx hb dX3_clearColumn_45 rfl (lv_at hl 1 rfl) ?_
          obtain ⟨g16, g17, h⟩ := h
          refine r_lald hx hb hK hI (K := 18) (va_17 (vrC_3_0 hv_this) g14 g15) rfl (lts_mk rfl) dX3_clearColumn_46 g16 g17 ?_
          refine r_topl (fun x18 hx18 => ?_)
          replace h := h x18 hx18
          refine lv_lstore (lv' := [(7, .long (lI x18)), (0, .ref (G.2.2.1 3 o)), (1, .int (iI a0)), (2, .long (lI a1)), (4, .long (lI v4x20)), (6, .int (iI v6x20))]) hx hb dX3_clearColumn_47 hl (by decide) rfl (fun ls hl => ?_)
          refine r_iconst (n := 0) hx hb dX3_clearColumn_49 ?_
          refine lv_istore (lv' := [(9, .int (iI 0)), (7, .long (lI x18)), (0, .ref (G.2.2.1 3 o)), (1, .int (iI a0)), (2, .long (lI a1)), (4, .long (lI v4x20)), (6, .int (iI v6x20))]) hx hb dX3_clearColumn_50 hl (by decide) rfl (fun ls hl => ?_)
          obtain ⟨kk, h⟩ := h
          exact L52 v6x20 x18 kk st 0 _ _ ls hI hS (lv_sub hl [2, 3, 4, 5, 6, 1, 0] rfl) h
        · replace h := h.1 c13
          refine lv_goto (tgt := 107) hx hb dX3_clearColumn_35 (by decide) ?_
          exact J107 st v6x20 _ _ ls hI hS (lv_sub hl [0, 1, 2, 3, 4] rfl) h
  unfold f3_clearColumn at h
  refine lv_lload_n hx hb dX3_clearColumn_0 rfl (lv_at hl 2 rfl) ?_
  refine r_lconst (z := 0) hx hb dX3_clearColumn_1 rfl ?_
  obtain ⟨g1, h⟩ := h
  refine r_lcmp_ne (tgt := 7) hx hb dX3_clearColumn_2 dX3_clearColumn_3 (by decide) g1 (inL_mk rfl) (fun c2 => ?_) (fun c2 => ?_)
  · replace h := h.2 c2
    refine lv_aload_n hx hb dX3_clearColumn_7 rfl (lv_at hl 0 rfl) ?_
    refine gg_3_0 hx hb hts in3 hown hK hI hv_this lk_11 dX3_clearColumn_8 ?_
    refine lv_iload_n hx hb dX3_clearColumn_11 rfl (lv_at hl 1 rfl) ?_
    obtain ⟨g3, g4, h⟩ := h
    refine r_aaldL hx hb hK hI (K := 17) (vrC_3_0 hv_this) rfl (lts_mk rfl) dX3_clearColumn_12 g3 g4 (a := G.2.2.1 18 (5 * o + a0)) (by rw [Int.toNat_of_nonneg g3]) ?_
    refine lv_iload_n hx hb dX3_clearColumn_13 rfl (lv_at hl 1 rfl) ?_
    obtain ⟨g5, g6, h⟩ := h
    refine r_lald hx hb hK hI (K := 18) (va_17 (vrC_3_0 hv_this) g3 g4) rfl (lts_mk rfl) dX3_clearColumn_14 g5 g6 ?_
    refine r_topl (fun x7 hx7 => ?_)
    replace h := h x7 hx7
    refine lv_lstore (lv' := [(4, .long (lI x7)), (0, .ref (G.2.2.1 3 o)), (1, .int (iI a0)), (2, .long (lI a1))]) hx hb dX3_clearColumn_15 hl (by decide) rfl (fun ls hl => ?_)
    refine r_iconst (n := 0) hx hb dX3_clearColumn_17 ?_
    refine lv_istore (lv' := [(6, .int (iI 0)), (4, .long (lI x7)), (0, .ref (G.2.2.1 3 o)), (1, .int (iI a0)), (2, .long (lI a1))]) hx hb dX3_clearColumn_18 hl (by decide) rfl (fun ls hl => ?_)
    obtain ⟨kk, h⟩ := h
    exact L20 x7 kk st 0 _ _ ls hI hS (lv_sub hl [2, 3, 4, 1, 0] rfl) h
  · replace h := h.1 c2
    exact r_vret hx hb hr hlocks hK hI hS (Qp := Q) h dX3_clearColumn_6
theorem hd3_invert : yX3_invert.cls = RX3 ∧ yX3_invert.cls ≠ "java/lang/invoke/MethodHandle" ∧ yX3_invert.cls ≠ "java/lang/invoke/VarHandle" ∧ (parseMethodDescriptor yX3_invert.desc).map (fun d => d.parameters.length) = some 0 := by decide +kernel
set_option maxHeartbeats 4000000 in
set_option maxRecDepth 100000 in
theorem m3_invert (l : Launch) (G : WG)  (o : Int) (hv_this : vC 3 o) (Q : Int → St → Prop) (st : St)  (h : f3_invert o Q st) : Met l yX3_invert wsX3_invert ({ frames := 1, cells := 0, slots := 0, locals := 29 }) (PcM vC G st [.ref (G.2.2.1 3 o)]) (QlM vC G Q) 0 0 G.2.2.2.1 := by
  refine Met.ofW (cc := cX3_invert) (maxL := 5) (ret := (some .long)) (by decide) rfl ?_
  intro p e s m args below meth c s₁ B hml hvv
  obtain ⟨rfl, hA, hI, hK, hX⟩ := hvv
  have hx := B.exec
  have hb := B.bytes
  have hr := B.returns
  have hts := atoms_spec (ws := wsX3_invert) B.pre
  have hown : s.vm.findClass RX3 = some m.cls := findClass_of_methodNamed B.named
  have hlocks := B.notSynchronized
  have hS : va_S G.2.2.2.1 s.heap s.heap [] := va_S.rf
  have in3 : ∀ w ∈ wsX30, w ∈ wsX3_invert := by decide +kernel
  have lk_11 := hts (.fieldLink RX3 11 "BeamLines$Lines" "matrix" "[[J") (by decide +kernel)
  have lk_19 := hts (.fieldLink RX3 19 "BeamLines$Lines" "size" "I") (by decide +kernel)
  have hl := lv_entry ([.ref (G.2.2.1 3 o)]) (n := 5) (Nat.le_of_ble_eq_true rfl)
  rw [lg_entry_eq]
  generalize (lg_sl ([.ref (G.2.2.1 3 o)]) ++ List.replicate (5 - (lg_sl ([.ref (G.2.2.1 3 o)])).length) Slot.unset).toArray = ls at hl ⊢
  have hl : lv_has ls 5 [(0, .ref (G.2.2.1 3 o))] := hl
  have L4 : ∀ (n4 : Nat), ∀ (st : St) (v1x4 : Int) (v3x4 : Int) (H : Heap) (locs : List Loc) (ls : Array Slot), Iv vC G st H → va_S G.2.2.2.1 s.heap H locs → lv_has ls 5 [(0, .ref (G.2.2.1 3 o)), (1, .long (lI v1x4)), (3, .int (iI v3x4))] → f3_invert_l4 o Q n4 st v1x4 v3x4 → W p l e (headSpec wsX3_invert ({ frames := 1, cells := 0, slots := 0, locals := 29 })).room s m ([.ref (G.2.2.1 3 o)] : List Value).toArray below meth c H locs 0 0 (MQ below (QlM vC G Q) ([.ref (G.2.2.1 3 o)] : List Value).toArray s 0 0 G.2.2.2.1) (F0 m 4 ls []) := by
    intro n4
    induction n4 with
    | zero =>
      intro st v1x4 v3x4 H locs ls hI hS hl h
      exact h.elim
    | succ n4 ih4 =>
      intro st v1x4 v3x4 H locs ls hI hS hl h
      unfold f3_invert_l4 at h
      refine lv_iload_n hx hb dX3_invert_4 rfl (lv_at hl 2 rfl) ?_
      refine lv_aload_n hx hb dX3_invert_5 rfl (lv_at hl 0 rfl) ?_
      refine gg_3_2 hx hb hts in3 hown hK hI hv_this lk_19 dX3_invert_6 ?_
      obtain ⟨g1, h⟩ := h
      obtain ⟨g2, h⟩ := h
      refine r_icmp_ge (tgt := 55) hx hb dX3_invert_9 (by decide) g1 g2 (fun c3 => ?_) (fun c3 => ?_)
      · replace h := h.1 c3
        refine lv_lload_n hx hb dX3_invert_55 rfl (lv_at hl 1 rfl) ?_
        exact r_lret hx hb hr hlocks hK hI hS (Qp := Q) h dX3_invert_56
      · replace h := h.2 c3
        refine lv_aload_n hx hb dX3_invert_12 rfl (lv_at hl 0 rfl) ?_
        refine lv_iload_n hx hb dX3_invert_13 rfl (lv_at hl 2 rfl) ?_
        refine r_calli (va_runV (As := [.int (iI v3x4)]) (rest := []) ⟨hx, hb, hml, hown, hts⟩ (m3_pivotRow l G o hv_this _ st v3x4 h) (cwV 1 hts gX3_invert_X3_pivotRow rfl rfl rfl hd3_pivotRow ⟨Nat.le_of_ble_eq_true rfl, Nat.le_of_ble_eq_true rfl⟩) (pre_V hK hX hI hA hS hv_this rfl rfl [.int (iI v3x4)]) rfl rfl hl.1 rfl (lv_room (Nat.le_of_ble_eq_true rfl)) dX3_invert_14 ⟨Nat.le_of_ble_eq_true rfl, Nat.le_of_ble_eq_true rfl⟩) hS (fun z4 st5 h H locs hI hS => ?_)
        refine lv_istore (lv' := [(4, .int (iI z4)), (0, .ref (G.2.2.1 3 o)), (1, .long (lI v1x4)), (3, .int (iI v3x4))]) hx hb dX3_invert_17 hl (by decide) rfl (fun ls hl => ?_)
        refine lv_iload hx hb dX3_invert_19 (lv_at hl 0 rfl) ?_
        refine r_iconst (n := (-1)) hx hb dX3_invert_21 ?_
        obtain ⟨g6, h⟩ := h
        refine r_icmp_ne (tgt := 27) hx hb dX3_invert_22 (by decide) g6 (inI_mk rfl) (fun c7 => ?_) (fun c7 => ?_)
        · replace h := h.2 c7
          refine lv_aload_n hx hb dX3_invert_27 rfl (lv_at hl 1 rfl) ?_
          refine lv_iload_n hx hb dX3_invert_28 rfl (lv_at hl 3 rfl) ?_
          refine lv_iload hx hb dX3_invert_29 (lv_at hl 0 rfl) ?_
          refine r_callv (va_runV (As := [.int (iI v3x4), .int (iI z4)]) (rest := []) ⟨hx, hb, hml, hown, hts⟩ (m3_swapRows l G o hv_this _ st5 v3x4 z4 h) (cwV 2 hts gX3_invert_X3_swapRows rfl rfl rfl hd3_swapRows ⟨Nat.le_of_ble_eq_true rfl, Nat.le_of_ble_eq_true rfl⟩) (pre_V hK hX hI hA hS hv_this rfl rfl [.int (iI v3x4), .int (iI z4)]) rfl rfl hl.1 rfl (lv_room (Nat.le_of_ble_eq_true rfl)) dX3_invert_31 ⟨Nat.le_of_ble_eq_true rfl, Nat.le_of_ble_eq_true rfl⟩) hS (fun st9 h H locs hI hS => ?_)
          refine lv_aload_n hx hb dX3_invert_34 rfl (lv_at hl 1 rfl) ?_
          refine lv_iload_n hx hb dX3_invert_35 rfl (lv_at hl 3 rfl) ?_
          refine lv_lload_n hx hb dX3_invert_36 rfl (lv_at hl 2 rfl) ?_
          refine r_callv (va_runV (As := [.int (iI v3x4), .long (lI v1x4)]) (rest := []) ⟨hx, hb, hml, hown, hts⟩ (m3_clearColumn l G o hv_this _ st9 v3x4 v1x4 h) (cwV 2 hts gX3_invert_X3_clearColumn rfl rfl rfl hd3_clearColumn ⟨Nat.le_of_ble_eq_true rfl, Nat.le_of_ble_eq_true rfl⟩) (pre_V hK hX hI hA hS hv_this rfl rfl [.int (iI v3x4), .long (lI v1x4)]) rfl rfl hl.1 rfl (lv_room (Nat.le_of_ble_eq_true rfl)) dX3_invert_37 ⟨Nat.le_of_ble_eq_true rfl, Nat.le_of_ble_eq_true rfl⟩) hS (fun st11 h H locs hI hS => ?_)
          refine lv_aload_n hx hb dX3_invert_40 rfl (lv_at hl 1 rfl) ?_
          refine gg_3_0 hx hb hts in3 hown hK hI hv_this lk_11 dX3_invert_41 ?_
          refine lv_iload_n hx hb dX3_invert_44 rfl (lv_at hl 3 rfl) ?_
          obtain ⟨g12, g13, h⟩ := h
          refine r_aaldL hx hb hK hI (K := 17) (vrC_3_0 hv_this) rfl (lts_mk rfl) dX3_invert_45 g12 g13 (a := G.2.2.1 18 (5 * o + v3x4)) (by rw [Int.toNat_of_nonneg g12]) ?_
          refine lv_iload_n hx hb dX3_invert_46 rfl (lv_at hl 3 rfl) ?_
          obtain ⟨g14, g15, h⟩ := h
          refine r_lald hx hb hK hI (K := 18) (va_17 (vrC_3_0 hv_this) g12 g13) rfl (lts_mk rfl) dX3_invert_47 g14 g15 ?_
          refine r_topl (fun x16 hx16 => ?_)
          replace h := h x16 hx16
          refine lv_lstore_n (lv' := [(1, .long (lI x16)), (4, .int (iI z4)), (0, .ref (G.2.2.1 3 o)), (3, .int (iI v3x4))]) hx hb dX3_invert_48 rfl hl (by decide) rfl (fun ls hl => ?_)
          obtain ⟨x17, hx17⟩ : ∃ z : Int, z = v3x4 + 1 := ⟨_, rfl⟩
          replace h := h x17 hx17
          refine lv_iinc (v := iI x17) (lv' := [(3, .int (iI x17)), (1, .long (lI x16)), (4, .int (iI z4)), (0, .ref (G.2.2.1 3 o))]) hx hb dX3_invert_49 hl (k := 3) rfl (by rw [hx17]; exact iI_add _ _) (by decide) rfl (fun ls hl => ?_)
          refine lv_goto (tgt := 4) hx hb dX3_invert_52 (by decide) ?_
          exact ih4 st11 x16 x17 _ _ ls hI hS (lv_sub hl [3, 1, 0] rfl) h
        · replace h := h.1 c7
          refine r_lconst (z := 0) hx hb dX3_invert_25 rfl ?_
          exact r_lret hx hb hr hlocks hK hI hS (Qp := Q) h dX3_invert_26
  unfold f3_invert at h
  refine r_lconst (z := 1) hx hb dX3_invert_0 rfl ?_
  refine lv_lstore_n (lv' := [(1, .long (lI 1)), (0, .ref (G.2.2.1 3 o))]) hx hb dX3_invert_1 rfl hl (by decide) rfl (fun ls hl => ?_)
  refine r_iconst (n := 0) hx hb dX3_invert_2 ?_
  refine lv_istore_n (lv' := [(3, .int (iI 0)), (1, .long (lI 1)), (0, .ref (G.2.2.1 3 o))]) hx hb dX3_invert_3 rfl hl (by decide) rfl (fun ls hl => ?_)
  obtain ⟨kk, h⟩ := h
  exact L4 kk st 1 0 _ _ ls hI hS (lv_sub hl [2, 1, 0] rfl) h
theorem hd3_setLines : yX3_setLines.cls = RX3 ∧ yX3_setLines.cls ≠ "java/lang/invoke/MethodHandle" ∧ yX3_setLines.cls ≠ "java/lang/invoke/VarHandle" ∧ (parseMethodDescriptor yX3_setLines.desc).map (fun d => d.parameters.length) = some 1 := by decide +kernel
set_option maxHeartbeats 4000000 in
set_option maxRecDepth 100000 in
theorem m3_setLines (l : Launch) (G : WG)  (o : Int) (a0 : Int) (hv_this : vC 3 o) (hv_a0 : vC 0 a0) (Q : St → Prop) (st : St)  (h : f3_setLines o a0 Q st) : Met l yX3_setLines wsX3_setLines ({ frames := 3, cells := 0, slots := 0, locals := 64 }) (PcM vC G st [.ref (G.2.2.1 3 o), .ref (G.2.2.1 0 a0)]) (QvM vC G Q) 0 0 G.2.2.2.1 := by
  refine Met.ofW (cc := cX3_setLines) (maxL := 7) (ret := none) (by decide) rfl ?_
  intro p e s m args below meth c s₁ B hml hvv
  obtain ⟨rfl, hA, hI, hK, hX⟩ := hvv
  have hx := B.exec
  have hb := B.bytes
  have hr := B.returns
  have hts := atoms_spec (ws := wsX3_setLines) B.pre
  have hown : s.vm.findClass RX3 = some m.cls := findClass_of_methodNamed B.named
  have hlocks := B.notSynchronized
  have hS : va_S G.2.2.2.1 s.heap s.heap [] := va_S.rf
  have in3 : ∀ w ∈ wsX30, w ∈ wsX3_setLines := by decide +kernel
  have lk_11 := hts (.fieldLink RX3 11 "BeamLines$Lines" "matrix" "[[J") (by decide +kernel)
  have lk_16 := hts (.fieldLink RX3 16 "BeamLines$Lines" "line" "[[J") (by decide +kernel)
  have lk_19 := hts (.fieldLink RX3 19 "BeamLines$Lines" "size" "I") (by decide +kernel)
  have lk_23 := hts (.fieldLink RX3 23 "BeamLines$Lines" "places" "I") (by decide +kernel)
  have hl := lv_entry ([.ref (G.2.2.1 3 o), .ref (G.2.2.1 0 a0)]) (n := 7) (Nat.le_of_ble_eq_true rfl)
  rw [lg_entry_eq]
  generalize (lg_sl ([.ref (G.2.2.1 3 o), .ref (G.2.2.1 0 a0)]) ++ List.replicate (7 - (lg_sl ([.ref (G.2.2.1 3 o), .ref (G.2.2.1 0 a0)])).length) Slot.unset).toArray = ls at hl ⊢
  have hl : lv_has ls 7 [(0, .ref (G.2.2.1 3 o)), (1, .ref (G.2.2.1 0 a0))] := hl
  have L2 : ∀ (n2 : Nat), ∀ (st : St) (v2x2 : Int) (H : Heap) (locs : List Loc) (ls : Array Slot), Iv vC G st H → va_S G.2.2.2.1 s.heap H locs → lv_has ls 7 [(0, .ref (G.2.2.1 3 o)), (1, .ref (G.2.2.1 0 a0)), (2, .int (iI v2x2))] → f3_setLines_l2 o a0 Q n2 st v2x2 → W p l e (headSpec wsX3_setLines ({ frames := 3, cells := 0, slots := 0, locals := 64 })).room s m ([.ref (G.2.2.1 3 o), .ref (G.2.2.1 0 a0)] : List Value).toArray below meth c H locs 0 0 (MQ below (QvM vC G Q) ([.ref (G.2.2.1 3 o), .ref (G.2.2.1 0 a0)] : List Value).toArray s 0 0 G.2.2.2.1) (F0 m 2 ls []) := by
    intro n2
    induction n2 with
    | zero =>
      intro st v2x2 H locs ls hI hS hl h
      exact h.elim
    | succ n2 ih2 =>
      have L12 : ∀ (v2x12 : Int) (n12 : Nat), ∀ (st : St) (v3x12 : Int) (H : Heap) (locs : List Loc) (ls : Array Slot), Iv vC G st H → va_S G.2.2.2.1 s.heap H locs → lv_has ls 7 [(0, .ref (G.2.2.1 3 o)), (1, .ref (G.2.2.1 0 a0)), (2, .int (iI v2x12)), (3, .int (iI v3x12))] → f3_setLines_l12 o a0 (fun st v2x2 => f3_setLines_l2 o a0 Q n2 st v2x2) Q v2x12 n12 st v3x12 → W p l e (headSpec wsX3_setLines ({ frames := 3, cells := 0, slots := 0, locals := 64 })).room s m ([.ref (G.2.2.1 3 o), .ref (G.2.2.1 0 a0)] : List Value).toArray below meth c H locs 0 0 (MQ below (QvM vC G Q) ([.ref (G.2.2.1 3 o), .ref (G.2.2.1 0 a0)] : List Value).toArray s 0 0 G.2.2.2.1) (F0 m 12 ls []) := by
        intro v2x12 n12
        induction n12 with
        | zero =>
          intro st v3x12 H locs ls hI hS hl h
          exact h.elim
        | succ n12 ih12 =>
          have L26 : ∀ (v3x26 : Int) (n26 : Nat), ∀ (st : St) (v4x26 : Int) (v6x26 : Int) (H : Heap) (locs : List Loc) (ls : Array Slot), Iv vC G st H → va_S G.2.2.2.1 s.heap H locs → lv_has ls 7 [(0, .ref (G.2.2.1 3 o)), (1, .ref (G.2.2.1 0 a0)), (2, .int (iI v2x12)), (3, .int (iI v3x26)), (4, .long (lI v4x26)), (6, .int (iI v6x26))] → f3_setLines_l26 o a0 (fun st v2x2 => f3_setLines_l2 o a0 Q n2 st v2x2) (fun st v3x12 => f3_setLines_l12 o a0 (fun st v2x2 => f3_setLines_l2 o a0 Q n2 st v2x2) Q v2x12 n12 st v3x12) Q v2x12 v3x26 n26 st v4x26 v6x26 → W p l e (headSpec wsX3_setLines ({ frames := 3, cells := 0, slots := 0, locals := 64 })).room s m ([.ref (G.2.2.1 3 o), .ref (G.2.2.1 0 a0)] : List Value).toArray below meth c H locs 0 0 (MQ below (QvM vC G Q) ([.ref (G.2.2.1 3 o), .ref (G.2.2.1 0 a0)] : List Value).toArray s 0 0 G.2.2.2.1) (F0 m 26 ls []) := by
            intro v3x26 n26
            induction n26 with
            | zero =>
              intro st v4x26 v6x26 H locs ls hI hS hl h
              exact h.elim
            | succ n26 ih26 =>
              intro st v4x26 v6x26 H locs ls hI hS hl h
              unfold f3_setLines_l26 at h
              refine lv_iload hx hb dX3_setLines_26 (lv_at hl 5 rfl) ?_
              refine lv_aload_n hx hb dX3_setLines_28 rfl (lv_at hl 0 rfl) ?_
              refine gg_3_2 hx hb hts in3 hown hK hI hv_this lk_19 dX3_setLines_29 ?_
              obtain ⟨g8, h⟩ := h
              obtain ⟨g9, h⟩ := h
              refine r_icmp_ge (tgt := 69) hx hb dX3_setLines_32 (by decide) g8 g9 (fun c10 => ?_) (fun c10 => ?_)
              · replace h := h.1 c10
                refine lv_aload_n hx hb dX3_setLines_69 rfl (lv_at hl 0 rfl) ?_
                refine gg_3_1 hx hb hts in3 hown hK hI hv_this lk_16 dX3_setLines_70 ?_
                refine lv_iload_n hx hb dX3_setLines_73 rfl (lv_at hl 3 rfl) ?_
                obtain ⟨g11, g12, h⟩ := h
                refine r_aaldL hx hb hK hI (K := 19) (vrC_3_1 hv_this) rfl (lts_mk rfl) dX3_setLines_74 g11 g12 (a := G.2.2.1 20 (5 * o + v3x26)) (by rw [Int.toNat_of_nonneg g11]) ?_
                refine lv_iload_n hx hb dX3_setLines_75 rfl (lv_at hl 2 rfl) ?_
                refine lv_lload hx hb dX3_setLines_76 (lv_at hl 4 rfl) ?_
                obtain ⟨g13, g14, h⟩ := h
                refine r_last hx hb hK hI hS (K := 20) (va_19 (vrC_3_1 hv_this) g11 g12) (fun _ => rfl) (lts_mk rfl) dX3_setLines_78 g13 g14 (fun st15 hst15 H locs hI hS => ?_)
                replace h := h st15 hst15
                obtain ⟨x16, hx16⟩ : ∃ z : Int, z = v3x26 + 1 := ⟨_, rfl⟩
                replace h := h x16 hx16
                refine lv_iinc (v := iI x16) (lv' := [(3, .int (iI x16)), (0, .ref (G.2.2.1 3 o)), (1, .ref (G.2.2.1 0 a0)), (2, .int (iI v2x12)), (4, .long (lI v4x26)), (6, .int (iI v6x26))]) hx hb dX3_setLines_79 hl (k := 3) rfl (by rw [hx16]; exact iI_add _ _) (by decide) rfl (fun ls hl => ?_)
                refine lv_goto (tgt := 12) hx hb dX3_setLines_82 (by decide) ?_
                exact ih12 st15 x16 _ _ ls hI hS (lv_sub hl [1, 2, 3, 0] rfl) h
              · replace h := h.2 c10
                refine lv_lload hx hb dX3_setLines_35 (lv_at hl 4 rfl) ?_
                refine lv_aload_n hx hb dX3_setLines_37 rfl (lv_at hl 0 rfl) ?_
                refine gg_3_0 hx hb hts in3 hown hK hI hv_this lk_11 dX3_setLines_38 ?_
                refine lv_iload_n hx hb dX3_setLines_41 rfl (lv_at hl 3 rfl) ?_
                obtain ⟨g17, g18, h⟩ := h
                refine r_aaldL hx hb hK hI (K := 17) (vrC_3_0 hv_this) rfl (lts_mk rfl) dX3_setLines_42 g17 g18 (a := G.2.2.1 18 (5 * o + v3x26)) (by rw [Int.toNat_of_nonneg g17]) ?_
                refine lv_aload_n hx hb dX3_setLines_43 rfl (lv_at hl 0 rfl) ?_
                refine gg_3_2 hx hb hts in3 hown hK hI hv_this lk_19 dX3_setLines_44 ?_
                refine lv_iload hx hb dX3_setLines_47 (lv_at hl 5 rfl) ?_
                refine r_iadd hx hb dX3_setLines_49 ?_
                obtain ⟨g19, g20, h⟩ := h
                refine r_lald hx hb hK hI (K := 18) (va_17 (vrC_3_0 hv_this) g17 g18) rfl (lts_mk rfl) dX3_setLines_50 g19 g20 ?_
                refine lv_aload_n hx hb dX3_setLines_51 rfl (lv_at hl 1 rfl) ?_
                refine lv_iload hx hb dX3_setLines_52 (lv_at hl 5 rfl) ?_
                refine lv_iload_n hx hb dX3_setLines_54 rfl (lv_at hl 2 rfl) ?_
                refine r_calli (va_runS (As := [.ref (G.2.2.1 0 a0), .int (iI v6x26), .int (iI v2x12)]) (rest := [.long (lI (st 18 0 (5 * o + v3x26) ((st 3 2 o 0) + v6x26))), .long (lI v4x26)]) ⟨hx, hb, hml, hown, hts⟩ (m3_weighing l G a0 hv_a0 _ st v6x26 v2x12 h) (va_cwS 3 hts gX3_setLines_X3_weighing rfl rfl rfl hd3_weighing ⟨Nat.le_of_ble_eq_true rfl, Nat.le_of_ble_eq_true rfl⟩) (pre_S hK hX hI hA hS [.ref (G.2.2.1 0 a0), .int (iI v6x26), .int (iI v2x12)]) rfl rfl hl.1 rfl (lv_room (Nat.le_of_ble_eq_true rfl)) dX3_setLines_55 ⟨Nat.le_of_ble_eq_true rfl, Nat.le_of_ble_eq_true rfl⟩) hS (fun z21 st22 h H locs hI hS => ?_)
                obtain ⟨g23, h⟩ := h
                refine r_i2l hx hb dX3_setLines_58 g23 ?_
                refine r_lmul hx hb dX3_setLines_59 ?_
                refine r_ladd hx hb dX3_setLines_60 ?_
                refine r_topl (fun x24 hx24 => ?_)
                replace h := h x24 hx24
                refine lv_lstore (lv' := [(4, .long (lI x24)), (0, .ref (G.2.2.1 3 o)), (1, .ref (G.2.2.1 0 a0)), (2, .int (iI v2x12)), (3, .int (iI v3x26)), (6, .int (iI v6x26))]) hx hb dX3_setLines_61 hl (by decide) rfl (fun ls hl => ?_)
                obtain ⟨x25, hx25⟩ : ∃ z : Int, z = v6x26 + 1 := ⟨_, rfl⟩
                replace h := h x25 hx25
                refine lv_iinc (v := iI x25) (lv' := [(6, .int (iI x25)), (4, .long (lI x24)), (0, .ref (G.2.2.1 3 o)), (1, .ref (G.2.2.1 0 a0)), (2, .int (iI v2x12)), (3, .int (iI v3x26))]) hx hb dX3_setLines_63 hl (k := 5) rfl (by rw [hx25]; exact iI_add _ _) (by decide) rfl (fun ls hl => ?_)
                refine lv_goto (tgt := 26) hx hb dX3_setLines_66 (by decide) ?_
                exact ih26 st22 x24 x25 _ _ ls hI hS (lv_sub hl [2, 3, 4, 5, 1, 0] rfl) h
          intro st v3x12 H locs ls hI hS hl h
          unfold f3_setLines_l12 at h
          refine lv_iload_n hx hb dX3_setLines_12 rfl (lv_at hl 3 rfl) ?_
          refine lv_aload_n hx hb dX3_setLines_13 rfl (lv_at hl 0 rfl) ?_
          refine gg_3_2 hx hb hts in3 hown hK hI hv_this lk_19 dX3_setLines_14 ?_
          obtain ⟨g4, h⟩ := h
          obtain ⟨g5, h⟩ := h
          refine r_icmp_ge (tgt := 85) hx hb dX3_setLines_17 (by decide) g4 g5 (fun c6 => ?_) (fun c6 => ?_)
          · replace h := h.1 c6
            obtain ⟨x7, hx7⟩ : ∃ z : Int, z = v2x12 + 1 := ⟨_, rfl⟩
            replace h := h x7 hx7
            refine lv_iinc (v := iI x7) (lv' := [(2, .int (iI x7)), (0, .ref (G.2.2.1 3 o)), (1, .ref (G.2.2.1 0 a0)), (3, .int (iI v3x12))]) hx hb dX3_setLines_85 hl (k := 2) rfl (by rw [hx7]; exact iI_add _ _) (by decide) rfl (fun ls hl => ?_)
            refine lv_goto (tgt := 2) hx hb dX3_setLines_88 (by decide) ?_
            exact ih2 st x7 _ _ ls hI hS (lv_sub hl [1, 2, 0] rfl) h
          · replace h := h.2 c6
            refine r_lconst (z := 0) hx hb dX3_setLines_20 rfl ?_
            refine lv_lstore (lv' := [(4, .long (lI 0)), (0, .ref (G.2.2.1 3 o)), (1, .ref (G.2.2.1 0 a0)), (2, .int (iI v2x12)), (3, .int (iI v3x12))]) hx hb dX3_setLines_21 hl (by decide) rfl (fun ls hl => ?_)
            refine r_iconst (n := 0) hx hb dX3_setLines_23 ?_
            refine lv_istore (lv' := [(6, .int (iI 0)), (4, .long (lI 0)), (0, .ref (G.2.2.1 3 o)), (1, .ref (G.2.2.1 0 a0)), (2, .int (iI v2x12)), (3, .int (iI v3x12))]) hx hb dX3_setLines_24 hl (by decide) rfl (fun ls hl => ?_)
            obtain ⟨kk, h⟩ := h
            exact L26 v3x12 kk st 0 0 _ _ ls hI hS (lv_sub hl [2, 3, 4, 5, 1, 0] rfl) h
      intro st v2x2 H locs ls hI hS hl h
      unfold f3_setLines_l2 at h
      refine lv_iload_n hx hb dX3_setLines_2 rfl (lv_at hl 2 rfl) ?_
      refine lv_aload_n hx hb dX3_setLines_3 rfl (lv_at hl 0 rfl) ?_
      refine gg_3_3 hx hb hts in3 hown hK hI hv_this lk_23 dX3_setLines_4 ?_
      obtain ⟨g1, h⟩ := h
      obtain ⟨g2, h⟩ := h
      refine r_icmp_ge (tgt := 91) hx hb dX3_setLines_7 (by decide) g1 g2 (fun c3 => ?_) (fun c3 => ?_)
      · replace h := h.1 c3
        exact r_vret hx hb hr hlocks hK hI hS (Qp := Q) h dX3_setLines_91
      · replace h := h.2 c3
        refine r_iconst (n := 0) hx hb dX3_setLines_10 ?_
        refine lv_istore_n (lv' := [(3, .int (iI 0)), (0, .ref (G.2.2.1 3 o)), (1, .ref (G.2.2.1 0 a0)), (2, .int (iI v2x2))]) hx hb dX3_setLines_11 rfl hl (by decide) rfl (fun ls hl => ?_)
        obtain ⟨kk, h⟩ := h
        exact L12 v2x2 kk st 0 _ _ ls hI hS (lv_sub hl [1, 2, 3, 0] rfl) h
  unfold f3_setLines at h
  refine r_iconst (n := 0) hx hb dX3_setLines_0 ?_
  refine lv_istore_n (lv' := [(2, .int (iI 0)), (0, .ref (G.2.2.1 3 o)), (1, .ref (G.2.2.1 0 a0))]) hx hb dX3_setLines_1 rfl hl (by decide) rfl (fun ls hl => ?_)
  obtain ⟨kk, h⟩ := h
  exact L2 kk st 0 _ _ ls hI hS (lv_sub hl [1, 2, 0] rfl) h
theorem hd3_commonDivisor : yX3_commonDivisor.cls ≠ "java/lang/invoke/MethodHandle" ∧ yX3_commonDivisor.cls ≠ "java/lang/invoke/VarHandle" ∧ (parseMethodDescriptor yX3_commonDivisor.desc).map (fun d => d.parameters.length) = some 2 := by decide +kernel
set_option maxHeartbeats 4000000 in
set_option maxRecDepth 100000 in
theorem m3_commonDivisor (l : Launch) (G : WG)    (Q : Int → St → Prop) (st : St) (a0 : Int) (a1 : Int) (h : f3_commonDivisor Q st a0 a1) : Met l yX3_commonDivisor wsX3_commonDivisor ({ frames := 0, cells := 0, slots := 0, locals := 0 }) (PcM vC G st [.long (lI a0), .long (lI a1)]) (QlM vC G Q) 0 0 G.2.2.2.1 := by
  refine Met.ofW (cc := cX3_commonDivisor) (maxL := 7) (ret := (some .long)) (by decide) rfl ?_
  intro p e s m args below meth c s₁ B hml hvv
  obtain ⟨rfl, hA, hI, hK, hX⟩ := hvv
  have hx := B.exec
  have hb := B.bytes
  have hr := B.returns
  have hts := atoms_spec (ws := wsX3_commonDivisor) B.pre
  have hown : s.vm.findClass RX3 = some m.cls := findClass_of_methodNamed B.named
  have hlocks := B.notSynchronized
  have hS : va_S G.2.2.2.1 s.heap s.heap [] := va_S.rf
  have hl := lv_entry ([.long (lI a0), .long (lI a1)]) (n := 7) (Nat.le_of_ble_eq_true rfl)
  rw [lg_entry_eq]
  generalize (lg_sl ([.long (lI a0), .long (lI a1)]) ++ List.replicate (7 - (lg_sl ([.long (lI a0), .long (lI a1)])).length) Slot.unset).toArray = ls at hl ⊢
  have hl : lv_has ls 7 [(0, .long (lI a0)), (2, .long (lI a1))] := hl
  have L3 : ∀ (n3 : Nat), ∀ (st : St) (v0x3 : Int) (v2x3 : Int) (v4x3 : Int) (H : Heap) (locs : List Loc) (ls : Array Slot), Iv vC G st H → va_S G.2.2.2.1 s.heap H locs → lv_has ls 7 [(0, .long (lI v0x3)), (2, .long (lI v2x3)), (4, .int (iI v4x3))] → f3_commonDivisor_l3 Q n3 st v0x3 v2x3 v4x3 → W p l e (headSpec wsX3_commonDivisor ({ frames := 0, cells := 0, slots := 0, locals := 0 })).room s m ([.long (lI a0), .long (lI a1)] : List Value).toArray below meth c H locs 0 0 (MQ below (QlM vC G Q) ([.long (lI a0), .long (lI a1)] : List Value).toArray s 0 0 G.2.2.2.1) (F0 m 3 ls []) := by
    intro n3
    induction n3 with
    | zero =>
      intro st v0x3 v2x3 v4x3 H locs ls hI hS hl h
      exact h.elim
    | succ n3 ih3 =>
      intro st v0x3 v2x3 v4x3 H locs ls hI hS hl h
      unfold f3_commonDivisor_l3 at h
      refine lv_iload hx hb dX3_commonDivisor_3 (lv_at hl 2 rfl) ?_
      refine r_bipush (n := 100) hx hb dX3_commonDivisor_5 rfl ?_
      obtain ⟨g1, h⟩ := h
      refine r_icmp_ge (tgt := 32) hx hb dX3_commonDivisor_7 (by decide) g1 (inI_mk rfl) (fun c2 => ?_) (fun c2 => ?_)
      · replace h := h.1 c2
        refine lv_lload_n hx hb dX3_commonDivisor_32 rfl (lv_at hl 0 rfl) ?_
        exact r_lret hx hb hr hlocks hK hI hS (Qp := Q) h dX3_commonDivisor_33
      · replace h := h.2 c2
        refine lv_lload_n hx hb dX3_commonDivisor_10 rfl (lv_at hl 1 rfl) ?_
        refine r_lconst (z := 0) hx hb dX3_commonDivisor_11 rfl ?_
        obtain ⟨g3, h⟩ := h
        refine r_lcmp_eq (tgt := 32) hx hb dX3_commonDivisor_12 dX3_commonDivisor_13 (by decide) g3 (inL_mk rfl) (fun c4 => ?_) (fun c4 => ?_)
        · replace h := h.1 c4
          refine lv_lload_n hx hb dX3_commonDivisor_32 rfl (lv_at hl 0 rfl) ?_
          exact r_lret hx hb hr hlocks hK hI hS (Qp := Q) h dX3_commonDivisor_33
        · replace h := h.2 c4
          refine lv_lload_n hx hb dX3_commonDivisor_16 rfl (lv_at hl 0 rfl) ?_
          refine lv_lload_n hx hb dX3_commonDivisor_17 rfl (lv_at hl 1 rfl) ?_
          obtain ⟨g5, h⟩ := h
          obtain ⟨g6, h⟩ := h
          obtain ⟨g7, h⟩ := h
          refine r_lrem hx hb dX3_commonDivisor_18 g5 g6 g7 ?_
          refine r_topl (fun x8 hx8 => ?_)
          replace h := h x8 hx8
          refine lv_lstore (lv' := [(5, .long (lI x8)), (0, .long (lI v0x3)), (2, .long (lI v2x3)), (4, .int (iI v4x3))]) hx hb dX3_commonDivisor_19 hl (by decide) rfl (fun ls hl => ?_)
          refine lv_lload_n hx hb dX3_commonDivisor_21 rfl (lv_at hl 2 rfl) ?_
          refine lv_lstore_n (lv' := [(0, .long (lI v2x3)), (5, .long (lI x8)), (2, .long (lI v2x3)), (4, .int (iI v4x3))]) hx hb dX3_commonDivisor_22 rfl hl (by decide) rfl (fun ls hl => ?_)
          refine lv_lload hx hb dX3_commonDivisor_23 (lv_at hl 1 rfl) ?_
          refine lv_lstore_n (lv' := [(2, .long (lI x8)), (0, .long (lI v2x3)), (5, .long (lI x8)), (4, .int (iI v4x3))]) hx hb dX3_commonDivisor_25 rfl hl (by decide) rfl (fun ls hl => ?_)
          obtain ⟨x9, hx9⟩ : ∃ z : Int, z = v4x3 + 1 := ⟨_, rfl⟩
          replace h := h x9 hx9
          refine lv_iinc (v := iI x9) (lv' := [(4, .int (iI x9)), (2, .long (lI x8)), (0, .long (lI v2x3)), (5, .long (lI x8))]) hx hb dX3_commonDivisor_26 hl (k := 3) rfl (by rw [hx9]; exact iI_add _ _) (by decide) rfl (fun ls hl => ?_)
          refine lv_goto (tgt := 3) hx hb dX3_commonDivisor_29 (by decide) ?_
          exact ih3 st v2x3 x8 x9 _ _ ls hI hS (lv_sub hl [2, 1, 0] rfl) h
  unfold f3_commonDivisor at h
  refine r_iconst (n := 0) hx hb dX3_commonDivisor_0 ?_
  refine lv_istore (lv' := [(4, .int (iI 0)), (0, .long (lI a0)), (2, .long (lI a1))]) hx hb dX3_commonDivisor_1 hl (by decide) rfl (fun ls hl => ?_)
  obtain ⟨kk, h⟩ := h
  exact L3 kk st a0 a1 0 _ _ ls hI hS (lv_sub hl [1, 2, 0] rfl) h
