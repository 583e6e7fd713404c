theorem hd3_shorten : yX3_shorten.cls = RX3 ∧ yX3_shorten.cls ≠ "java/lang/invoke/MethodHandle" ∧ yX3_shorten.cls ≠ "java/lang/invoke/VarHandle" ∧ (parseMethodDescriptor yX3_shorten.desc).map (fun d => d.parameters.length) = some 1 := by decide +kernel
set_option maxHeartbeats 4000000 in
set_option maxRecDepth 100000 in
theorem m3_shorten (l : Launch) (G : WG)  (o : Int) (hv_this : vC 3 o) (Q : St → Prop) (st : St) (a0 : Int) (h : f3_shorten o Q st a0) : Met l yX3_shorten wsX3_shorten ({ frames := 1, cells := 0, slots := 0, locals := 26 }) (PcM vC G st [.ref (G.2.2.1 3 o), .long (lI a0)]) (QvM vC G Q) 0 0 G.2.2.2.1 := by
  refine Met.ofW (cc := cX3_shorten) (maxL := 9) (ret := none) (by decide) rfl ?_
  intro p e s m args below meth c s₁ B hml hvv
  obtain ⟨rfl, hA, hI, hK, hX⟩ := hvv
  have hx := B.exec
  have hb := B.bytes
  have hr := B.returns
  have hts := atoms_spec (ws := wsX3_shorten) B.pre
  have hown : s.vm.findClass RX3 = some m.cls := findClass_of_methodNamed B.named
  have hlocks := B.notSynchronized
  have hS : va_S G.2.2.2.1 s.heap s.heap [] := va_S.rf
  have in3 : ∀ w ∈ wsX30, w ∈ wsX3_shorten := by decide +kernel
  have lk_16 := hts (.fieldLink RX3 16 "BeamLines$Lines" "line" "[[J") (by decide +kernel)
  have lk_19 := hts (.fieldLink RX3 19 "BeamLines$Lines" "size" "I") (by decide +kernel)
  have lk_23 := hts (.fieldLink RX3 23 "BeamLines$Lines" "places" "I") (by decide +kernel)
  have lk_26 := hts (.fieldLink RX3 26 "BeamLines$Lines" "common" "J") (by decide +kernel)
  have ml_88 : (Cond.methodLink RX3 88 Lib.MathLoose.abs_long.x).before _ s = true ∧ (Cond.static Lib.MathLoose.abs_long.x).before _ s = true ∧ (Cond.initialized "java/lang/Math").before _ s = true ∧ (Cond.code Lib.MathLoose.abs_long.x Lib.MathLoose.abs_long.code 2 (some .long)).before _ s = true := ⟨hts _ (by decide +kernel), hts _ (by decide +kernel), hts _ (by decide +kernel), hts _ (by decide +kernel)⟩
  have hl := lv_entry ([.ref (G.2.2.1 3 o), .long (lI a0)]) (n := 9) (Nat.le_of_ble_eq_true rfl)
  rw [lg_entry_eq]
  generalize (lg_sl ([.ref (G.2.2.1 3 o), .long (lI a0)]) ++ List.replicate (9 - (lg_sl ([.ref (G.2.2.1 3 o), .long (lI a0)])).length) Slot.unset).toArray = ls at hl ⊢
  have hl : lv_has ls 9 [(0, .ref (G.2.2.1 3 o)), (1, .long (lI a0))] := hl
  have L93 : ∀ (v5x93 : Int) (n93 : Nat), ∀ (st : St) (v7x93 : Int) (H : Heap) (locs : List Loc) (ls : Array Slot), Iv vC G st H → va_S G.2.2.2.1 s.heap H locs → lv_has ls 9 [(0, .ref (G.2.2.1 3 o)), (5, .long (lI v5x93)), (7, .int (iI v7x93))] → f3_shorten_l93 o Q v5x93 n93 st v7x93 → W p l e (headSpec wsX3_shorten ({ frames := 1, cells := 0, slots := 0, locals := 26 })).room s m ([.ref (G.2.2.1 3 o), .long (lI a0)] : List Value).toArray below meth c H locs 0 0 (MQ below (QvM vC G Q) ([.ref (G.2.2.1 3 o), .long (lI a0)] : List Value).toArray s 0 0 G.2.2.2.1) (F0 m 93 ls []) := by
    intro v5x93 n93
    induction n93 with
    | zero =>
      intro st v7x93 H locs ls hI hS hl h
      exact h.elim
    | succ n93 ih93 =>
      have L105 : ∀ (v7x105 : Int) (n105 : Nat), ∀ (st : St) (v8x105 : Int) (H : Heap) (locs : List Loc) (ls : Array Slot), Iv vC G st H → va_S G.2.2.2.1 s.heap H locs → lv_has ls 9 [(0, .ref (G.2.2.1 3 o)), (5, .long (lI v5x93)), (7, .int (iI v7x105)), (8, .int (iI v8x105))] → f3_shorten_l105 o (fun st v7x93 => f3_shorten_l93 o Q v5x93 n93 st v7x93) Q v5x93 v7x105 n105 st v8x105 → W p l e (headSpec wsX3_shorten ({ frames := 1, cells := 0, slots := 0, locals := 26 })).room s m ([.ref (G.2.2.1 3 o), .long (lI a0)] : List Value).toArray below meth c H locs 0 0 (MQ below (QvM vC G Q) ([.ref (G.2.2.1 3 o), .long (lI a0)] : List Value).toArray s 0 0 G.2.2.2.1) (F0 m 105 ls []) := by
        intro v7x105 n105
        induction n105 with
        | zero =>
          intro st v8x105 H locs ls hI hS hl h
          exact h.elim
        | succ n105 ih105 =>
          intro st v8x105 H locs ls hI hS hl h
          unfold f3_shorten_l105 at h
          refine lv_iload hx hb dX3_shorten_105 (lv_at hl 3 rfl) ?_
          refine lv_aload_n hx hb dX3_shorten_107 rfl (lv_at hl 0 rfl) ?_
          refine gg_3_3 hx hb hts in3 hown hK hI hv_this lk_23 dX3_shorten_108 ?_
          obtain ⟨g30, h⟩ := h
          obtain ⟨g31, h⟩ := h
          refine r_icmp_ge (tgt := 135) hx hb dX3_shorten_111 (by decide) g30 g31 (fun c32 => ?_) (fun c32 => ?_)
          · replace h := h.1 c32
            obtain ⟨x33, hx33⟩ : ∃ z : Int, z = v7x105 + 1 := ⟨_, rfl⟩
            replace h := h x33 hx33
            refine lv_iinc (v := iI x33) (lv' := [(7, .int (iI x33)), (0, .ref (G.2.2.1 3 o)), (5, .long (lI v5x93)), (8, .int (iI v8x105))]) hx hb dX3_shorten_135 hl (k := 2) rfl (by rw [hx33]; exact iI_add _ _) (by decide) rfl (fun ls hl => ?_)
            refine lv_goto (tgt := 93) hx hb dX3_shorten_138 (by decide) ?_
            exact ih93 st x33 _ _ ls hI hS (lv_sub hl [1, 2, 0] rfl) h
          · replace h := h.2 c32
            refine lv_aload_n hx hb dX3_shorten_114 rfl (lv_at hl 0 rfl) ?_
            refine gg_3_1 hx hb hts in3 hown hK hI hv_this lk_16 dX3_shorten_115 ?_
            refine lv_iload hx hb dX3_shorten_118 (lv_at hl 2 rfl) ?_
            obtain ⟨g34, g35, h⟩ := h
            refine r_aaldL hx hb hK hI (K := 19) (vrC_3_1 hv_this) rfl (lts_mk rfl) dX3_shorten_120 g34 g35 (a := G.2.2.1 20 (5 * o + v7x105)) (by rw [Int.toNat_of_nonneg g34]) ?_
            refine lv_iload hx hb dX3_shorten_121 (lv_at hl 3 rfl) ?_
            refine lv_dup2_11 hx hb dX3_shorten_123 rfl rfl ?_
            obtain ⟨g36, g37, h⟩ := h
            refine r_lald hx hb hK hI (K := 20) (va_19 (vrC_3_1 hv_this) g34 g35) rfl (lts_mk rfl) dX3_shorten_124 g36 g37 ?_
            refine lv_lload hx hb dX3_shorten_125 (lv_at hl 1 rfl) ?_
            obtain ⟨g38, h⟩ := h
            obtain ⟨g39, h⟩ := h
            obtain ⟨g40, h⟩ := h
            refine r_ldiv hx hb dX3_shorten_127 g38 g39 g40 ?_
            obtain ⟨g41, g42, h⟩ := h
            refine r_last hx hb hK hI hS (K := 20) (va_19 (vrC_3_1 hv_this) g34 g35) (fun _ => rfl) (lts_mk rfl) dX3_shorten_128 g41 g42 (fun st43 hst43 H locs hI hS => ?_)
            replace h := h st43 hst43
            obtain ⟨x44, hx44⟩ : ∃ z : Int, z = v8x105 + 1 := ⟨_, rfl⟩
            replace h := h x44 hx44
            refine lv_iinc (v := iI x44) (lv' := [(8, .int (iI x44)), (0, .ref (G.2.2.1 3 o)), (5, .long (lI v5x93)), (7, .int (iI v7x105))]) hx hb dX3_shorten_129 hl (k := 3) rfl (by rw [hx44]; exact iI_add _ _) (by decide) rfl (fun ls hl => ?_)
            refine lv_goto (tgt := 105) hx hb dX3_shorten_132 (by decide) ?_
            exact ih105 st43 x44 _ _ ls hI hS (lv_sub hl [1, 2, 3, 0] rfl) h
      intro st v7x93 H locs ls hI hS hl h
      unfold f3_shorten_l93 at h
      refine lv_iload hx hb dX3_shorten_93 (lv_at hl 2 rfl) ?_
      refine lv_aload_n hx hb dX3_shorten_95 rfl (lv_at hl 0 rfl) ?_
      refine gg_3_2 hx hb hts in3 hown hK hI hv_this lk_19 dX3_shorten_96 ?_
      obtain ⟨g27, h⟩ := h
      obtain ⟨g28, h⟩ := h
      refine r_icmp_ge (tgt := 141) hx hb dX3_shorten_99 (by decide) g27 g28 (fun c29 => ?_) (fun c29 => ?_)
      · replace h := h.1 c29
        exact r_vret hx hb hr hlocks hK hI hS (Qp := Q) h dX3_shorten_141
      · replace h := h.2 c29
        refine r_iconst (n := 0) hx hb dX3_shorten_102 ?_
        refine lv_istore (lv' := [(8, .int (iI 0)), (0, .ref (G.2.2.1 3 o)), (5, .long (lI v5x93)), (7, .int (iI v7x93))]) hx hb dX3_shorten_103 hl (by decide) rfl (fun ls hl => ?_)
        obtain ⟨kk, h⟩ := h
        exact L105 v7x93 kk st 0 _ _ ls hI hS (lv_sub hl [1, 2, 3, 0] rfl) h
  have J88 : ∀ (st : St) (s0x88 : Int) (H : Heap) (locs : List Loc) (ls : Array Slot), Iv vC G st H → va_S G.2.2.2.1 s.heap H locs → lv_has ls 9 [(0, .ref (G.2.2.1 3 o))] → f3_shorten_j88 o Q st s0x88 → W p l e (headSpec wsX3_shorten ({ frames := 1, cells := 0, slots := 0, locals := 26 })).room s m ([.ref (G.2.2.1 3 o), .long (lI a0)] : List Value).toArray below meth c H locs 0 0 (MQ below (QvM vC G Q) ([.ref (G.2.2.1 3 o), .long (lI a0)] : List Value).toArray s 0 0 G.2.2.2.1) (F0 m 88 ls [.long (lI s0x88)]) := by
    intro st s0x88 H locs ls hI hS hl h
    unfold f3_shorten_j88 at h
    refine lv_lstore (lv' := [(5, .long (lI s0x88)), (0, .ref (G.2.2.1 3 o))]) hx hb dX3_shorten_88 hl (by decide) rfl (fun ls hl => ?_)
    refine r_iconst (n := 0) hx hb dX3_shorten_90 ?_
    refine lv_istore (lv' := [(7, .int (iI 0)), (5, .long (lI s0x88)), (0, .ref (G.2.2.1 3 o))]) hx hb dX3_shorten_91 hl (by decide) rfl (fun ls hl => ?_)
    obtain ⟨kk, h⟩ := h
    exact L93 s0x88 kk st 0 _ _ ls hI hS (lv_sub hl [2, 1, 0] rfl) h
  have L8 : ∀ (n8 : Nat), ∀ (st : St) (v3x8 : Int) (v5x8 : Int) (H : Heap) (locs : List Loc) (ls : Array Slot), Iv vC G st H → va_S G.2.2.2.1 s.heap H locs → lv_has ls 9 [(0, .ref (G.2.2.1 3 o)), (1, .long (lI a0)), (3, .long (lI v3x8)), (5, .int (iI v5x8))] → f3_shorten_l8 o Q a0 n8 st v3x8 v5x8 → W p l e (headSpec wsX3_shorten ({ frames := 1, cells := 0, slots := 0, locals := 26 })).room s m ([.ref (G.2.2.1 3 o), .long (lI a0)] : List Value).toArray below meth c H locs 0 0 (MQ below (QvM vC G Q) ([.ref (G.2.2.1 3 o), .long (lI a0)] : List Value).toArray s 0 0 G.2.2.2.1) (F0 m 8 ls []) := by
    intro n8
    induction n8 with
    | zero =>
      intro st v3x8 v5x8 H locs ls hI hS hl h
      exact h.elim
    | succ n8 ih8 =>
      have L20 : ∀ (v5x20 : Int) (n20 : Nat), ∀ (st : St) (v3x20 : Int) (v6x20 : Int) (H : Heap) (locs : List Loc) (ls : Array Slot), Iv vC G st H → va_S G.2.2.2.1 s.heap H locs → lv_has ls 9 [(0, .ref (G.2.2.1 3 o)), (1, .long (lI a0)), (3, .long (lI v3x20)), (5, .int (iI v5x20)), (6, .int (iI v6x20))] → f3_shorten_l20 o (fun st v3x8 v5x8 => f3_shorten_l8 o Q a0 n8 st v3x8 v5x8) Q a0 v5x20 n20 st v3x20 v6x20 → W p l e (headSpec wsX3_shorten ({ frames := 1, cells := 0, slots := 0, locals := 26 })).room s m ([.ref (G.2.2.1 3 o), .long (lI a0)] : List Value).toArray below meth c H locs 0 0 (MQ below (QvM vC G Q) ([.ref (G.2.2.1 3 o), .long (lI a0)] : List Value).toArray s 0 0 G.2.2.2.1) (F0 m 20 ls []) := by
        intro v5x20 n20
        induction n20 with
        | zero =>
          intro st v3x20 v6x20 H locs ls hI hS hl h
          exact h.elim
        | succ n20 ih20 =>
          intro st v3x20 v6x20 H locs ls hI hS hl h
          unfold f3_shorten_l20 at h
          refine lv_iload hx hb dX3_shorten_20 (lv_at hl 4 rfl) ?_
          refine lv_aload_n hx hb dX3_shorten_22 rfl (lv_at hl 0 rfl) ?_
          refine gg_3_3 hx hb hts in3 hown hK hI hv_this lk_23 dX3_shorten_23 ?_
          obtain ⟨g15, h⟩ := h
          obtain ⟨g16, h⟩ := h
          refine r_icmp_ge (tgt := 53) hx hb dX3_shorten_26 (by decide) g15 g16 (fun c17 => ?_) (fun c17 => ?_)
          · replace h := h.1 c17
            obtain ⟨x18, hx18⟩ : ∃ z : Int, z = v5x20 + 1 := ⟨_, rfl⟩
            replace h := h x18 hx18
            refine lv_iinc (v := iI x18) (lv' := [(5, .int (iI x18)), (0, .ref (G.2.2.1 3 o)), (1, .long (lI a0)), (3, .long (lI v3x20)), (6, .int (iI v6x20))]) hx hb dX3_shorten_53 hl (k := 3) rfl (by rw [hx18]; exact iI_add _ _) (by decide) rfl (fun ls hl => ?_)
            refine lv_goto (tgt := 8) hx hb dX3_shorten_56 (by decide) ?_
            exact ih8 st v3x20 x18 _ _ ls hI hS (lv_sub hl [1, 2, 3, 0] rfl) h
          · replace h := h.2 c17
            refine lv_lload_n hx hb dX3_shorten_29 rfl (lv_at hl 2 rfl) ?_
            refine lv_aload_n hx hb dX3_shorten_30 rfl (lv_at hl 0 rfl) ?_
            refine gg_3_1 hx hb hts in3 hown hK hI hv_this lk_16 dX3_shorten_31 ?_
            refine lv_iload hx hb dX3_shorten_34 (lv_at hl 3 rfl) ?_
            obtain ⟨g19, g20, h⟩ := h
            refine r_aaldL hx hb hK hI (K := 19) (vrC_3_1 hv_this) rfl (lts_mk rfl) dX3_shorten_36 g19 g20 (a := G.2.2.1 20 (5 * o + v5x20)) (by rw [Int.toNat_of_nonneg g19]) ?_
            refine lv_iload hx hb dX3_shorten_37 (lv_at hl 4 rfl) ?_
            obtain ⟨g21, g22, h⟩ := h
            refine r_lald hx hb hK hI (K := 20) (va_19 (vrC_3_1 hv_this) g19 g20) rfl (lts_mk rfl) dX3_shorten_39 g21 g22 ?_
            obtain ⟨g23, h⟩ := h
            refine r_mabs_long hx hb (hml.trans hl.1.symm) hown ml_88 dX3_shorten_40 g23 ⟨Nat.le_of_ble_eq_true rfl, Nat.le_of_ble_eq_true rfl, Nat.zero_le _, Nat.zero_le _⟩ (Nat.le_of_ble_eq_true rfl) ?_
            refine r_calll (va_runS (As := [.long (lI v3x20), .long (lI (iabs (st 20 0 (5 * o + v5x20) v6x20)))]) (rest := []) ⟨hx, hb, hml, hown, hts⟩ (m3_commonDivisor l G _ st v3x20 (iabs (st 20 0 (5 * o + v5x20) v6x20)) h) (va_cwS 2 hts gX3_shorten_X3_commonDivisor rfl rfl rfl hd3_commonDivisor ⟨Nat.le_of_ble_eq_true rfl, Nat.le_of_ble_eq_true rfl⟩) (pre_S hK hX hI hA hS [.long (lI v3x20), .long (lI (iabs (st 20 0 (5 * o + v5x20) v6x20)))]) rfl rfl hl.1 rfl (lv_room (Nat.le_of_ble_eq_true rfl)) dX3_shorten_43 ⟨Nat.le_of_ble_eq_true rfl, Nat.le_of_ble_eq_true rfl⟩) hS (fun z24 st25 h H locs hI hS => ?_)
            refine lv_lstore_n (lv' := [(3, .long (lI z24)), (0, .ref (G.2.2.1 3 o)), (1, .long (lI a0)), (5, .int (iI v5x20)), (6, .int (iI v6x20))]) hx hb dX3_shorten_46 rfl hl (by decide) rfl (fun ls hl => ?_)
            obtain ⟨x26, hx26⟩ : ∃ z : Int, z = v6x20 + 1 := ⟨_, rfl⟩
            replace h := h x26 hx26
            refine lv_iinc (v := iI x26) (lv' := [(6, .int (iI x26)), (3, .long (lI z24)), (0, .ref (G.2.2.1 3 o)), (1, .long (lI a0)), (5, .int (iI v5x20))]) hx hb dX3_shorten_47 hl (k := 4) rfl (by rw [hx26]; exact iI_add _ _) (by decide) rfl (fun ls hl => ?_)
            refine lv_goto (tgt := 20) hx hb dX3_shorten_50 (by decide) ?_
            exact ih20 st25 z24 x26 _ _ ls hI hS (lv_sub hl [2, 3, 1, 4, 0] rfl) h
      intro st v3x8 v5x8 H locs ls hI hS hl h
      unfold f3_shorten_l8 at h
      refine lv_iload hx hb dX3_shorten_8 (lv_at hl 3 rfl) ?_
      refine lv_aload_n hx hb dX3_shorten_10 rfl (lv_at hl 0 rfl) ?_
      refine gg_3_2 hx hb hts in3 hown hK hI hv_this lk_19 dX3_shorten_11 ?_
      obtain ⟨g3, h⟩ := h
      obtain ⟨g4, h⟩ := h
      refine r_icmp_ge (tgt := 59) hx hb dX3_shorten_14 (by decide) g3 g4 (fun c5 => ?_) (fun c5 => ?_)
      · replace h := h.1 c5
        refine lv_lload_n hx hb dX3_shorten_59 rfl (lv_at hl 2 rfl) ?_
        refine r_lconst (z := 0) hx hb dX3_shorten_60 rfl ?_
        obtain ⟨g6, h⟩ := h
        refine r_lcmp_ne (tgt := 66) hx hb dX3_shorten_61 dX3_shorten_62 (by decide) g6 (inL_mk rfl) (fun c7 => ?_) (fun c7 => ?_)
        · replace h := h.2 c7
          refine lv_aload_n hx hb dX3_shorten_66 rfl (lv_at hl 0 rfl) ?_
          refine lv_lload_n hx hb dX3_shorten_67 rfl (lv_at hl 1 rfl) ?_
          obtain ⟨g8, h⟩ := h
          refine r_mabs_long hx hb (hml.trans hl.1.symm) hown ml_88 dX3_shorten_68 g8 ⟨Nat.le_of_ble_eq_true rfl, Nat.le_of_ble_eq_true rfl, Nat.zero_le _, Nat.zero_le _⟩ (Nat.le_of_ble_eq_true rfl) ?_
          refine lv_lload_n hx hb dX3_shorten_71 rfl (lv_at hl 2 rfl) ?_
          obtain ⟨g9, h⟩ := h
          obtain ⟨g10, h⟩ := h
          obtain ⟨g11, h⟩ := h
          refine r_ldiv hx hb dX3_shorten_72 g9 g10 g11 ?_
          refine pp_3_4 hx hb hts in3 hown hK hI hS hv_this lk_26 dX3_shorten_73 (fun st12 hst12 H locs hI hS => ?_)
          replace h := h st12 hst12
          refine lv_lload_n hx hb dX3_shorten_76 rfl (lv_at hl 1 rfl) ?_
          refine r_lconst (z := 0) hx hb dX3_shorten_77 rfl ?_
          obtain ⟨g13, h⟩ := h
          refine r_lcmp_ge (tgt := 87) hx hb dX3_shorten_78 dX3_shorten_79 (by decide) g13 (inL_mk rfl) (fun c14 => ?_) (fun c14 => ?_)
          · replace h := h.1 c14
            refine lv_lload_n hx hb dX3_shorten_87 rfl (lv_at hl 2 rfl) ?_
            exact J88 st12 v3x8 _ _ ls hI hS (lv_sub hl [0] rfl) h
          · replace h := h.2 c14
            refine lv_lload_n hx hb dX3_shorten_82 rfl (lv_at hl 2 rfl) ?_
            refine r_lneg hx hb dX3_shorten_83 ?_
            refine lv_goto (tgt := 88) hx hb dX3_shorten_84 (by decide) ?_
            exact J88 st12 (-v3x8) _ _ ls hI hS (lv_sub hl [0] rfl) h
        · replace h := h.1 c7
          exact r_vret hx hb hr hlocks hK hI hS (Qp := Q) h dX3_shorten_65
      · replace h := h.2 c5
        refine r_iconst (n := 0) hx hb dX3_shorten_17 ?_
        refine lv_istore (lv' := [(6, .int (iI 0)), (0, .ref (G.2.2.1 3 o)), (1, .long (lI a0)), (3, .long (lI v3x8)), (5, .int (iI v5x8))]) hx hb dX3_shorten_18 hl (by decide) rfl (fun ls hl => ?_)
        obtain ⟨kk, h⟩ := h
        exact L20 v5x8 kk st v3x8 0 _ _ ls hI hS (lv_sub hl [1, 2, 3, 4, 0] rfl) h
  unfold f3_shorten at h
  refine lv_lload_n hx hb dX3_shorten_0 rfl (lv_at hl 1 rfl) ?_
  obtain ⟨g1, h⟩ := h
  refine r_mabs_long hx hb (hml.trans hl.1.symm) hown ml_88 dX3_shorten_1 g1 ⟨Nat.le_of_ble_eq_true rfl, Nat.le_of_ble_eq_true rfl, Nat.zero_le _, Nat.zero_le _⟩ (Nat.le_of_ble_eq_true rfl) ?_
  refine r_topl (fun x2 hx2 => ?_)
  replace h := h x2 hx2
  refine lv_lstore_n (lv' := [(3, .long (lI x2)), (0, .ref (G.2.2.1 3 o)), (1, .long (lI a0))]) hx hb dX3_shorten_4 rfl hl (by decide) rfl (fun ls hl => ?_)
  refine r_iconst (n := 0) hx hb dX3_shorten_5 ?_
  refine lv_istore (lv' := [(5, .int (iI 0)), (3, .long (lI x2)), (0, .ref (G.2.2.1 3 o)), (1, .long (lI a0))]) hx hb dX3_shorten_6 hl (by decide) rfl (fun ls hl => ?_)
  obtain ⟨kk, h⟩ := h
  exact L8 kk st x2 0 _ _ ls hI hS (lv_sub hl [2, 3, 1, 0] rfl) h
theorem hd3_reckon : yX3_reckon.cls = RX3 ∧ yX3_reckon.cls ≠ "java/lang/invoke/MethodHandle" ∧ yX3_reckon.cls ≠ "java/lang/invoke/VarHandle" ∧ (parseMethodDescriptor yX3_reckon.desc).map (fun d => d.parameters.length) = some 1 := by decide +kernel
set_option maxHeartbeats 4000000 in
set_option maxRecDepth 100000 in
theorem m3_reckon (l : Launch) (G : WG)  (o : Int) (a0 : Int) (hv_this : vC 3 o) (hv_a0 : vC 0 a0) (Q : Int → St → Prop) (st : St)  (h : f3_reckon o a0 Q st) : Met l yX3_reckon wsX3_reckon ({ frames := 4, cells := 0, slots := 0, locals := 90 }) (PcM vC G st [.ref (G.2.2.1 3 o), .ref (G.2.2.1 0 a0)]) (QiM vC G Q) 0 0 G.2.2.2.1 := by
  refine Met.ofW (cc := cX3_reckon) (maxL := 4) (ret := (some .boolean)) (by decide) rfl ?_
  intro p e s m args below meth c s₁ B hml hvv
  obtain ⟨rfl, hA, hI, hK, hX⟩ := hvv
  have hx := B.exec
  have hb := B.bytes
  have hr := B.returns
  have hts := atoms_spec (ws := wsX3_reckon) B.pre
  have hown : s.vm.findClass RX3 = some m.cls := findClass_of_methodNamed B.named
  have hlocks := B.notSynchronized
  have hS : va_S G.2.2.2.1 s.heap s.heap [] := va_S.rf
  have in0 : ∀ w ∈ wsX00, w ∈ wsX3_reckon := by decide +kernel
  have in3 : ∀ w ∈ wsX30, w ∈ wsX3_reckon := by decide +kernel
  have in6 : ∀ w ∈ wsX60, w ∈ wsX3_reckon := by decide +kernel
  have lk_19 := hts (.fieldLink RX3 19 "BeamLines$Lines" "size" "I") (by decide +kernel)
  have lk_23 := hts (.fieldLink RX3 23 "BeamLines$Lines" "places" "I") (by decide +kernel)
  have lk_30 := hts (.fieldLink RX3 30 "BeamLines$Beam" "supports" "LBeamLines$Row;") (by decide +kernel)
  have lk_36 := hts (.fieldLink RX3 36 "BeamLines$Row" "size" "I") (by decide +kernel)
  have lk_45 := hts (.fieldLink RX3 45 "BeamLines$Beam" "length" "I") (by decide +kernel)
  have ml_39 : (Cond.methodLink RX3 39 Lib.Math.min.name).before _ s = true ∧ (Cond.static Lib.Math.min.name).before _ s = true ∧ (Cond.initialized "java/lang/Math").before _ s = true ∧ (Cond.code Lib.Math.min.name Lib.Math.min.code 2 (some .int)).before _ s = true := ⟨hts _ (by decide +kernel), hts _ (by decide +kernel), hts _ (by decide +kernel), hts _ (by decide +kernel)⟩
  have hl := lv_entry ([.ref (G.2.2.1 3 o), .ref (G.2.2.1 0 a0)]) (n := 4) (Nat.le_of_ble_eq_true rfl)
  rw [lg_entry_eq]
  generalize (lg_sl ([.ref (G.2.2.1 3 o), .ref (G.2.2.1 0 a0)]) ++ List.replicate (4 - (lg_sl ([.ref (G.2.2.1 3 o), .ref (G.2.2.1 0 a0)])).length) Slot.unset).toArray = ls at hl ⊢
  have hl : lv_has ls 4 [(0, .ref (G.2.2.1 3 o)), (1, .ref (G.2.2.1 0 a0))] := hl
  unfold f3_reckon at h
  refine lv_aload_n hx hb dX3_reckon_0 rfl (lv_at hl 0 rfl) ?_
  refine lv_aload_n hx hb dX3_reckon_1 rfl (lv_at hl 1 rfl) ?_
  refine gg_0_2 hx hb hts in0 hown hK hI hv_a0 lk_30 dX3_reckon_2 ?_
  refine gg_6_2 hx hb hts in6 hown hK hI (vrC_0_2 hv_a0) lk_36 dX3_reckon_5 ?_
  refine r_iconst (n := 5) hx hb dX3_reckon_8 ?_
  obtain ⟨g1, h⟩ := h
  refine r_mmin hx hb (hml.trans hl.1.symm) hown ml_39 dX3_reckon_9 g1 (inI_mk rfl) ⟨Nat.le_of_ble_eq_true rfl, Nat.le_of_ble_eq_true rfl, Nat.zero_le _, Nat.zero_le _⟩ (Nat.le_of_ble_eq_true rfl) ?_
  refine pp_3_2 hx hb hts in3 hown hK hI hS hv_this lk_19 dX3_reckon_12 (fun st2 hst2 H locs hI hS => ?_)
  replace h := h st2 hst2
  refine lv_aload_n hx hb dX3_reckon_15 rfl (lv_at hl 0 rfl) ?_
  refine lv_aload_n hx hb dX3_reckon_16 rfl (lv_at hl 1 rfl) ?_
  refine gg_0_0 hx hb hts in0 hown hK hI hv_a0 lk_45 dX3_reckon_17 ?_
  refine r_iconst (n := 1) hx hb dX3_reckon_20 ?_
  refine r_iadd hx hb dX3_reckon_21 ?_
  refine r_bipush (n := 31) hx hb dX3_reckon_22 rfl ?_
  obtain ⟨g3, h⟩ := h
  refine r_mmin hx hb (hml.trans hl.1.symm) hown ml_39 dX3_reckon_24 g3 (inI_mk rfl) ⟨Nat.le_of_ble_eq_true rfl, Nat.le_of_ble_eq_true rfl, Nat.zero_le _, Nat.zero_le _⟩ (Nat.le_of_ble_eq_true rfl) ?_
  refine pp_3_3 hx hb hts in3 hown hK hI hS hv_this lk_23 dX3_reckon_27 (fun st4 hst4 H locs hI hS => ?_)
  replace h := h st4 hst4
  refine lv_aload_n hx hb dX3_reckon_30 rfl (lv_at hl 0 rfl) ?_
  refine lv_aload_n hx hb dX3_reckon_31 rfl (lv_at hl 1 rfl) ?_
  refine r_callv (va_runV (As := [.ref (G.2.2.1 0 a0)]) (rest := []) ⟨hx, hb, hml, hown, hts⟩ (m3_setEquations l G o a0 hv_this hv_a0 _ st4 h) (cwV 1 hts gX3_reckon_X3_setEquations rfl rfl rfl hd3_setEquations ⟨Nat.le_of_ble_eq_true rfl, Nat.le_of_ble_eq_true rfl⟩) (pre_V hK hX hI hA hS hv_this rfl rfl [.ref (G.2.2.1 0 a0)]) rfl rfl hl.1 rfl (lv_room (Nat.le_of_ble_eq_true rfl)) dX3_reckon_32 ⟨Nat.le_of_ble_eq_true rfl, Nat.le_of_ble_eq_true rfl⟩) hS (fun st6 h H locs hI hS => ?_)
  refine lv_aload_n hx hb dX3_reckon_35 rfl (lv_at hl 0 rfl) ?_
  refine r_calll (va_runV (As := []) (rest := []) ⟨hx, hb, hml, hown, hts⟩ (m3_invert l G o hv_this _ st6 h) (cwV 0 hts gX3_reckon_X3_invert rfl rfl rfl hd3_invert ⟨Nat.le_of_ble_eq_true rfl, Nat.le_of_ble_eq_true rfl⟩) (pre_V hK hX hI hA hS hv_this rfl rfl []) rfl rfl hl.1 rfl (lv_room (Nat.le_of_ble_eq_true rfl)) dX3_reckon_36 ⟨Nat.le_of_ble_eq_true rfl, Nat.le_of_ble_eq_true rfl⟩) hS (fun z7 st8 h H locs hI hS => ?_)
  refine lv_lstore_n (lv' := [(2, .long (lI z7)), (0, .ref (G.2.2.1 3 o)), (1, .ref (G.2.2.1 0 a0))]) hx hb dX3_reckon_39 rfl hl (by decide) rfl (fun ls hl => ?_)
  refine lv_lload_n hx hb dX3_reckon_40 rfl (lv_at hl 0 rfl) ?_
  refine r_lconst (z := 0) hx hb dX3_reckon_41 rfl ?_
  obtain ⟨g9, h⟩ := h
  refine r_lcmp_ne (tgt := 48) hx hb dX3_reckon_42 dX3_reckon_43 (by decide) g9 (inL_mk rfl) (fun c10 => ?_) (fun c10 => ?_)
  · replace h := h.2 c10
    refine lv_aload_n hx hb dX3_reckon_48 rfl (lv_at hl 1 rfl) ?_
    refine lv_aload_n hx hb dX3_reckon_49 rfl (lv_at hl 2 rfl) ?_
    refine r_callv (va_runV (As := [.ref (G.2.2.1 0 a0)]) (rest := []) ⟨hx, hb, hml, hown, hts⟩ (m3_setLines l G o a0 hv_this hv_a0 _ st8 h) (cwV 1 hts gX3_reckon_X3_setLines rfl rfl rfl hd3_setLines ⟨Nat.le_of_ble_eq_true rfl, Nat.le_of_ble_eq_true rfl⟩) (pre_V hK hX hI hA hS hv_this rfl rfl [.ref (G.2.2.1 0 a0)]) rfl rfl hl.1 rfl (lv_room (Nat.le_of_ble_eq_true rfl)) dX3_reckon_50 ⟨Nat.le_of_ble_eq_true rfl, Nat.le_of_ble_eq_true rfl⟩) hS (fun st12 h H locs hI hS => ?_)
    refine lv_aload_n hx hb dX3_reckon_53 rfl (lv_at hl 1 rfl) ?_
    refine lv_lload_n hx hb dX3_reckon_54 rfl (lv_at hl 0 rfl) ?_
    refine r_callv (va_runV (As := [.long (lI z7)]) (rest := []) ⟨hx, hb, hml, hown, hts⟩ (m3_shorten l G o hv_this _ st12 z7 h) (cwV 1 hts gX3_reckon_X3_shorten rfl rfl rfl hd3_shorten ⟨Nat.le_of_ble_eq_true rfl, Nat.le_of_ble_eq_true rfl⟩) (pre_V hK hX hI hA hS hv_this rfl rfl [.long (lI z7)]) rfl rfl hl.1 rfl (lv_room (Nat.le_of_ble_eq_true rfl)) dX3_reckon_55 ⟨Nat.le_of_ble_eq_true rfl, Nat.le_of_ble_eq_true rfl⟩) hS (fun st14 h H locs hI hS => ?_)
    refine r_iconst (n := 1) hx hb dX3_reckon_58 ?_
    exact r_zret hx hb hr hlocks hK hI hS (Qp := Q) (by decide) h dX3_reckon_59
  · replace h := h.1 c10
    refine r_iconst (n := 0) hx hb dX3_reckon_46 ?_
    exact r_zret hx hb hr hlocks hK hI hS (Qp := Q) (by decide) h dX3_reckon_47
theorem hd4_look : yX4_look.cls = RX4 ∧ yX4_look.cls ≠ "java/lang/invoke/MethodHandle" ∧ yX4_look.cls ≠ "java/lang/invoke/VarHandle" ∧ (parseMethodDescriptor yX4_look.desc).map (fun d => d.parameters.length) = some 2 := by decide +kernel
set_option maxHeartbeats 4000000 in
set_option maxRecDepth 100000 in
theorem m4_look (l : Launch) (G : WG)   (hv_this : vC 4 0) (Q : St → Prop) (st : St) (a0 : Int) (a1 : Int) (h : f4_look Q st a0 a1) : Met l yX4_look wsX4_look ({ frames := 0, cells := 0, slots := 0, locals := 0 }) (PcM vC G st [.ref (G.2.2.1 4 0), .long (lI a0), .int (iI a1)]) (QvM vC G Q) 0 0 G.2.2.2.1 := by
  refine Met.ofW (cc := cX4_look) (maxL := 4) (ret := none) (by decide) rfl ?_
  intro p e s m args below meth c s₁ B hml hvv
  obtain ⟨rfl, hA, hI, hK, hX⟩ := hvv
  have hx := B.exec
  have hb := B.bytes
  have hr := B.returns
  have hts := atoms_spec (ws := wsX4_look) B.pre
  have hown : s.vm.findClass RX4 = some m.cls := findClass_of_methodNamed B.named
  have hlocks := B.notSynchronized
  have hS : va_S G.2.2.2.1 s.heap s.heap [] := va_S.rf
  have in4 : ∀ w ∈ wsX40, w ∈ wsX4_look := by decide +kernel
  have lk_7 := hts (.fieldLink RX4 7 "BeamLines$Peak" "size" "J") (by decide +kernel)
  have lk_13 := hts (.fieldLink RX4 13 "BeamLines$Peak" "place" "I") (by decide +kernel)
  have hl := lv_entry ([.ref (G.2.2.1 4 0), .long (lI a0), .int (iI a1)]) (n := 4) (Nat.le_of_ble_eq_true rfl)
  rw [lg_entry_eq]
  generalize (lg_sl ([.ref (G.2.2.1 4 0), .long (lI a0), .int (iI a1)]) ++ List.replicate (4 - (lg_sl ([.ref (G.2.2.1 4 0), .long (lI a0), .int (iI a1)])).length) Slot.unset).toArray = ls at hl ⊢
  have hl : lv_has ls 4 [(0, .ref (G.2.2.1 4 0)), (1, .long (lI a0)), (3, .int (iI a1))] := hl
  have J26 : ∀ (st : St) (H : Heap) (locs : List Loc) (ls : Array Slot), Iv vC G st H → va_S G.2.2.2.1 s.heap H locs → lv_has ls 4 [(0, .ref (G.2.2.1 4 0)), (1, .long (lI a0)), (3, .int (iI a1))] → f4_look_j26 Q a0 a1 st → W p l e (headSpec wsX4_look ({ frames := 0, cells := 0, slots := 0, locals := 0 })).room s m ([.ref (G.2.2.1 4 0), .long (lI a0), .int (iI a1)] : List Value).toArray below meth c H locs 0 0 (MQ below (QvM vC G Q) ([.ref (G.2.2.1 4 0), .long (lI a0), .int (iI a1)] : List Value).toArray s 0 0 G.2.2.2.1) (F0 m 26 ls []) := by
    intro st H locs ls hI hS hl h
    unfold f4_look_j26 at h
    refine lv_aload_n hx hb dX4_look_26 rfl (lv_at hl 0 rfl) ?_
    refine lv_lload_n hx hb dX4_look_27 rfl (lv_at hl 1 rfl) ?_
    refine pp_4_0 hx hb hts in4 hown hK hI hS hv_this lk_7 dX4_look_28 (fun st10 hst10 H locs hI hS => ?_)
    replace h := h st10 hst10
    refine lv_aload_n hx hb dX4_look_31 rfl (lv_at hl 0 rfl) ?_
    refine lv_iload_n hx hb dX4_look_32 rfl (lv_at hl 2 rfl) ?_
    refine pp_4_1 hx hb hts in4 hown hK hI hS hv_this lk_13 dX4_look_33 (fun st11 hst11 H locs hI hS => ?_)
    replace h := h st11 hst11
    exact r_vret hx hb hr hlocks hK hI hS (Qp := Q) h dX4_look_36
  unfold f4_look at h
  refine lv_lload_n hx hb dX4_look_0 rfl (lv_at hl 1 rfl) ?_
  refine lv_aload_n hx hb dX4_look_1 rfl (lv_at hl 0 rfl) ?_
  refine gg_4_0 hx hb hts in4 hown hK hI hv_this lk_7 dX4_look_2 ?_
  obtain ⟨g1, h⟩ := h
  obtain ⟨g2, h⟩ := h
  refine r_lcmp_gt (tgt := 26) hx hb dX4_look_5 dX4_look_6 (by decide) g1 g2 (fun c3 => ?_) (fun c3 => ?_)
  · replace h := h.1 c3
    exact J26 st  _ _ ls hI hS (lv_sub hl [0, 1, 2] rfl) h
  · replace h := h.2 c3
    refine lv_lload_n hx hb dX4_look_9 rfl (lv_at hl 1 rfl) ?_
    refine lv_aload_n hx hb dX4_look_10 rfl (lv_at hl 0 rfl) ?_
    refine gg_4_0 hx hb hts in4 hown hK hI hv_this lk_7 dX4_look_11 ?_
    obtain ⟨g4, h⟩ := h
    obtain ⟨g5, h⟩ := h
    refine r_lcmp_ne (tgt := 36) hx hb dX4_look_14 dX4_look_15 (by decide) g4 g5 (fun c6 => ?_) (fun c6 => ?_)
    · replace h := h.2 c6
      exact r_vret hx hb hr hlocks hK hI hS (Qp := Q) h dX4_look_36
    · replace h := h.1 c6
      refine lv_iload_n hx hb dX4_look_18 rfl (lv_at hl 2 rfl) ?_
      refine lv_aload_n hx hb dX4_look_19 rfl (lv_at hl 0 rfl) ?_
      refine gg_4_1 hx hb hts in4 hown hK hI hv_this lk_13 dX4_look_20 ?_
      obtain ⟨g7, h⟩ := h
      obtain ⟨g8, h⟩ := h
      refine r_icmp_ge (tgt := 36) hx hb dX4_look_23 (by decide) g7 g8 (fun c9 => ?_) (fun c9 => ?_)
      · replace h := h.1 c9
        exact r_vret hx hb hr hlocks hK hI hS (Qp := Q) h dX4_look_36
      · replace h := h.2 c9
        exact J26 st  _ _ ls hI hS (lv_sub hl [0, 1, 2] rfl) h
theorem hd4_find : yX4_find.cls = RX4 ∧ yX4_find.cls ≠ "java/lang/invoke/MethodHandle" ∧ yX4_find.cls ≠ "java/lang/invoke/VarHandle" ∧ (parseMethodDescriptor yX4_find.desc).map (fun d => d.parameters.length) = some 3 := by decide +kernel
set_option maxHeartbeats 4000000 in
set_option maxRecDepth 100000 in
theorem m4_find (l : Launch) (G : WG)  (a0 : Int) (a1 : Int) (a2 : Int) (hv_this : vC 4 0) (hv_a0 : vC 0 a0) (hv_a1 : vC 3 a1) (hv_a2 : vC 1 a2) (Q : St → Prop) (st : St)  (h : f4_find a0 a1 a2 Q st) : Met l yX4_find wsX4_find ({ frames := 5, cells := 0, slots := 0, locals := 118 }) (PcM vC G st [.ref (G.2.2.1 4 0), .ref (G.2.2.1 0 a0), .ref (G.2.2.1 3 a1), .ref (G.2.2.1 1 a2)]) (QvM vC G Q) 0 0 G.2.2.2.1 := by
  refine Met.ofW (cc := cX4_find) (maxL := 7) (ret := none) (by decide) rfl ?_
  intro p e s m args below meth c s₁ B hml hvv
  obtain ⟨rfl, hA, hI, hK, hX⟩ := hvv
  have hx := B.exec
  have hb := B.bytes
  have hr := B.returns
  have hts := atoms_spec (ws := wsX4_find) B.pre
  have hown : s.vm.findClass RX4 = some m.cls := findClass_of_methodNamed B.named
  have hlocks := B.notSynchronized
  have hS : va_S G.2.2.2.1 s.heap s.heap [] := va_S.rf
  have in0 : ∀ w ∈ wsX00, w ∈ wsX4_find := by decide +kernel
  have in4 : ∀ w ∈ wsX40, w ∈ wsX4_find := by decide +kernel
  have lk_7 := hts (.fieldLink RX4 7 "BeamLines$Peak" "size" "J") (by decide +kernel)
  have lk_13 := hts (.fieldLink RX4 13 "BeamLines$Peak" "place" "I") (by decide +kernel)
  have lk_29 := hts (.fieldLink RX4 29 "BeamLines$Beam" "length" "I") (by decide +kernel)
  have ml_36 : (Cond.methodLink RX4 36 Lib.MathLoose.abs_long.x).before _ s = true ∧ (Cond.static Lib.MathLoose.abs_long.x).before _ s = true ∧ (Cond.initialized "java/lang/Math").before _ s = true ∧ (Cond.code Lib.MathLoose.abs_long.x Lib.MathLoose.abs_long.code 2 (some .long)).before _ s = true := ⟨hts _ (by decide +kernel), hts _ (by decide +kernel), hts _ (by decide +kernel), hts _ (by decide +kernel)⟩
  have hl := lv_entry ([.ref (G.2.2.1 4 0), .ref (G.2.2.1 0 a0), .ref (G.2.2.1 3 a1), .ref (G.2.2.1 1 a2)]) (n := 7) (Nat.le_of_ble_eq_true rfl)
  rw [lg_entry_eq]
  generalize (lg_sl ([.ref (G.2.2.1 4 0), .ref (G.2.2.1 0 a0), .ref (G.2.2.1 3 a1), .ref (G.2.2.1 1 a2)]) ++ List.replicate (7 - (lg_sl ([.ref (G.2.2.1 4 0), .ref (G.2.2.1 0 a0), .ref (G.2.2.1 3 a1), .ref (G.2.2.1 1 a2)])).length) Slot.unset).toArray = ls at hl ⊢
  have hl : lv_has ls 7 [(0, .ref (G.2.2.1 4 0)), (1, .ref (G.2.2.1 0 a0)), (2, .ref (G.2.2.1 3 a1)), (3, .ref (G.2.2.1 1 a2))] := hl
  have L19 : ∀ (v4x19 : Int) (n19 : Nat), ∀ (st : St) (v5x19 : Int) (H : Heap) (locs : List Loc) (ls : Array Slot), Iv vC G st H → va_S G.2.2.2.1 s.heap H locs → lv_has ls 7 [(0, .ref (G.2.2.1 4 0)), (1, .ref (G.2.2.1 0 a0)), (2, .ref (G.2.2.1 3 a1)), (3, .ref (G.2.2.1 1 a2)), (4, .int (iI v4x19)), (5, .int (iI v5x19))] → f4_find_l19 a0 a1 a2 Q v4x19 n19 st v5x19 → W p l e (headSpec wsX4_find ({ frames := 5, cells := 0, slots := 0, locals := 118 })).room s m ([.ref (G.2.2.1 4 0), .ref (G.2.2.1 0 a0), .ref (G.2.2.1 3 a1), .ref (G.2.2.1 1 a2)] : List Value).toArray below meth c H locs 0 0 (MQ below (QvM vC G Q) ([.ref (G.2.2.1 4 0), .ref (G.2.2.1 0 a0), .ref (G.2.2.1 3 a1), .ref (G.2.2.1 1 a2)] : List Value).toArray s 0 0 G.2.2.2.1) (F0 m 19 ls []) := by
    intro v4x19 n19
    induction n19 with
    | zero =>
      intro st v5x19 H locs ls hI hS hl h
      exact h.elim
    | succ n19 ih19 =>
      have L37 : ∀ (v5x37 : Int) (n37 : Nat), ∀ (st : St) (v6x37 : Int) (H : Heap) (locs : List Loc) (ls : Array Slot), Iv vC G st H → va_S G.2.2.2.1 s.heap H locs → lv_has ls 7 [(0, .ref (G.2.2.1 4 0)), (1, .ref (G.2.2.1 0 a0)), (2, .ref (G.2.2.1 3 a1)), (3, .ref (G.2.2.1 1 a2)), (4, .int (iI v4x19)), (5, .int (iI v5x37)), (6, .int (iI v6x37))] → f4_find_l37 a0 a1 a2 (fun st v5x19 => f4_find_l19 a0 a1 a2 Q v4x19 n19 st v5x19) Q v4x19 v5x37 n37 st v6x37 → W p l e (headSpec wsX4_find ({ frames := 5, cells := 0, slots := 0, locals := 118 })).room s m ([.ref (G.2.2.1 4 0), .ref (G.2.2.1 0 a0), .ref (G.2.2.1 3 a1), .ref (G.2.2.1 1 a2)] : List Value).toArray below meth c H locs 0 0 (MQ below (QvM vC G Q) ([.ref (G.2.2.1 4 0), .ref (G.2.2.1 0 a0), .ref (G.2.2.1 3 a1), .ref (G.2.2.1 1 a2)] : List Value).toArray s 0 0 G.2.2.2.1) (F0 m 37 ls []) := by
        intro v5x37 n37
        induction n37 with
        | zero =>
          intro st v6x37 H locs ls hI hS hl h
          exact h.elim
        | succ n37 ih37 =>
          intro st v6x37 H locs ls hI hS hl h
          unfold f4_find_l37 at h
          refine lv_iload hx hb dX4_find_37 (lv_at hl 6 rfl) ?_
          refine lv_aload_n hx hb dX4_find_39 rfl (lv_at hl 1 rfl) ?_
          refine gg_0_0 hx hb hts in0 hown hK hI hv_a0 lk_29 dX4_find_40 ?_
          obtain ⟨g10, h⟩ := h
          obtain ⟨g11, h⟩ := h
          refine r_icmp_gt (tgt := 67) hx hb dX4_find_43 (by decide) g10 g11 (fun c12 => ?_) (fun c12 => ?_)
          · replace h := h.1 c12
            obtain ⟨x13, hx13⟩ : ∃ z : Int, z = v5x37 + 1 := ⟨_, rfl⟩
            replace h := h x13 hx13
            refine lv_iinc (v := iI x13) (lv' := [(5, .int (iI x13)), (0, .ref (G.2.2.1 4 0)), (1, .ref (G.2.2.1 0 a0)), (2, .ref (G.2.2.1 3 a1)), (3, .ref (G.2.2.1 1 a2)), (4, .int (iI v4x19)), (6, .int (iI v6x37))]) hx hb dX4_find_67 hl (k := 5) rfl (by rw [hx13]; exact iI_add _ _) (by decide) rfl (fun ls hl => ?_)
            refine lv_goto (tgt := 19) hx hb dX4_find_70 (by decide) ?_
            exact ih19 st x13 _ _ ls hI hS (lv_sub hl [1, 2, 3, 4, 5, 0] rfl) h
          · replace h := h.2 c12
            refine lv_aload_n hx hb dX4_find_46 rfl (lv_at hl 0 rfl) ?_
            refine lv_aload_n hx hb dX4_find_47 rfl (lv_at hl 3 rfl) ?_
            refine lv_iload hx hb dX4_find_48 (lv_at hl 6 rfl) ?_
            refine r_calll (va_runV (As := [.int (iI v6x37)]) (rest := [.ref (G.2.2.1 4 0)]) ⟨hx, hb, hml, hown, hts⟩ (m1_momentAt l G a2 hv_a2 _ st v6x37 h) (cwV 1 hts gX4_find_X1_momentAt rfl rfl rfl hd1_momentAt ⟨Nat.le_of_ble_eq_true rfl, Nat.le_of_ble_eq_true rfl⟩) (pre_V hK hX hI hA hS hv_a2 rfl rfl [.int (iI v6x37)]) rfl rfl hl.1 rfl (lv_room (Nat.le_of_ble_eq_true rfl)) dX4_find_50 ⟨Nat.le_of_ble_eq_true rfl, Nat.le_of_ble_eq_true rfl⟩) hS (fun z14 st15 h H locs hI hS => ?_)
            obtain ⟨g16, h⟩ := h
            refine r_mabs_long hx hb (hml.trans hl.1.symm) hown ml_36 dX4_find_53 g16 ⟨Nat.le_of_ble_eq_true rfl, Nat.le_of_ble_eq_true rfl, Nat.zero_le _, Nat.zero_le _⟩ (Nat.le_of_ble_eq_true rfl) ?_
            refine lv_iload hx hb dX4_find_56 (lv_at hl 6 rfl) ?_
            refine r_callv (va_runV (As := [.long (lI (iabs z14)), .int (iI v6x37)]) (rest := []) ⟨hx, hb, hml, hown, hts⟩ (m4_look l G hv_this _ st15 (iabs z14) v6x37 h) (cwV 2 hts gX4_find_X4_look rfl rfl rfl hd4_look ⟨Nat.le_of_ble_eq_true rfl, Nat.le_of_ble_eq_true rfl⟩) (pre_V hK hX hI hA hS hv_this rfl rfl [.long (lI (iabs z14)), .int (iI v6x37)]) rfl rfl hl.1 rfl (lv_room (Nat.le_of_ble_eq_true rfl)) dX4_find_58 ⟨Nat.le_of_ble_eq_true rfl, Nat.le_of_ble_eq_true rfl⟩) hS (fun st18 h H locs hI hS => ?_)
            obtain ⟨x19, hx19⟩ : ∃ z : Int, z = v6x37 + 1 := ⟨_, rfl⟩
            replace h := h x19 hx19
            refine lv_iinc (v := iI x19) (lv' := [(6, .int (iI x19)), (0, .ref (G.2.2.1 4 0)), (1, .ref (G.2.2.1 0 a0)), (2, .ref (G.2.2.1 3 a1)), (3, .ref (G.2.2.1 1 a2)), (4, .int (iI v4x19)), (5, .int (iI v5x37))]) hx hb dX4_find_61 hl (k := 6) rfl (by rw [hx19]; exact iI_add _ _) (by decide) rfl (fun ls hl => ?_)
            refine lv_goto (tgt := 37) hx hb dX4_find_64 (by decide) ?_
            exact ih37 st18 x19 _ _ ls hI hS (lv_sub hl [1, 2, 3, 4, 5, 6, 0] rfl) h
      intro st v5x19 H locs ls hI hS hl h
      unfold f4_find_l19 at h
      refine lv_iload hx hb dX4_find_19 (lv_at hl 5 rfl) ?_
      refine lv_iload hx hb dX4_find_21 (lv_at hl 4 rfl) ?_
      obtain ⟨g5, h⟩ := h
      obtain ⟨g6, h⟩ := h
      refine r_icmp_gt (tgt := 73) hx hb dX4_find_23 (by decide) g5 g6 (fun c7 => ?_) (fun c7 => ?_)
      · replace h := h.1 c7
        exact r_vret hx hb hr hlocks hK hI hS (Qp := Q) h dX4_find_73
      · replace h := h.2 c7
        refine lv_aload_n hx hb dX4_find_26 rfl (lv_at hl 3 rfl) ?_
        refine lv_aload_n hx hb dX4_find_27 rfl (lv_at hl 1 rfl) ?_
        refine lv_aload_n hx hb dX4_find_28 rfl (lv_at hl 2 rfl) ?_
        refine lv_iload hx hb dX4_find_29 (lv_at hl 5 rfl) ?_
        refine r_callv (va_runV (As := [.ref (G.2.2.1 0 a0), .ref (G.2.2.1 3 a1), .int (iI v5x19)]) (rest := []) ⟨hx, hb, hml, hown, hts⟩ (m1_underAll l G a2 a0 a1 hv_a2 hv_a0 hv_a1 _ st v5x19 h) (cwV 3 hts gX4_find_X1_underAll rfl rfl rfl hd1_underAll ⟨Nat.le_of_ble_eq_true rfl, Nat.le_of_ble_eq_true rfl⟩) (pre_V hK hX hI hA hS hv_a2 rfl rfl [.ref (G.2.2.1 0 a0), .ref (G.2.2.1 3 a1), .int (iI v5x19)]) rfl rfl hl.1 rfl (lv_room (Nat.le_of_ble_eq_true rfl)) dX4_find_31 ⟨Nat.le_of_ble_eq_true rfl, Nat.le_of_ble_eq_true rfl⟩) hS (fun st9 h H locs hI hS => ?_)
        refine r_iconst (n := 0) hx hb dX4_find_34 ?_
        refine lv_istore (lv' := [(6, .int (iI 0)), (0, .ref (G.2.2.1 4 0)), (1, .ref (G.2.2.1 0 a0)), (2, .ref (G.2.2.1 3 a1)), (3, .ref (G.2.2.1 1 a2)), (4, .int (iI v4x19)), (5, .int (iI v5x19))]) hx hb dX4_find_35 hl (by decide) rfl (fun ls hl => ?_)
        obtain ⟨kk, h⟩ := h
        exact L37 v5x19 kk st9 0 _ _ ls hI hS (lv_sub hl [1, 2, 3, 4, 5, 6, 0] rfl) h
  unfold f4_find at h
  refine lv_aload_n hx hb dX4_find_0 rfl (lv_at hl 0 rfl) ?_
  refine r_lconst (z := 0) hx hb dX4_find_1 rfl ?_
  refine pp_4_0 hx hb hts in4 hown hK hI hS hv_this lk_7 dX4_find_2 (fun st1 hst1 H locs hI hS => ?_)
  replace h := h st1 hst1
  refine lv_aload_n hx hb dX4_find_5 rfl (lv_at hl 0 rfl) ?_
  refine r_iconst (n := 0) hx hb dX4_find_6 ?_
  refine pp_4_1 hx hb hts in4 hown hK hI hS hv_this lk_13 dX4_find_7 (fun st2 hst2 H locs hI hS => ?_)
  replace h := h st2 hst2
  refine lv_aload_n hx hb dX4_find_10 rfl (lv_at hl 1 rfl) ?_
  refine r_calli (va_runV (As := []) (rest := []) ⟨hx, hb, hml, hown, hts⟩ (m0_lastHead l G a0 hv_a0 _ st2 h) (cwV 0 hts gX4_find_X0_lastHead rfl rfl rfl hd0_lastHead ⟨Nat.le_of_ble_eq_true rfl, Nat.le_of_ble_eq_true rfl⟩) (pre_V hK hX hI hA hS hv_a0 rfl rfl []) rfl rfl hl.1 rfl (lv_room (Nat.le_of_ble_eq_true rfl)) dX4_find_11 ⟨Nat.le_of_ble_eq_true rfl, Nat.le_of_ble_eq_true rfl⟩) hS (fun z3 st4 h H locs hI hS => ?_)
  refine lv_istore (lv' := [(4, .int (iI z3)), (0, .ref (G.2.2.1 4 0)), (1, .ref (G.2.2.1 0 a0)), (2, .ref (G.2.2.1 3 a1)), (3, .ref (G.2.2.1 1 a2))]) hx hb dX4_find_14 hl (by decide) rfl (fun ls hl => ?_)
  refine r_iconst (n := 0) hx hb dX4_find_16 ?_
  refine lv_istore (lv' := [(5, .int (iI 0)), (4, .int (iI z3)), (0, .ref (G.2.2.1 4 0)), (1, .ref (G.2.2.1 0 a0)), (2, .ref (G.2.2.1 3 a1)), (3, .ref (G.2.2.1 1 a2))]) hx hb dX4_find_17 hl (by decide) rfl (fun ls hl => ?_)
  obtain ⟨kk, h⟩ := h
  exact L19 z3 kk st4 0 _ _ ls hI hS (lv_sub hl [2, 3, 4, 5, 1, 0] rfl) h
theorem hd7_byteAt : yX7_byteAt.cls = RX7 ∧ yX7_byteAt.cls ≠ "java/lang/invoke/MethodHandle" ∧ yX7_byteAt.cls ≠ "java/lang/invoke/VarHandle" ∧ (parseMethodDescriptor yX7_byteAt.desc).map (fun d => d.parameters.length) = some 1 := by decide +kernel
set_option maxHeartbeats 4000000 in
set_option maxRecDepth 100000 in
theorem m7_byteAt (l : Launch) (G : WG)   (hv_this : vC 7 0) (Q : Int → St → Prop) (st : St) (a0 : Int) (h : f7_byteAt Q st a0) : Met l yX7_byteAt wsX7_byteAt ({ frames := 0, cells := 0, slots := 0, locals := 0 }) (PcM vC G st [.ref (G.2.2.1 7 0), .int (iI a0)]) (QiM vC G Q) 0 0 G.2.2.2.1 := by
  refine Met.ofW (cc := cX7_byteAt) (maxL := 2) (ret := (some .int)) (by decide) rfl ?_
  intro p e s m args below meth c s₁ B hml hvv
  obtain ⟨rfl, hA, hI, hK, hX⟩ := hvv
  have hx := B.exec
  have hb := B.bytes
  have hr := B.returns
  have hts := atoms_spec (ws := wsX7_byteAt) B.pre
  have hown : s.vm.findClass RX7 = some m.cls := findClass_of_methodNamed B.named
  have hlocks := B.notSynchronized
  have hS : va_S G.2.2.2.1 s.heap s.heap [] := va_S.rf
  have in7 : ∀ w ∈ wsX70, w ∈ wsX7_byteAt := by decide +kernel
  have lk_9 := hts (.fieldLink RX7 9 "BeamLines$Text" "bytes" "[C") (by decide +kernel)
  have lk_15 := hts (.fieldLink RX7 15 "BeamLines$Text" "length" "I") (by decide +kernel)
  have hl := lv_entry ([.ref (G.2.2.1 7 0), .int (iI a0)]) (n := 2) (Nat.le_of_ble_eq_true rfl)
  rw [lg_entry_eq]
  generalize (lg_sl ([.ref (G.2.2.1 7 0), .int (iI a0)]) ++ List.replicate (2 - (lg_sl ([.ref (G.2.2.1 7 0), .int (iI a0)])).length) Slot.unset).toArray = ls at hl ⊢
  have hl : lv_has ls 2 [(0, .ref (G.2.2.1 7 0)), (1, .int (iI a0))] := hl
  unfold f7_byteAt at h
  refine lv_iload_n hx hb dX7_byteAt_0 rfl (lv_at hl 1 rfl) ?_
  obtain ⟨g1, h⟩ := h
  refine r_if_lt (tgt := 28) hx hb dX7_byteAt_1 (by decide) g1 (fun c2 => ?_) (fun c2 => ?_)
  · replace h := h.1 c2
    refine r_iconst (n := 0) hx hb dX7_byteAt_28 ?_
    exact r_iret hx hb hr hlocks hK hI hS (Qp := Q) h dX7_byteAt_29
  · replace h := h.2 c2
    refine lv_iload_n hx hb dX7_byteAt_4 rfl (lv_at hl 1 rfl) ?_
    refine lv_aload_n hx hb dX7_byteAt_5 rfl (lv_at hl 0 rfl) ?_
    refine gg_7_1 hx hb hts in7 hown hK hI hv_this lk_15 dX7_byteAt_6 ?_
    obtain ⟨g3, h⟩ := h
    obtain ⟨g4, h⟩ := h
    refine r_icmp_ge (tgt := 28) hx hb dX7_byteAt_9 (by decide) g3 g4 (fun c5 => ?_) (fun c5 => ?_)
    · replace h := h.1 c5
      refine r_iconst (n := 0) hx hb dX7_byteAt_28 ?_
      exact r_iret hx hb hr hlocks hK hI hS (Qp := Q) h dX7_byteAt_29
    · replace h := h.2 c5
      refine lv_iload_n hx hb dX7_byteAt_12 rfl (lv_at hl 1 rfl) ?_
      refine r_sipush (n := 500) hx hb dX7_byteAt_13 rfl ?_
      obtain ⟨g6, h⟩ := h
      refine r_icmp_ge (tgt := 28) hx hb dX7_byteAt_16 (by decide) g6 (inI_mk rfl) (fun c7 => ?_) (fun c7 => ?_)
      · replace h := h.1 c7
        refine r_iconst (n := 0) hx hb dX7_byteAt_28 ?_
        exact r_iret hx hb hr hlocks hK hI hS (Qp := Q) h dX7_byteAt_29
      · replace h := h.2 c7
        refine lv_aload_n hx hb dX7_byteAt_19 rfl (lv_at hl 0 rfl) ?_
        refine gg_7_0 hx hb hts in7 hown hK hI hv_this lk_9 dX7_byteAt_20 ?_
        refine lv_iload_n hx hb dX7_byteAt_23 rfl (lv_at hl 1 rfl) ?_
        obtain ⟨g8, g9, h⟩ := h
        refine r_cald hx hb hK hI (K := 21) (vrC_7_0 hv_this) rfl (lts_mk rfl) dX7_byteAt_24 g8 g9 ?_
        refine lv_goto (tgt := 29) hx hb dX7_byteAt_25 (by decide) ?_
        exact r_iret hx hb hr hlocks hK hI hS (Qp := Q) h dX7_byteAt_29
theorem hd7_kindOfByte : yX7_kindOfByte.cls ≠ "java/lang/invoke/MethodHandle" ∧ yX7_kindOfByte.cls ≠ "java/lang/invoke/VarHandle" ∧ (parseMethodDescriptor yX7_kindOfByte.desc).map (fun d => d.parameters.length) = some 1 := by decide +kernel
set_option maxHeartbeats 4000000 in
set_option maxRecDepth 100000 in
theorem m7_kindOfByte (l : Launch) (G : WG)    (Q : Int → St → Prop) (st : St) (a0 : Int) (h : f7_kindOfByte Q st a0) : Met l yX7_kindOfByte wsX7_kindOfByte ({ frames := 0, cells := 0, slots := 0, locals := 0 }) (PcM vC G st [.int (iI a0)]) (QiM vC G Q) 0 0 G.2.2.2.1 := by
  refine Met.ofW (cc := cX7_kindOfByte) (maxL := 1) (ret := (some .int)) (by decide) rfl ?_
  intro p e s m args below meth c s₁ B hml hvv
  obtain ⟨rfl, hA, hI, hK, hX⟩ := hvv
  have hx := B.exec
  have hb := B.bytes
  have hr := B.returns
  have hts := atoms_spec (ws := wsX7_kindOfByte) B.pre
  have hown : s.vm.findClass RX7 = some m.cls := findClass_of_methodNamed B.named
  have hlocks := B.notSynchronized
  have hS : va_S G.2.2.2.1 s.heap s.heap [] := va_S.rf
  have hl := lv_entry ([.int (iI a0)]) (n := 1) (Nat.le_of_ble_eq_true rfl)
  rw [lg_entry_eq]
  generalize (lg_sl ([.int (iI a0)]) ++ List.replicate (1 - (lg_sl ([.int (iI a0)])).length) Slot.unset).toArray = ls at hl ⊢
  have hl : lv_has ls 1 [(0, .int (iI a0))] := hl
  have J28 : ∀ (st : St) (H : Heap) (locs : List Loc) (ls : Array Slot), Iv vC G st H → va_S G.2.2.2.1 s.heap H locs → lv_has ls 1 [(0, .int (iI a0))] → f7_kindOfByte_j28 Q a0 st → W p l e (headSpec wsX7_kindOfByte ({ frames := 0, cells := 0, slots := 0, locals := 0 })).room s m ([.int (iI a0)] : List Value).toArray below meth c H locs 0 0 (MQ below (QiM vC G Q) ([.int (iI a0)] : List Value).toArray s 0 0 G.2.2.2.1) (F0 m 28 ls []) := by
    intro st H locs ls hI hS hl h
    unfold f7_kindOfByte_j28 at h
    refine lv_iload_n hx hb dX7_kindOfByte_28 rfl (lv_at hl 0 rfl) ?_
    refine r_bipush (n := 32) hx hb dX7_kindOfByte_29 rfl ?_
    obtain ⟨g9, h⟩ := h
    refine r_icmp_ne (tgt := 36) hx hb dX7_kindOfByte_31 (by decide) g9 (inI_mk rfl) (fun c10 => ?_) (fun c10 => ?_)
    · replace h := h.2 c10
      refine lv_iload_n hx hb dX7_kindOfByte_36 rfl (lv_at hl 0 rfl) ?_
      refine r_bipush (n := 59) hx hb dX7_kindOfByte_37 rfl ?_
      obtain ⟨g11, h⟩ := h
      refine r_icmp_ne (tgt := 46) hx hb dX7_kindOfByte_39 (by decide) g11 (inI_mk rfl) (fun c12 => ?_) (fun c12 => ?_)
      · replace h := h.2 c12
        refine r_iconst (n := 4) hx hb dX7_kindOfByte_46 ?_
        exact r_iret hx hb hr hlocks hK hI hS (Qp := Q) h dX7_kindOfByte_47
      · replace h := h.1 c12
        refine r_iconst (n := 3) hx hb dX7_kindOfByte_42 ?_
        refine lv_goto (tgt := 47) hx hb dX7_kindOfByte_43 (by decide) ?_
        exact r_iret hx hb hr hlocks hK hI hS (Qp := Q) h dX7_kindOfByte_47
    · replace h := h.1 c10
      refine r_iconst (n := 5) hx hb dX7_kindOfByte_34 ?_
      exact r_iret hx hb hr hlocks hK hI hS (Qp := Q) h dX7_kindOfByte_35
  have J14 : ∀ (st : St) (H : Heap) (locs : List Loc) (ls : Array Slot), Iv vC G st H → va_S G.2.2.2.1 s.heap H locs → lv_has ls 1 [(0, .int (iI a0))] → f7_kindOfByte_j14 Q a0 st → W p l e (headSpec wsX7_kindOfByte ({ frames := 0, cells := 0, slots := 0, locals := 0 })).room s m ([.int (iI a0)] : List Value).toArray below meth c H locs 0 0 (MQ below (QiM vC G Q) ([.int (iI a0)] : List Value).toArray s 0 0 G.2.2.2.1) (F0 m 14 ls []) := by
    intro st H locs ls hI hS hl h
    unfold f7_kindOfByte_j14 at h
    refine lv_iload_n hx hb dX7_kindOfByte_14 rfl (lv_at hl 0 rfl) ?_
    refine r_bipush (n := 48) hx hb dX7_kindOfByte_15 rfl ?_
    obtain ⟨g5, h⟩ := h
    refine r_icmp_lt (tgt := 28) hx hb dX7_kindOfByte_17 (by decide) g5 (inI_mk rfl) (fun c6 => ?_) (fun c6 => ?_)
    · replace h := h.1 c6
      exact J28 st  _ _ ls hI hS (lv_sub hl [0] rfl) h
    · replace h := h.2 c6
      refine lv_iload_n hx hb dX7_kindOfByte_20 rfl (lv_at hl 0 rfl) ?_
      refine r_bipush (n := 57) hx hb dX7_kindOfByte_21 rfl ?_
      obtain ⟨g7, h⟩ := h
      refine r_icmp_gt (tgt := 28) hx hb dX7_kindOfByte_23 (by decide) g7 (inI_mk rfl) (fun c8 => ?_) (fun c8 => ?_)
      · replace h := h.1 c8
        exact J28 st  _ _ ls hI hS (lv_sub hl [0] rfl) h
      · replace h := h.2 c8
        refine r_iconst (n := 2) hx hb dX7_kindOfByte_26 ?_
        exact r_iret hx hb hr hlocks hK hI hS (Qp := Q) h dX7_kindOfByte_27
  unfold f7_kindOfByte at h
  refine lv_iload_n hx hb dX7_kindOfByte_0 rfl (lv_at hl 0 rfl) ?_
  refine r_bipush (n := 97) hx hb dX7_kindOfByte_1 rfl ?_
  obtain ⟨g1, h⟩ := h
  refine r_icmp_lt (tgt := 14) hx hb dX7_kindOfByte_3 (by decide) g1 (inI_mk rfl) (fun c2 => ?_) (fun c2 => ?_)
  · replace h := h.1 c2
    exact J14 st  _ _ ls hI hS (lv_sub hl [0] rfl) h
  · replace h := h.2 c2
    refine lv_iload_n hx hb dX7_kindOfByte_6 rfl (lv_at hl 0 rfl) ?_
    refine r_bipush (n := 122) hx hb dX7_kindOfByte_7 rfl ?_
    obtain ⟨g3, h⟩ := h
    refine r_icmp_gt (tgt := 14) hx hb dX7_kindOfByte_9 (by decide) g3 (inI_mk rfl) (fun c4 => ?_) (fun c4 => ?_)
    · replace h := h.1 c4
      exact J14 st  _ _ ls hI hS (lv_sub hl [0] rfl) h
    · replace h := h.2 c4
      refine r_iconst (n := 1) hx hb dX7_kindOfByte_12 ?_
      exact r_iret hx hb hr hlocks hK hI hS (Qp := Q) h dX7_kindOfByte_13
theorem hd7_startToken : yX7_startToken.cls = RX7 ∧ yX7_startToken.cls ≠ "java/lang/invoke/MethodHandle" ∧ yX7_startToken.cls ≠ "java/lang/invoke/VarHandle" ∧ (parseMethodDescriptor yX7_startToken.desc).map (fun d => d.parameters.length) = some 2 := by decide +kernel
set_option maxHeartbeats 4000000 in
set_option maxRecDepth 100000 in
theorem m7_startToken (l : Launch) (G : WG)   (hv_this : vC 7 0) (Q : St → Prop) (st : St) (a0 : Int) (a1 : Int) (h : f7_startToken Q st a0 a1) : Met l yX7_startToken wsX7_startToken ({ frames := 0, cells := 0, slots := 0, locals := 0 }) (PcM vC G st [.ref (G.2.2.1 7 0), .int (iI a0), .int (iI a1)]) (QvM vC G Q) 0 0 G.2.2.2.1 := by
  refine Met.ofW (cc := cX7_startToken) (maxL := 3) (ret := none) (by decide) rfl ?_
  intro p e s m args below meth c s₁ B hml hvv
  obtain ⟨rfl, hA, hI, hK, hX⟩ := hvv
  have hx := B.exec
  have hb := B.bytes
  have hr := B.returns
  have hts := atoms_spec (ws := wsX7_startToken) B.pre
  have hown : s.vm.findClass RX7 = some m.cls := findClass_of_methodNamed B.named
  have hlocks := B.notSynchronized
  have hS : va_S G.2.2.2.1 s.heap s.heap [] := va_S.rf
  have in7 : ∀ w ∈ wsX70, w ∈ wsX7_startToken := by decide +kernel
  have lk_19 := hts (.fieldLink RX7 19 "BeamLines$Text" "kinds" "[I") (by decide +kernel)
  have lk_23 := hts (.fieldLink RX7 23 "BeamLines$Text" "starts" "[I") (by decide +kernel)
  have lk_29 := hts (.fieldLink RX7 29 "BeamLines$Text" "values" "[I") (by decide +kernel)
  have lk_32 := hts (.fieldLink RX7 32 "BeamLines$Text" "tokens" "I") (by decide +kernel)
  have hl := lv_entry ([.ref (G.2.2.1 7 0), .int (iI a0), .int (iI a1)]) (n := 3) (Nat.le_of_ble_eq_true rfl)
  rw [lg_entry_eq]
  generalize (lg_sl ([.ref (G.2.2.1 7 0), .int (iI a0), .int (iI a1)]) ++ List.replicate (3 - (lg_sl ([.ref (G.2.2.1 7 0), .int (iI a0), .int (iI a1)])).length) Slot.unset).toArray = ls at hl ⊢
  have hl : lv_has ls 3 [(0, .ref (G.2.2.1 7 0)), (1, .int (iI a0)), (2, .int (iI a1))] := hl
  unfold f7_startToken at h
  refine lv_aload_n hx hb dX7_startToken_0 rfl (lv_at hl 0 rfl) ?_
  refine gg_7_6 hx hb hts in7 hown hK hI hv_this lk_32 dX7_startToken_1 ?_
  refine r_sipush (n := 500) hx hb dX7_startToken_4 rfl ?_
  obtain ⟨g1, h⟩ := h
  refine r_icmp_ge (tgt := 50) hx hb dX7_startToken_7 (by decide) g1 (inI_mk rfl) (fun c2 => ?_) (fun c2 => ?_)
  · replace h := h.1 c2
    exact r_vret hx hb hr hlocks hK hI hS (Qp := Q) h dX7_startToken_50
  · replace h := h.2 c2
    refine lv_aload_n hx hb dX7_startToken_10 rfl (lv_at hl 0 rfl) ?_
    refine gg_7_2 hx hb hts in7 hown hK hI hv_this lk_19 dX7_startToken_11 ?_
    refine lv_aload_n hx hb dX7_startToken_14 rfl (lv_at hl 0 rfl) ?_
    refine gg_7_6 hx hb hts in7 hown hK hI hv_this lk_32 dX7_startToken_15 ?_
    refine lv_iload_n hx hb dX7_startToken_18 rfl (lv_at hl 1 rfl) ?_
    obtain ⟨g3, g4, h⟩ := h
    refine r_iast hx hb hK hI hS (K := 22) (vrC_7_2 hv_this) (fun _ => rfl) (lts_mk rfl) dX7_startToken_19 g3 g4 (fun st5 hst5 H locs hI hS => ?_)
    replace h := h st5 hst5
    refine lv_aload_n hx hb dX7_startToken_20 rfl (lv_at hl 0 rfl) ?_
    refine gg_7_3 hx hb hts in7 hown hK hI hv_this lk_23 dX7_startToken_21 ?_
    refine lv_aload_n hx hb dX7_startToken_24 rfl (lv_at hl 0 rfl) ?_
    refine gg_7_6 hx hb hts in7 hown hK hI hv_this lk_32 dX7_startToken_25 ?_
    refine lv_iload_n hx hb dX7_startToken_28 rfl (lv_at hl 2 rfl) ?_
    obtain ⟨g6, g7, h⟩ := h
    refine r_iast hx hb hK hI hS (K := 23) (vrC_7_3 hv_this) (fun _ => rfl) (lts_mk rfl) dX7_startToken_29 g6 g7 (fun st8 hst8 H locs hI hS => ?_)
    replace h := h st8 hst8
    refine lv_aload_n hx hb dX7_startToken_30 rfl (lv_at hl 0 rfl) ?_
    refine gg_7_5 hx hb hts in7 hown hK hI hv_this lk_29 dX7_startToken_31 ?_
    refine lv_aload_n hx hb dX7_startToken_34 rfl (lv_at hl 0 rfl) ?_
    refine gg_7_6 hx hb hts in7 hown hK hI hv_this lk_32 dX7_startToken_35 ?_
    refine r_iconst (n := 0) hx hb dX7_startToken_38 ?_
    obtain ⟨g9, g10, h⟩ := h
    refine r_iast hx hb hK hI hS (K := 25) (vrC_7_5 hv_this) (fun _ => rfl) (lts_mk rfl) dX7_startToken_39 g9 g10 (fun st11 hst11 H locs hI hS => ?_)
    replace h := h st11 hst11
    refine lv_aload_n hx hb dX7_startToken_40 rfl (lv_at hl 0 rfl) ?_
    refine lv_dup hx hb dX7_startToken_41 rfl ?_
    refine gg_7_6 hx hb hts in7 hown hK hI hv_this lk_32 dX7_startToken_42 ?_
    refine r_iconst (n := 1) hx hb dX7_startToken_45 ?_
    refine r_iadd hx hb dX7_startToken_46 ?_
    refine pp_7_6 hx hb hts in7 hown hK hI hS hv_this lk_32 dX7_startToken_47 (fun st12 hst12 H locs hI hS => ?_)
    replace h := h st12 hst12
    exact r_vret hx hb hr hlocks hK hI hS (Qp := Q) h dX7_startToken_50
theorem hd7_hasToken : yX7_hasToken.cls = RX7 ∧ yX7_hasToken.cls ≠ "java/lang/invoke/MethodHandle" ∧ yX7_hasToken.cls ≠ "java/lang/invoke/VarHandle" ∧ (parseMethodDescriptor yX7_hasToken.desc).map (fun d => d.parameters.length) = some 1 := by decide +kernel
set_option maxHeartbeats 4000000 in
set_option maxRecDepth 100000 in
theorem m7_hasToken (l : Launch) (G : WG)   (hv_this : vC 7 0) (Q : Int → St → Prop) (st : St) (a0 : Int) (h : f7_hasToken Q st a0) : Met l yX7_hasToken wsX7_hasToken ({ frames := 0, cells := 0, slots := 0, locals := 0 }) (PcM vC G st [.ref (G.2.2.1 7 0), .int (iI a0)]) (QiM vC G Q) 0 0 G.2.2.2.1 := by
  refine Met.ofW (cc := cX7_hasToken) (maxL := 2) (ret := (some .boolean)) (by decide) rfl ?_
  intro p e s m args below meth c s₁ B hml hvv
  obtain ⟨rfl, hA, hI, hK, hX⟩ := hvv
  have hx := B.exec
  have hb := B.bytes
  have hr := B.returns
  have hts := atoms_spec (ws := wsX7_hasToken) B.pre
  have hown : s.vm.findClass RX7 = some m.cls := findClass_of_methodNamed B.named
  have hlocks := B.notSynchronized
  have hS : va_S G.2.2.2.1 s.heap s.heap [] := va_S.rf
  have in7 : ∀ w ∈ wsX70, w ∈ wsX7_hasToken := by decide +kernel
  have lk_32 := hts (.fieldLink RX7 32 "BeamLines$Text" "tokens" "I") (by decide +kernel)
  have hl := lv_entry ([.ref (G.2.2.1 7 0), .int (iI a0)]) (n := 2) (Nat.le_of_ble_eq_true rfl)
  rw [lg_entry_eq]
  generalize (lg_sl ([.ref (G.2.2.1 7 0), .int (iI a0)]) ++ List.replicate (2 - (lg_sl ([.ref (G.2.2.1 7 0), .int (iI a0)])).length) Slot.unset).toArray = ls at hl ⊢
  have hl : lv_has ls 2 [(0, .ref (G.2.2.1 7 0)), (1, .int (iI a0))] := hl
  unfold f7_hasToken at h
  refine lv_iload_n hx hb dX7_hasToken_0 rfl (lv_at hl 1 rfl) ?_
  obtain ⟨g1, h⟩ := h
  refine r_if_lt (tgt := 23) hx hb dX7_hasToken_1 (by decide) g1 (fun c2 => ?_) (fun c2 => ?_)
  · replace h := h.1 c2
    refine r_iconst (n := 0) hx hb dX7_hasToken_23 ?_
    exact r_zret hx hb hr hlocks hK hI hS (Qp := Q) (by decide) h dX7_hasToken_24
  · replace h := h.2 c2
    refine lv_iload_n hx hb dX7_hasToken_4 rfl (lv_at hl 1 rfl) ?_
    refine lv_aload_n hx hb dX7_hasToken_5 rfl (lv_at hl 0 rfl) ?_
    refine gg_7_6 hx hb hts in7 hown hK hI hv_this lk_32 dX7_hasToken_6 ?_
    obtain ⟨g3, h⟩ := h
    obtain ⟨g4, h⟩ := h
    refine r_icmp_ge (tgt := 23) hx hb dX7_hasToken_9 (by decide) g3 g4 (fun c5 => ?_) (fun c5 => ?_)
    · replace h := h.1 c5
      refine r_iconst (n := 0) hx hb dX7_hasToken_23 ?_
      exact r_zret hx hb hr hlocks hK hI hS (Qp := Q) (by decide) h dX7_hasToken_24
    · replace h := h.2 c5
      refine lv_iload_n hx hb dX7_hasToken_12 rfl (lv_at hl 1 rfl) ?_
      refine r_sipush (n := 500) hx hb dX7_hasToken_13 rfl ?_
      obtain ⟨g6, h⟩ := h
      refine r_icmp_ge (tgt := 23) hx hb dX7_hasToken_16 (by decide) g6 (inI_mk rfl) (fun c7 => ?_) (fun c7 => ?_)
      · replace h := h.1 c7
        refine r_iconst (n := 0) hx hb dX7_hasToken_23 ?_
        exact r_zret hx hb hr hlocks hK hI hS (Qp := Q) (by decide) h dX7_hasToken_24
      · replace h := h.2 c7
        refine r_iconst (n := 1) hx hb dX7_hasToken_19 ?_
        refine lv_goto (tgt := 24) hx hb dX7_hasToken_20 (by decide) ?_
        exact r_zret hx hb hr hlocks hK hI hS (Qp := Q) (by decide) h dX7_hasToken_24
theorem hd7_lengthenToken : yX7_lengthenToken.cls = RX7 ∧ yX7_lengthenToken.cls ≠ "java/lang/invoke/MethodHandle" ∧ yX7_lengthenToken.cls ≠ "java/lang/invoke/VarHandle" ∧ (parseMethodDescriptor yX7_lengthenToken.desc).map (fun d => d.parameters.length) = some 1 := by decide +kernel
set_option maxHeartbeats 4000000 in
set_option maxRecDepth 100000 in
theorem m7_lengthenToken (l : Launch) (G : WG)   (hv_this : vC 7 0) (Q : St → Prop) (st : St) (a0 : Int) (h : f7_lengthenToken Q st a0) : Met l yX7_lengthenToken wsX7_lengthenToken ({ frames := 1, cells := 0, slots := 0, locals := 23 }) (PcM vC G st [.ref (G.2.2.1 7 0), .int (iI a0)]) (QvM vC G Q) 0 0 G.2.2.2.1 := by
  refine Met.ofW (cc := cX7_lengthenToken) (maxL := 3) (ret := none) (by decide) rfl ?_
  intro p e s m args below meth c s₁ B hml hvv
  obtain ⟨rfl, hA, hI, hK, hX⟩ := hvv
  have hx := B.exec
  have hb := B.bytes
  have hr := B.returns
  have hts := atoms_spec (ws := wsX7_lengthenToken) B.pre
  have hown : s.vm.findClass RX7 = some m.cls := findClass_of_methodNamed B.named
  have hlocks := B.notSynchronized
  have hS : va_S G.2.2.2.1 s.heap s.heap [] := va_S.rf
  have in7 : ∀ w ∈ wsX70, w ∈ wsX7_lengthenToken := by decide +kernel
  have lk_19 := hts (.fieldLink RX7 19 "BeamLines$Text" "kinds" "[I") (by decide +kernel)
  have lk_26 := hts (.fieldLink RX7 26 "BeamLines$Text" "ends" "[I") (by decide +kernel)
  have lk_29 := hts (.fieldLink RX7 29 "BeamLines$Text" "values" "[I") (by decide +kernel)
  have lk_32 := hts (.fieldLink RX7 32 "BeamLines$Text" "tokens" "I") (by decide +kernel)
  have ml_64 : (Cond.methodLink RX7 64 Lib.Math.min.name).before _ s = true ∧ (Cond.static Lib.Math.min.name).before _ s = true ∧ (Cond.initialized "java/lang/Math").before _ s = true ∧ (Cond.code Lib.Math.min.name Lib.Math.min.code 2 (some .int)).before _ s = true := ⟨hts _ (by decide +kernel), hts _ (by decide +kernel), hts _ (by decide +kernel), hts _ (by decide +kernel)⟩
  have kc_63 : (Jvm.Cond.constant RX7 63 (iI 10000000)).before _ s = true := hts (.constant RX7 63 10000000) (by decide +kernel)
  have hl := lv_entry ([.ref (G.2.2.1 7 0), .int (iI a0)]) (n := 3) (Nat.le_of_ble_eq_true rfl)
  rw [lg_entry_eq]
  generalize (lg_sl ([.ref (G.2.2.1 7 0), .int (iI a0)]) ++ List.replicate (3 - (lg_sl ([.ref (G.2.2.1 7 0), .int (iI a0)])).length) Slot.unset).toArray = ls at hl ⊢
  have hl : lv_has ls 3 [(0, .ref (G.2.2.1 7 0)), (1, .int (iI a0))] := hl
  unfold f7_lengthenToken at h
  refine lv_aload_n hx hb dX7_lengthenToken_0 rfl (lv_at hl 0 rfl) ?_
  refine gg_7_6 hx hb hts in7 hown hK hI hv_this lk_32 dX7_lengthenToken_1 ?_
  refine r_iconst (n := 1) hx hb dX7_lengthenToken_4 ?_
  refine r_isub hx hb dX7_lengthenToken_5 ?_
  refine r_topi (fun x1 hx1 => ?_)
  replace h := h x1 hx1
  refine lv_istore_n (lv' := [(2, .int (iI x1)), (0, .ref (G.2.2.1 7 0)), (1, .int (iI a0))]) hx hb dX7_lengthenToken_6 rfl hl (by decide) rfl (fun ls hl => ?_)
  refine lv_aload_n hx hb dX7_lengthenToken_7 rfl (lv_at hl 1 rfl) ?_
  refine lv_iload_n hx hb dX7_lengthenToken_8 rfl (lv_at hl 0 rfl) ?_
  refine r_calli (va_runV (As := [.int (iI x1)]) (rest := []) ⟨hx, hb, hml, hown, hts⟩ (m7_hasToken l G hv_this _ st x1 h) (cwV 1 hts gX7_lengthenToken_X7_hasToken rfl rfl rfl hd7_hasToken ⟨Nat.le_of_ble_eq_true rfl, Nat.le_of_ble_eq_true rfl⟩) (pre_V hK hX hI hA hS hv_this rfl rfl [.int (iI x1)]) rfl rfl hl.1 rfl (lv_room (Nat.le_of_ble_eq_true rfl)) dX7_lengthenToken_9 ⟨Nat.le_of_ble_eq_true rfl, Nat.le_of_ble_eq_true rfl⟩) hS (fun z2 st3 h H locs hI hS => ?_)
  obtain ⟨g4, h⟩ := h
  refine r_if_ne (tgt := 16) hx hb dX7_lengthenToken_12 (by decide) g4 (fun c5 => ?_) (fun c5 => ?_)
  · replace h := h.2 c5
    refine lv_aload_n hx hb dX7_lengthenToken_16 rfl (lv_at hl 1 rfl) ?_
    refine gg_7_4 hx hb hts in7 hown hK hI hv_this lk_26 dX7_lengthenToken_17 ?_
    refine lv_iload_n hx hb dX7_lengthenToken_20 rfl (lv_at hl 0 rfl) ?_
    refine lv_iload_n hx hb dX7_lengthenToken_21 rfl (lv_at hl 2 rfl) ?_
    refine r_iconst (n := 1) hx hb dX7_lengthenToken_22 ?_
    refine r_iadd hx hb dX7_lengthenToken_23 ?_
    obtain ⟨g6, g7, h⟩ := h
    refine r_iast hx hb hK hI hS (K := 24) (vrC_7_4 hv_this) (fun _ => rfl) (lts_mk rfl) dX7_lengthenToken_24 g6 g7 (fun st8 hst8 H locs hI hS => ?_)
    replace h := h st8 hst8
    refine lv_aload_n hx hb dX7_lengthenToken_25 rfl (lv_at hl 1 rfl) ?_
    refine gg_7_2 hx hb hts in7 hown hK hI hv_this lk_19 dX7_lengthenToken_26 ?_
    refine lv_iload_n hx hb dX7_lengthenToken_29 rfl (lv_at hl 0 rfl) ?_
    obtain ⟨g9, g10, h⟩ := h
    refine r_iald hx hb hK hI (K := 22) (vrC_7_2 hv_this) rfl (lts_mk rfl) dX7_lengthenToken_30 g9 g10 ?_
    refine r_iconst (n := 2) hx hb dX7_lengthenToken_31 ?_
    obtain ⟨g11, h⟩ := h
    refine r_icmp_ne (tgt := 64) hx hb dX7_lengthenToken_32 (by decide) g11 (inI_mk rfl) (fun c12 => ?_) (fun c12 => ?_)
    · replace h := h.2 c12
      exact r_vret hx hb hr hlocks hK hI hS (Qp := Q) h dX7_lengthenToken_64
    · replace h := h.1 c12
      refine lv_aload_n hx hb dX7_lengthenToken_35 rfl (lv_at hl 1 rfl) ?_
      refine gg_7_5 hx hb hts in7 hown hK hI hv_this lk_29 dX7_lengthenToken_36 ?_
      refine lv_iload_n hx hb dX7_lengthenToken_39 rfl (lv_at hl 0 rfl) ?_
      refine lv_aload_n hx hb dX7_lengthenToken_40 rfl (lv_at hl 1 rfl) ?_
      refine gg_7_5 hx hb hts in7 hown hK hI hv_this lk_29 dX7_lengthenToken_41 ?_
      refine lv_iload_n hx hb dX7_lengthenToken_44 rfl (lv_at hl 0 rfl) ?_
      obtain ⟨g13, g14, h⟩ := h
      refine r_iald hx hb hK hI (K := 25) (vrC_7_5 hv_this) rfl (lts_mk rfl) dX7_lengthenToken_45 g13 g14 ?_
      refine r_bipush (n := 10) hx hb dX7_lengthenToken_46 rfl ?_
      refine r_imul hx hb dX7_lengthenToken_48 ?_
      refine lv_aload_n hx hb dX7_lengthenToken_49 rfl (lv_at hl 1 rfl) ?_
      refine lv_iload_n hx hb dX7_lengthenToken_50 rfl (lv_at hl 2 rfl) ?_
      refine r_calli (va_runV (As := [.int (iI a0)]) (rest := [.int (iI ((st8 25 0 0 x1) * 10)), .int (iI x1), .ref (G.2.2.1 25 0)]) ⟨hx, hb, hml, hown, hts⟩ (m7_byteAt l G hv_this _ st8 a0 h) (cwV 1 hts gX7_lengthenToken_X7_byteAt rfl rfl rfl hd7_byteAt ⟨Nat.le_of_ble_eq_true rfl, Nat.le_of_ble_eq_true rfl⟩) (pre_V hK hX hI hA hS hv_this rfl rfl [.int (iI a0)]) rfl rfl hl.1 rfl (lv_room (Nat.le_of_ble_eq_true rfl)) dX7_lengthenToken_51 ⟨Nat.le_of_ble_eq_true rfl, Nat.le_of_ble_eq_true rfl⟩) hS (fun z15 st16 h H locs hI hS => ?_)
      refine r_iadd hx hb dX7_lengthenToken_54 ?_
      refine r_bipush (n := 48) hx hb dX7_lengthenToken_55 rfl ?_
      refine r_isub hx hb dX7_lengthenToken_57 ?_
      refine lv_ldc (v := iI 10000000) hx hb hown kc_63 dX7_lengthenToken_58 ?_
      obtain ⟨g17, h⟩ := h
      refine r_mmin hx hb (hml.trans hl.1.symm) hown ml_64 dX7_lengthenToken_60 g17 (inI_mk rfl) ⟨Nat.le_of_ble_eq_true rfl, Nat.le_of_ble_eq_true rfl, Nat.zero_le _, Nat.zero_le _⟩ (Nat.le_of_ble_eq_true rfl) ?_
      obtain ⟨g18, g19, h⟩ := h
      refine r_iast hx hb hK hI hS (K := 25) (vrC_7_5 hv_this) (fun _ => rfl) (lts_mk rfl) dX7_lengthenToken_63 g18 g19 (fun st20 hst20 H locs hI hS => ?_)
      replace h := h st20 hst20
      exact r_vret hx hb hr hlocks hK hI hS (Qp := Q) h dX7_lengthenToken_64
  · replace h := h.1 c5
    exact r_vret hx hb hr hlocks hK hI hS (Qp := Q) h dX7_lengthenToken_15
theorem hd7_split : yX7_split.cls = RX7 ∧ yX7_split.cls ≠ "java/lang/invoke/MethodHandle" ∧ yX7_split.cls ≠ "java/lang/invoke/VarHandle" ∧ (parseMethodDescriptor yX7_split.desc).map (fun d => d.parameters.length) = some 0 := by decide +kernel
set_option maxHeartbeats 4000000 in
set_option maxRecDepth 100000 in
theorem m7_split (l : Launch) (G : WG)   (hv_this : vC 7 0) (Q : St → Prop) (st : St)  (h : f7_split Q st) : Met l yX7_split wsX7_split ({ frames := 2, cells := 0, slots := 0, locals := 45 }) (PcM vC G st [.ref (G.2.2.1 7 0)]) (QvM vC G Q) 0 0 G.2.2.2.1 := by
  refine Met.ofW (cc := cX7_split) (maxL := 5) (ret := none) (by decide) rfl ?_
  intro p e s m args below meth c s₁ B hml hvv
  obtain ⟨rfl, hA, hI, hK, hX⟩ := hvv
  have hx := B.exec
  have hb := B.bytes
  have hr := B.returns
  have hts := atoms_spec (ws := wsX7_split) B.pre
  have hown : s.vm.findClass RX7 = some m.cls := findClass_of_methodNamed B.named
  have hlocks := B.notSynchronized
  have hS : va_S G.2.2.2.1 s.heap s.heap [] := va_S.rf
  have in7 : ∀ w ∈ wsX70, w ∈ wsX7_split := by decide +kernel
  have lk_15 := hts (.fieldLink RX7 15 "BeamLines$Text" "length" "I") (by decide +kernel)
  have lk_32 := hts (.fieldLink RX7 32 "BeamLines$Text" "tokens" "I") (by decide +kernel)
  have hl := lv_entry ([.ref (G.2.2.1 7 0)]) (n := 5) (Nat.le_of_ble_eq_true rfl)
  rw [lg_entry_eq]
  generalize (lg_sl ([.ref (G.2.2.1 7 0)]) ++ List.replicate (5 - (lg_sl ([.ref (G.2.2.1 7 0)])).length) Slot.unset).toArray = ls at hl ⊢
  have hl : lv_has ls 5 [(0, .ref (G.2.2.1 7 0))] := hl
  have L9 : ∀ (n9 : Nat), ∀ (st : St) (v1x9 : Int) (v2x9 : Int) (H : Heap) (locs : List Loc) (ls : Array Slot), Iv vC G st H → va_S G.2.2.2.1 s.heap H locs → lv_has ls 5 [(0, .ref (G.2.2.1 7 0)), (1, .int (iI v1x9)), (2, .int (iI v2x9))] → f7_split_l9 Q n9 st v1x9 v2x9 → W p l e (headSpec wsX7_split ({ frames := 2, cells := 0, slots := 0, locals := 45 })).room s m ([.ref (G.2.2.1 7 0)] : List Value).toArray below meth c H locs 0 0 (MQ below (QvM vC G Q) ([.ref (G.2.2.1 7 0)] : List Value).toArray s 0 0 G.2.2.2.1) (F0 m 9 ls []) := by
    intro n9
    induction n9 with
    | zero =>
      intro st v1x9 v2x9 H locs ls hI hS hl h
      exact h.elim
    | succ n9 ih9 =>
      have J74 : ∀ (st : St) (v2x74 : Int) (v3x74 : Int) (H : Heap) (locs : List Loc) (ls : Array Slot), Iv vC G st H → va_S G.2.2.2.1 s.heap H locs → lv_has ls 5 [(0, .ref (G.2.2.1 7 0)), (2, .int (iI v2x74)), (3, .int (iI v3x74))] → f7_split_j74 (fun st v1x9 v2x9 => f7_split_l9 Q n9 st v1x9 v2x9) Q st v2x74 v3x74 → W p l e (headSpec wsX7_split ({ frames := 2, cells := 0, slots := 0, locals := 45 })).room s m ([.ref (G.2.2.1 7 0)] : List Value).toArray below meth c H locs 0 0 (MQ below (QvM vC G Q) ([.ref (G.2.2.1 7 0)] : List Value).toArray s 0 0 G.2.2.2.1) (F0 m 74 ls []) := by
        intro st v2x74 v3x74 H locs ls hI hS hl h
        unfold f7_split_j74 at h
        refine lv_iload_n hx hb dX7_split_74 rfl (lv_at hl 2 rfl) ?_
        refine lv_istore_n (lv' := [(1, .int (iI v3x74)), (0, .ref (G.2.2.1 7 0)), (2, .int (iI v2x74)), (3, .int (iI v3x74))]) hx hb dX7_split_75 rfl hl (by decide) rfl (fun ls hl => ?_)
        obtain ⟨x26, hx26⟩ : ∃ z : Int, z = v2x74 + 1 := ⟨_, rfl⟩
        replace h := h x26 hx26
        refine lv_iinc (v := iI x26) (lv' := [(2, .int (iI x26)), (1, .int (iI v3x74)), (0, .ref (G.2.2.1 7 0)), (3, .int (iI v3x74))]) hx hb dX7_split_76 hl (k := 2) rfl (by rw [hx26]; exact iI_add _ _) (by decide) rfl (fun ls hl => ?_)
        refine lv_goto (tgt := 9) hx hb dX7_split_79 (by decide) ?_
        exact ih9 st v3x74 x26 _ _ ls hI hS (lv_sub hl [2, 1, 0] rfl) h
      have J64 : ∀ (st : St) (v2x64 : Int) (v3x64 : Int) (H : Heap) (locs : List Loc) (ls : Array Slot), Iv vC G st H → va_S G.2.2.2.1 s.heap H locs → lv_has ls 5 [(0, .ref (G.2.2.1 7 0)), (2, .int (iI v2x64)), (3, .int (iI v3x64))] → f7_split_j64 (fun st v1x9 v2x9 => f7_split_l9 Q n9 st v1x9 v2x9) Q st v2x64 v3x64 → W p l e (headSpec wsX7_split ({ frames := 2, cells := 0, slots := 0, locals := 45 })).room s m ([.ref (G.2.2.1 7 0)] : List Value).toArray below meth c H locs 0 0 (MQ below (QvM vC G Q) ([.ref (G.2.2.1 7 0)] : List Value).toArray s 0 0 G.2.2.2.1) (F0 m 64 ls []) := by
        intro st v2x64 v3x64 H locs ls hI hS hl h
        unfold f7_split_j64 at h
        refine lv_iload_n hx hb dX7_split_64 rfl (lv_at hl 2 rfl) ?_
        refine r_iconst (n := 5) hx hb dX7_split_65 ?_
        obtain ⟨g22, h⟩ := h
        refine r_icmp_eq (tgt := 74) hx hb dX7_split_66 (by decide) g22 (inI_mk rfl) (fun c23 => ?_) (fun c23 => ?_)
        · replace h := h.1 c23
          exact J74 st v2x64 v3x64 _ _ ls hI hS (lv_sub hl [0, 1, 2] rfl) h
        · replace h := h.2 c23
          refine lv_aload_n hx hb dX7_split_69 rfl (lv_at hl 0 rfl) ?_
          refine lv_iload_n hx hb dX7_split_70 rfl (lv_at hl 1 rfl) ?_
          refine r_callv (va_runV (As := [.int (iI v2x64)]) (rest := []) ⟨hx, hb, hml, hown, hts⟩ (m7_lengthenToken l G hv_this _ st v2x64 h) (cwV 1 hts gX7_split_X7_lengthenToken rfl rfl rfl hd7_lengthenToken ⟨Nat.le_of_ble_eq_true rfl, Nat.le_of_ble_eq_true rfl⟩) (pre_V hK hX hI hA hS hv_this rfl rfl [.int (iI v2x64)]) rfl rfl hl.1 rfl (lv_room (Nat.le_of_ble_eq_true rfl)) dX7_split_71 ⟨Nat.le_of_ble_eq_true rfl, Nat.le_of_ble_eq_true rfl⟩) hS (fun st25 h H locs hI hS => ?_)
          exact J74 st25 v2x64 v3x64 _ _ ls hI hS (lv_sub hl [0, 1, 2] rfl) h
      have J46 : ∀ (st : St) (v2x46 : Int) (v3x46 : Int) (s0x46 : Int) (H : Heap) (locs : List Loc) (ls : Array Slot), Iv vC G st H → va_S G.2.2.2.1 s.heap H locs → lv_has ls 5 [(0, .ref (G.2.2.1 7 0)), (2, .int (iI v2x46)), (3, .int (iI v3x46))] → f7_split_j46 (fun st v1x9 v2x9 => f7_split_l9 Q n9 st v1x9 v2x9) Q st v2x46 v3x46 s0x46 → W p l e (headSpec wsX7_split ({ frames := 2, cells := 0, slots := 0, locals := 45 })).room s m ([.ref (G.2.2.1 7 0)] : List Value).toArray below meth c H locs 0 0 (MQ below (QvM vC G Q) ([.ref (G.2.2.1 7 0)] : List Value).toArray s 0 0 G.2.2.2.1) (F0 m 46 ls [.int (iI s0x46)]) := by
        intro st v2x46 v3x46 s0x46 H locs ls hI hS hl h
        unfold f7_split_j46 at h
        refine lv_istore (lv' := [(4, .int (iI s0x46)), (0, .ref (G.2.2.1 7 0)), (2, .int (iI v2x46)), (3, .int (iI v3x46))]) hx hb dX7_split_46 hl (by decide) rfl (fun ls hl => ?_)
        refine lv_iload hx hb dX7_split_48 (lv_at hl 0 rfl) ?_
        obtain ⟨g16, h⟩ := h
        refine r_if_ne (tgt := 64) hx hb dX7_split_50 (by decide) g16 (fun c17 => ?_) (fun c17 => ?_)
        · replace h := h.2 c17
          exact J64 st v2x46 v3x46 _ _ ls hI hS (lv_sub hl [1, 2, 3] rfl) h
        · replace h := h.1 c17
          refine lv_iload_n hx hb dX7_split_53 rfl (lv_at hl 3 rfl) ?_
          refine r_iconst (n := 5) hx hb dX7_split_54 ?_
          obtain ⟨g18, h⟩ := h
          refine r_icmp_eq (tgt := 64) hx hb dX7_split_55 (by decide) g18 (inI_mk rfl) (fun c19 => ?_) (fun c19 => ?_)
          · replace h := h.1 c19
            exact J64 st v2x46 v3x46 _ _ ls hI hS (lv_sub hl [1, 2, 3] rfl) h
          · replace h := h.2 c19
            refine lv_aload_n hx hb dX7_split_58 rfl (lv_at hl 1 rfl) ?_
            refine lv_iload_n hx hb dX7_split_59 rfl (lv_at hl 3 rfl) ?_
            refine lv_iload_n hx hb dX7_split_60 rfl (lv_at hl 2 rfl) ?_
            refine r_callv (va_runV (As := [.int (iI v3x46), .int (iI v2x46)]) (rest := []) ⟨hx, hb, hml, hown, hts⟩ (m7_startToken l G hv_this _ st v3x46 v2x46 h) (cwV 2 hts gX7_split_X7_startToken rfl rfl rfl hd7_startToken ⟨Nat.le_of_ble_eq_true rfl, Nat.le_of_ble_eq_true rfl⟩) (pre_V hK hX hI hA hS hv_this rfl rfl [.int (iI v3x46), .int (iI v2x46)]) rfl rfl hl.1 rfl (lv_room (Nat.le_of_ble_eq_true rfl)) dX7_split_61 ⟨Nat.le_of_ble_eq_true rfl, Nat.le_of_ble_eq_true rfl⟩) hS (fun st21 h H locs hI hS => ?_)
            exact J64 st21 v2x46 v3x46 _ _ ls hI hS (lv_sub hl [1, 2, 3] rfl) h
      have J45 : ∀ (st : St) (v2x45 : Int) (v3x45 : Int) (H : Heap) (locs : List Loc) (ls : Array Slot), Iv vC G st H → va_S G.2.2.2.1 s.heap H locs → lv_has ls 5 [(0, .ref (G.2.2.1 7 0)), (2, .int (iI v2x45)), (3, .int (iI v3x45))] → f7_split_j45 (fun st v1x9 v2x9 => f7_split_l9 Q n9 st v1x9 v2x9) Q st v2x45 v3x45 → W p l e (headSpec wsX7_split ({ frames := 2, cells := 0, slots := 0, locals := 45 })).room s m ([.ref (G.2.2.1 7 0)] : List Value).toArray below meth c H locs 0 0 (MQ below (QvM vC G Q) ([.ref (G.2.2.1 7 0)] : List Value).toArray s 0 0 G.2.2.2.1) (F0 m 45 ls []) := by
        intro st v2x45 v3x45 H locs ls hI hS hl h
        unfold f7_split_j45 at h
        refine r_iconst (n := 0) hx hb dX7_split_45 ?_
        exact J46 st v2x45 v3x45 0 _ _ ls hI hS (lv_sub hl [0, 1, 2] rfl) h
      have J41 : ∀ (st : St) (v2x41 : Int) (v3x41 : Int) (H : Heap) (locs : List Loc) (ls : Array Slot), Iv vC G st H → va_S G.2.2.2.1 s.heap H locs → lv_has ls 5 [(0, .ref (G.2.2.1 7 0)), (2, .int (iI v2x41)), (3, .int (iI v3x41))] → f7_split_j41 (fun st v1x9 v2x9 => f7_split_l9 Q n9 st v1x9 v2x9) Q st v2x41 v3x41 → W p l e (headSpec wsX7_split ({ frames := 2, cells := 0, slots := 0, locals := 45 })).room s m ([.ref (G.2.2.1 7 0)] : List Value).toArray below meth c H locs 0 0 (MQ below (QvM vC G Q) ([.ref (G.2.2.1 7 0)] : List Value).toArray s 0 0 G.2.2.2.1) (F0 m 41 ls []) := by
        intro st v2x41 v3x41 H locs ls hI hS hl h
        unfold f7_split_j41 at h
        refine r_iconst (n := 1) hx hb dX7_split_41 ?_
        refine lv_goto (tgt := 46) hx hb dX7_split_42 (by decide) ?_
        exact J46 st v2x41 v3x41 1 _ _ ls hI hS (lv_sub hl [0, 1, 2] rfl) h
      intro st v1x9 v2x9 H locs ls hI hS hl h
      unfold f7_split_l9 at h
      refine lv_iload_n hx hb dX7_split_9 rfl (lv_at hl 2 rfl) ?_
      refine lv_aload_n hx hb dX7_split_10 rfl (lv_at hl 0 rfl) ?_
      refine gg_7_1 hx hb hts in7 hown hK hI hv_this lk_15 dX7_split_11 ?_
      obtain ⟨g2, h⟩ := h
      obtain ⟨g3, h⟩ := h
      refine r_icmp_ge (tgt := 82) hx hb dX7_split_14 (by decide) g2 g3 (fun c4 => ?_) (fun c4 => ?_)
      · replace h := h.1 c4
        exact r_vret hx hb hr hlocks hK hI hS (Qp := Q) h dX7_split_82
      · replace h := h.2 c4
        refine lv_aload_n hx hb dX7_split_17 rfl (lv_at hl 0 rfl) ?_
        refine lv_iload_n hx hb dX7_split_18 rfl (lv_at hl 2 rfl) ?_
        refine r_calli (va_runV (As := [.int (iI v2x9)]) (rest := []) ⟨hx, hb, hml, hown, hts⟩ (m7_byteAt l G hv_this _ st v2x9 h) (cwV 1 hts gX7_split_X7_byteAt rfl rfl rfl hd7_byteAt ⟨Nat.le_of_ble_eq_true rfl, Nat.le_of_ble_eq_true rfl⟩) (pre_V hK hX hI hA hS hv_this rfl rfl [.int (iI v2x9)]) rfl rfl hl.1 rfl (lv_room (Nat.le_of_ble_eq_true rfl)) dX7_split_19 ⟨Nat.le_of_ble_eq_true rfl, Nat.le_of_ble_eq_true rfl⟩) hS (fun z5 st6 h H locs hI hS => ?_)
        refine r_calli (va_runS (As := [.int (iI z5)]) (rest := []) ⟨hx, hb, hml, hown, hts⟩ (m7_kindOfByte l G _ st6 z5 h) (va_cwS 1 hts gX7_split_X7_kindOfByte rfl rfl rfl hd7_kindOfByte ⟨Nat.le_of_ble_eq_true rfl, Nat.le_of_ble_eq_true rfl⟩) (pre_S hK hX hI hA hS [.int (iI z5)]) rfl rfl hl.1 rfl (lv_room (Nat.le_of_ble_eq_true rfl)) dX7_split_22 ⟨Nat.le_of_ble_eq_true rfl, Nat.le_of_ble_eq_true rfl⟩) hS (fun z7 st8 h H locs hI hS => ?_)
        refine lv_istore_n (lv' := [(3, .int (iI z7)), (0, .ref (G.2.2.1 7 0)), (1, .int (iI v1x9)), (2, .int (iI v2x9))]) hx hb dX7_split_25 rfl hl (by decide) rfl (fun ls hl => ?_)
        refine lv_iload_n hx hb dX7_split_26 rfl (lv_at hl 0 rfl) ?_
        refine lv_iload_n hx hb dX7_split_27 rfl (lv_at hl 2 rfl) ?_
        obtain ⟨g9, h⟩ := h
        obtain ⟨g10, h⟩ := h
        refine r_icmp_ne (tgt := 45) hx hb dX7_split_28 (by decide) g9 g10 (fun c11 => ?_) (fun c11 => ?_)
        · replace h := h.2 c11
          exact J45 st8 v2x9 z7 _ _ ls hI hS (lv_sub hl [1, 3, 0] rfl) h
        · replace h := h.1 c11
          refine lv_iload_n hx hb dX7_split_31 rfl (lv_at hl 0 rfl) ?_
          refine r_iconst (n := 1) hx hb dX7_split_32 ?_
          obtain ⟨g12, h⟩ := h
          refine r_icmp_eq (tgt := 41) hx hb dX7_split_33 (by decide) g12 (inI_mk rfl) (fun c13 => ?_) (fun c13 => ?_)
          · replace h := h.1 c13
            exact J41 st8 v2x9 z7 _ _ ls hI hS (lv_sub hl [1, 3, 0] rfl) h
          · replace h := h.2 c13
            refine lv_iload_n hx hb dX7_split_36 rfl (lv_at hl 0 rfl) ?_
            refine r_iconst (n := 2) hx hb dX7_split_37 ?_
            obtain ⟨g14, h⟩ := h
            refine r_icmp_ne (tgt := 45) hx hb dX7_split_38 (by decide) g14 (inI_mk rfl) (fun c15 => ?_) (fun c15 => ?_)
            · replace h := h.2 c15
              exact J45 st8 v2x9 z7 _ _ ls hI hS (lv_sub hl [1, 3, 0] rfl) h
            · replace h := h.1 c15
              exact J41 st8 v2x9 z7 _ _ ls hI hS (lv_sub hl [1, 3, 0] rfl) h
  unfold f7_split at h
  refine lv_aload_n hx hb dX7_split_0 rfl (lv_at hl 0 rfl) ?_
  refine r_iconst (n := 0) hx hb dX7_split_1 ?_
  refine pp_7_6 hx hb hts in7 hown hK hI hS hv_this lk_32 dX7_split_2 (fun st1 hst1 H locs hI hS => ?_)
  replace h := h st1 hst1
  refine r_iconst (n := 5) hx hb dX7_split_5 ?_
  refine lv_istore_n (lv' := [(1, .int (iI 5)), (0, .ref (G.2.2.1 7 0))]) hx hb dX7_split_6 rfl hl (by decide) rfl (fun ls hl => ?_)
  refine r_iconst (n := 0) hx hb dX7_split_7 ?_
  refine lv_istore_n (lv' := [(2, .int (iI 0)), (1, .int (iI 5)), (0, .ref (G.2.2.1 7 0))]) hx hb dX7_split_8 rfl hl (by decide) rfl (fun ls hl => ?_)
  obtain ⟨kk, h⟩ := h
  exact L9 kk st1 5 0 _ _ ls hI hS (lv_sub hl [2, 1, 0] rfl) h
theorem hd7_isWord : yX7_isWord.cls = RX7 ∧ yX7_isWord.cls ≠ "java/lang/invoke/MethodHandle" ∧ yX7_isWord.cls ≠ "java/lang/invoke/VarHandle" ∧ (parseMethodDescriptor yX7_isWord.desc).map (fun d => d.parameters.length) = some 2 := by decide +kernel
set_option maxHeartbeats 4000000 in
set_option maxRecDepth 100000 in
theorem m7_isWord (l : Launch) (G : WG)  (a1 : Nat) (hv_this : vC 7 0) (hv_a1 : a1 < 9) (Q : Int → St → Prop) (st : St) (a0 : Int) (h : f7_isWord a1 Q st a0) : Met l yX7_isWord wsX7_isWord ({ frames := 4, cells := 0, slots := 0, locals := 90 }) (PcM vC G st [.ref (G.2.2.1 7 0), .int (iI a0), .ref (G.2.2.2.2.1 a1)]) (QiM vC G Q) 0 0 G.2.2.2.1 := by
  refine Met.ofW (cc := cX7_isWord) (maxL := 4) (ret := (some .boolean)) (by decide) rfl ?_
  intro p e s m args below meth c s₁ B hml hvv
  obtain ⟨rfl, hA, hI, hK, hX⟩ := hvv
  have hx := B.exec
  have hb := B.bytes
  have hr := B.returns
  have hts := atoms_spec (ws := wsX7_isWord) B.pre
  have hown : s.vm.findClass RX7 = some m.cls := findClass_of_methodNamed B.named
  have hlocks := B.notSynchronized
  have hS : va_S G.2.2.2.1 s.heap s.heap [] := va_S.rf
  have in7 : ∀ w ∈ wsX70, w ∈ wsX7_isWord := by decide +kernel
  have lk_19 := hts (.fieldLink RX7 19 "BeamLines$Text" "kinds" "[I") (by decide +kernel)
  have lk_23 := hts (.fieldLink RX7 23 "BeamLines$Text" "starts" "[I") (by decide +kernel)
  have lk_26 := hts (.fieldLink RX7 26 "BeamLines$Text" "ends" "[I") (by decide +kernel)
  have hl := lv_entry ([.ref (G.2.2.1 7 0), .int (iI a0), .ref (G.2.2.2.2.1 a1)]) (n := 4) (Nat.le_of_ble_eq_true rfl)
  rw [lg_entry_eq]
  generalize (lg_sl ([.ref (G.2.2.1 7 0), .int (iI a0), .ref (G.2.2.2.2.1 a1)]) ++ List.replicate (4 - (lg_sl ([.ref (G.2.2.1 7 0), .int (iI a0), .ref (G.2.2.2.2.1 a1)])).length) Slot.unset).toArray = ls at hl ⊢
  have hl : lv_has ls 4 [(0, .ref (G.2.2.1 7 0)), (1, .int (iI a0)), (2, .ref (G.2.2.2.2.1 a1))] := hl
  have L42 : ∀ (n42 : Nat), ∀ (st : St) (v3x42 : Int) (H : Heap) (locs : List Loc) (ls : Array Slot), Iv vC G st H → va_S G.2.2.2.1 s.heap H locs → lv_has ls 4 [(0, .ref (G.2.2.1 7 0)), (1, .int (iI a0)), (2, .ref (G.2.2.2.2.1 a1)), (3, .int (iI v3x42))] → f7_isWord_l42 a1 Q a0 n42 st v3x42 → W p l e (headSpec wsX7_isWord ({ frames := 4, cells := 0, slots := 0, locals := 90 })).room s m ([.ref (G.2.2.1 7 0), .int (iI a0), .ref (G.2.2.2.2.1 a1)] : List Value).toArray below meth c H locs 0 0 (MQ below (QiM vC G Q) ([.ref (G.2.2.1 7 0), .int (iI a0), .ref (G.2.2.2.2.1 a1)] : List Value).toArray s 0 0 G.2.2.2.1) (F0 m 42 ls []) := by
    intro n42
    induction n42 with
    | zero =>
      intro st v3x42 H locs ls hI hS hl h
      exact h.elim
    | succ n42 ih42 =>
      intro st v3x42 H locs ls hI hS hl h
      unfold f7_isWord_l42 at h
      refine lv_iload_n hx hb dX7_isWord_42 rfl (lv_at hl 3 rfl) ?_
      refine lv_aload_n hx hb dX7_isWord_43 rfl (lv_at hl 2 rfl) ?_
      refine r_callc (va_runV (As := []) (rest := [.int (iI v3x42)]) ⟨hx, hb, hml, hown, hts⟩ (mS_length (V := vC) l G st a1 hv_a1) (cwV 0 hts gX7_isWord_J0_length_8abf5 rfl rfl rfl hdS_length ⟨Nat.le_of_ble_eq_true rfl, Nat.le_of_ble_eq_true rfl⟩) (pre_Str hK hX hI hA hS hv_a1 []) rfl rfl hl.1 rfl (lv_room (Nat.le_of_ble_eq_true rfl)) dX7_isWord_44 ⟨Nat.le_of_ble_eq_true rfl, Nat.le_of_ble_eq_true rfl⟩) hS (fun H locs hI hS => ?_)
      obtain ⟨g16, h⟩ := h
      obtain ⟨g17, h⟩ := h
      refine r_icmp_ge (tgt := 78) hx hb dX7_isWord_47 (by decide) g16 g17 (fun c18 => ?_) (fun c18 => ?_)
      · replace h := h.1 c18
        refine r_iconst (n := 1) hx hb dX7_isWord_78 ?_
        exact r_zret hx hb hr hlocks hK hI hS (Qp := Q) (by decide) h dX7_isWord_79
      · replace h := h.2 c18
        refine lv_aload_n hx hb dX7_isWord_50 rfl (lv_at hl 0 rfl) ?_
        refine lv_aload_n hx hb dX7_isWord_51 rfl (lv_at hl 0 rfl) ?_
        refine gg_7_3 hx hb hts in7 hown hK hI hv_this lk_23 dX7_isWord_52 ?_
        refine lv_iload_n hx hb dX7_isWord_55 rfl (lv_at hl 1 rfl) ?_
        obtain ⟨g19, g20, h⟩ := h
        refine r_iald hx hb hK hI (K := 23) (vrC_7_3 hv_this) rfl (lts_mk rfl) dX7_isWord_56 g19 g20 ?_
        refine lv_iload_n hx hb dX7_isWord_57 rfl (lv_at hl 3 rfl) ?_
        refine r_iadd hx hb dX7_isWord_58 ?_
        refine r_calli (va_runV (As := [.int (iI ((st 23 0 0 a0) + v3x42))]) (rest := []) ⟨hx, hb, hml, hown, hts⟩ (m7_byteAt l G hv_this _ st ((st 23 0 0 a0) + v3x42) h) (cwV 1 hts gX7_isWord_X7_byteAt rfl rfl rfl hd7_byteAt ⟨Nat.le_of_ble_eq_true rfl, Nat.le_of_ble_eq_true rfl⟩) (pre_V hK hX hI hA hS hv_this rfl rfl [.int (iI ((st 23 0 0 a0) + v3x42))]) rfl rfl hl.1 rfl (lv_room (Nat.le_of_ble_eq_true rfl)) dX7_isWord_59 ⟨Nat.le_of_ble_eq_true rfl, Nat.le_of_ble_eq_true rfl⟩) hS (fun z21 st22 h H locs hI hS => ?_)
        refine lv_aload_n hx hb dX7_isWord_62 rfl (lv_at hl 2 rfl) ?_
        refine lv_iload_n hx hb dX7_isWord_63 rfl (lv_at hl 3 rfl) ?_
        obtain ⟨g23, g24, h⟩ := h
        refine r_callc (va_runV (As := [.int (iI v3x42)]) (rest := [.int (iI z21)]) ⟨hx, hb, hml, hown, hts⟩ (mS_charAt (V := vC) l G st22 a1 v3x42 hv_a1 g23 g24) (cwV 1 hts gX7_isWord_J0_charAt_5068e rfl rfl rfl hdS_charAt ⟨Nat.le_of_ble_eq_true rfl, Nat.le_of_ble_eq_true rfl⟩) (pre_Str hK hX hI hA hS hv_a1 [.int (iI v3x42)]) rfl rfl hl.1 rfl (lv_room (Nat.le_of_ble_eq_true rfl)) dX7_isWord_64 ⟨Nat.le_of_ble_eq_true rfl, Nat.le_of_ble_eq_true rfl⟩) hS (fun H locs hI hS => ?_)
        obtain ⟨g25, h⟩ := h
        obtain ⟨g26, h⟩ := h
        refine r_icmp_eq (tgt := 72) hx hb dX7_isWord_67 (by decide) g25 g26 (fun c27 => ?_) (fun c27 => ?_)
        · replace h := h.1 c27
          obtain ⟨x28, hx28⟩ : ∃ z : Int, z = v3x42 + 1 := ⟨_, rfl⟩
          replace h := h x28 hx28
          refine lv_iinc (v := iI x28) (lv' := [(3, .int (iI x28)), (0, .ref (G.2.2.1 7 0)), (1, .int (iI a0)), (2, .ref (G.2.2.2.2.1 a1))]) hx hb dX7_isWord_72 hl (k := 3) rfl (by rw [hx28]; exact iI_add _ _) (by decide) rfl (fun ls hl => ?_)
          refine lv_goto (tgt := 42) hx hb dX7_isWord_75 (by decide) ?_
          exact ih42 st22 x28 _ _ ls hI hS (lv_sub hl [1, 2, 3, 0] rfl) h
        · replace h := h.2 c27
          refine r_iconst (n := 0) hx hb dX7_isWord_70 ?_
          exact r_zret hx hb hr hlocks hK hI hS (Qp := Q) (by decide) h dX7_isWord_71
  unfold f7_isWord at h
  refine lv_aload_n hx hb dX7_isWord_0 rfl (lv_at hl 0 rfl) ?_
  refine lv_iload_n hx hb dX7_isWord_1 rfl (lv_at hl 1 rfl) ?_
  refine r_calli (va_runV (As := [.int (iI a0)]) (rest := []) ⟨hx, hb, hml, hown, hts⟩ (m7_hasToken l G hv_this _ st a0 h) (cwV 1 hts gX7_isWord_X7_hasToken rfl rfl rfl hd7_hasToken ⟨Nat.le_of_ble_eq_true rfl, Nat.le_of_ble_eq_true rfl⟩) (pre_V hK hX hI hA hS hv_this rfl rfl [.int (iI a0)]) rfl rfl hl.1 rfl (lv_room (Nat.le_of_ble_eq_true rfl)) dX7_isWord_2 ⟨Nat.le_of_ble_eq_true rfl, Nat.le_of_ble_eq_true rfl⟩) hS (fun z1 st2 h H locs hI hS => ?_)
  obtain ⟨g3, h⟩ := h
  refine r_if_eq (tgt := 38) hx hb dX7_isWord_5 (by decide) g3 (fun c4 => ?_) (fun c4 => ?_)
  · replace h := h.1 c4
    refine r_iconst (n := 0) hx hb dX7_isWord_38 ?_
    exact r_zret hx hb hr hlocks hK hI hS (Qp := Q) (by decide) h dX7_isWord_39
  · replace h := h.2 c4
    refine lv_aload_n hx hb dX7_isWord_8 rfl (lv_at hl 0 rfl) ?_
    refine gg_7_2 hx hb hts in7 hown hK hI hv_this lk_19 dX7_isWord_9 ?_
    refine lv_iload_n hx hb dX7_isWord_12 rfl (lv_at hl 1 rfl) ?_
    obtain ⟨g5, g6, h⟩ := h
    refine r_iald hx hb hK hI (K := 22) (vrC_7_2 hv_this) rfl (lts_mk rfl) dX7_isWord_13 g5 g6 ?_
    refine r_iconst (n := 1) hx hb dX7_isWord_14 ?_
    obtain ⟨g7, h⟩ := h
    refine r_icmp_ne (tgt := 38) hx hb dX7_isWord_15 (by decide) g7 (inI_mk rfl) (fun c8 => ?_) (fun c8 => ?_)
    · replace h := h.2 c8
      refine r_iconst (n := 0) hx hb dX7_isWord_38 ?_
      exact r_zret hx hb hr hlocks hK hI hS (Qp := Q) (by decide) h dX7_isWord_39
    · replace h := h.1 c8
      refine lv_aload_n hx hb dX7_isWord_18 rfl (lv_at hl 0 rfl) ?_
      refine gg_7_4 hx hb hts in7 hown hK hI hv_this lk_26 dX7_isWord_19 ?_
      refine lv_iload_n hx hb dX7_isWord_22 rfl (lv_at hl 1 rfl) ?_
      obtain ⟨g9, g10, h⟩ := h
      refine r_iald hx hb hK hI (K := 24) (vrC_7_4 hv_this) rfl (lts_mk rfl) dX7_isWord_23 g9 g10 ?_
      refine lv_aload_n hx hb dX7_isWord_24 rfl (lv_at hl 0 rfl) ?_
      refine gg_7_3 hx hb hts in7 hown hK hI hv_this lk_23 dX7_isWord_25 ?_
      refine lv_iload_n hx hb dX7_isWord_28 rfl (lv_at hl 1 rfl) ?_
      obtain ⟨g11, g12, h⟩ := h
      refine r_iald hx hb hK hI (K := 23) (vrC_7_3 hv_this) rfl (lts_mk rfl) dX7_isWord_29 g11 g12 ?_
      refine r_isub hx hb dX7_isWord_30 ?_
      refine lv_aload_n hx hb dX7_isWord_31 rfl (lv_at hl 2 rfl) ?_
      refine r_callc (va_runV (As := []) (rest := [.int (iI ((st2 24 0 0 a0) - (st2 23 0 0 a0)))]) ⟨hx, hb, hml, hown, hts⟩ (mS_length (V := vC) l G st2 a1 hv_a1) (cwV 0 hts gX7_isWord_J0_length_8abf5 rfl rfl rfl hdS_length ⟨Nat.le_of_ble_eq_true rfl, Nat.le_of_ble_eq_true rfl⟩) (pre_Str hK hX hI hA hS hv_a1 []) rfl rfl hl.1 rfl (lv_room (Nat.le_of_ble_eq_true rfl)) dX7_isWord_32 ⟨Nat.le_of_ble_eq_true rfl, Nat.le_of_ble_eq_true rfl⟩) hS (fun H locs hI hS => ?_)
      obtain ⟨g13, h⟩ := h
      obtain ⟨g14, h⟩ := h
      refine r_icmp_eq (tgt := 40) hx hb dX7_isWord_35 (by decide) g13 g14 (fun c15 => ?_) (fun c15 => ?_)
      · replace h := h.1 c15
        refine r_iconst (n := 0) hx hb dX7_isWord_40 ?_
        refine lv_istore_n (lv' := [(3, .int (iI 0)), (0, .ref (G.2.2.1 7 0)), (1, .int (iI a0)), (2, .ref (G.2.2.2.2.1 a1))]) hx hb dX7_isWord_41 rfl hl (by decide) rfl (fun ls hl => ?_)
        obtain ⟨kk, h⟩ := h
        exact L42 kk st2 0 _ _ ls hI hS (lv_sub hl [1, 2, 3, 0] rfl) h
      · replace h := h.2 c15
        refine r_iconst (n := 0) hx hb dX7_isWord_38 ?_
        exact r_zret hx hb hr hlocks hK hI hS (Qp := Q) (by decide) h dX7_isWord_39
theorem hd7_startOf : yX7_startOf.cls = RX7 ∧ yX7_startOf.cls ≠ "java/lang/invoke/MethodHandle" ∧ yX7_startOf.cls ≠ "java/lang/invoke/VarHandle" ∧ (parseMethodDescriptor yX7_startOf.desc).map (fun d => d.parameters.length) = some 1 := by decide +kernel
set_option maxHeartbeats 4000000 in
set_option maxRecDepth 100000 in
theorem m7_startOf (l : Launch) (G : WG)   (hv_this : vC 7 0) (Q : Int → St → Prop) (st : St) (a0 : Int) (h : f7_startOf Q st a0) : Met l yX7_startOf wsX7_startOf ({ frames := 0, cells := 0, slots := 0, locals := 0 }) (PcM vC G st [.ref (G.2.2.1 7 0), .int (iI a0)]) (QiM vC G Q) 0 0 G.2.2.2.1 := by
  refine Met.ofW (cc := cX7_startOf) (maxL := 2) (ret := (some .int)) (by decide) rfl ?_
  intro p e s m args below meth c s₁ B hml hvv
  obtain ⟨rfl, hA, hI, hK, hX⟩ := hvv
  have hx := B.exec
  have hb := B.bytes
  have hr := B.returns
  have hts := atoms_spec (ws := wsX7_startOf) B.pre
  have hown : s.vm.findClass RX7 = some m.cls := findClass_of_methodNamed B.named
  have hlocks := B.notSynchronized
  have hS : va_S G.2.2.2.1 s.heap s.heap [] := va_S.rf
  have in7 : ∀ w ∈ wsX70, w ∈ wsX7_startOf := by decide +kernel
  have lk_15 := hts (.fieldLink RX7 15 "BeamLines$Text" "length" "I") (by decide +kernel)
  have lk_23 := hts (.fieldLink RX7 23 "BeamLines$Text" "starts" "[I") (by decide +kernel)
  have lk_32 := hts (.fieldLink RX7 32 "BeamLines$Text" "tokens" "I") (by decide +kernel)
  have hl := lv_entry ([.ref (G.2.2.1 7 0), .int (iI a0)]) (n := 2) (Nat.le_of_ble_eq_true rfl)
  rw [lg_entry_eq]
  generalize (lg_sl ([.ref (G.2.2.1 7 0), .int (iI a0)]) ++ List.replicate (2 - (lg_sl ([.ref (G.2.2.1 7 0), .int (iI a0)])).length) Slot.unset).toArray = ls at hl ⊢
  have hl : lv_has ls 2 [(0, .ref (G.2.2.1 7 0)), (1, .int (iI a0))] := hl
  unfold f7_startOf at h
  refine lv_iload_n hx hb dX7_startOf_0 rfl (lv_at hl 1 rfl) ?_
  obtain ⟨g1, h⟩ := h
  refine r_if_lt (tgt := 28) hx hb dX7_startOf_1 (by decide) g1 (fun c2 => ?_) (fun c2 => ?_)
  · replace h := h.1 c2
    refine lv_aload_n hx hb dX7_startOf_28 rfl (lv_at hl 0 rfl) ?_
    refine gg_7_1 hx hb hts in7 hown hK hI hv_this lk_15 dX7_startOf_29 ?_
    exact r_iret hx hb hr hlocks hK hI hS (Qp := Q) h dX7_startOf_32
  · replace h := h.2 c2
    refine lv_iload_n hx hb dX7_startOf_4 rfl (lv_at hl 1 rfl) ?_
    refine lv_aload_n hx hb dX7_startOf_5 rfl (lv_at hl 0 rfl) ?_
    refine gg_7_6 hx hb hts in7 hown hK hI hv_this lk_32 dX7_startOf_6 ?_
    obtain ⟨g3, h⟩ := h
    obtain ⟨g4, h⟩ := h
    refine r_icmp_ge (tgt := 28) hx hb dX7_startOf_9 (by decide) g3 g4 (fun c5 => ?_) (fun c5 => ?_)
    · replace h := h.1 c5
      refine lv_aload_n hx hb dX7_startOf_28 rfl (lv_at hl 0 rfl) ?_
      refine gg_7_1 hx hb hts in7 hown hK hI hv_this lk_15 dX7_startOf_29 ?_
      exact r_iret hx hb hr hlocks hK hI hS (Qp := Q) h dX7_startOf_32
    · replace h := h.2 c5
      refine lv_iload_n hx hb dX7_startOf_12 rfl (lv_at hl 1 rfl) ?_
      refine r_sipush (n := 500) hx hb dX7_startOf_13 rfl ?_
      obtain ⟨g6, h⟩ := h
      refine r_icmp_ge (tgt := 28) hx hb dX7_startOf_16 (by decide) g6 (inI_mk rfl) (fun c7 => ?_) (fun c7 => ?_)
      · replace h := h.1 c7
        refine lv_aload_n hx hb dX7_startOf_28 rfl (lv_at hl 0 rfl) ?_
        refine gg_7_1 hx hb hts in7 hown hK hI hv_this lk_15 dX7_startOf_29 ?_
        exact r_iret hx hb hr hlocks hK hI hS (Qp := Q) h dX7_startOf_32
      · replace h := h.2 c7
        refine lv_aload_n hx hb dX7_startOf_19 rfl (lv_at hl 0 rfl) ?_
        refine gg_7_3 hx hb hts in7 hown hK hI hv_this lk_23 dX7_startOf_20 ?_
        refine lv_iload_n hx hb dX7_startOf_23 rfl (lv_at hl 1 rfl) ?_
        obtain ⟨g8, g9, h⟩ := h
        refine r_iald hx hb hK hI (K := 23) (vrC_7_3 hv_this) rfl (lts_mk rfl) dX7_startOf_24 g8 g9 ?_
        refine lv_goto (tgt := 32) hx hb dX7_startOf_25 (by decide) ?_
        exact r_iret hx hb hr hlocks hK hI hS (Qp := Q) h dX7_startOf_32
theorem hd5_fail : yX5_fail.cls = RX5 ∧ yX5_fail.cls ≠ "java/lang/invoke/MethodHandle" ∧ yX5_fail.cls ≠ "java/lang/invoke/VarHandle" ∧ (parseMethodDescriptor yX5_fail.desc).map (fun d => d.parameters.length) = some 2 := by decide +kernel
set_option maxHeartbeats 4000000 in
set_option maxRecDepth 100000 in
theorem m5_fail (l : Launch) (G : WG)   (hv_this : vC 5 0) (Q : Int → St → Prop) (st : St) (a0 : Int) (a1 : Int) (h : f5_fail Q st a0 a1) : Met l yX5_fail wsX5_fail ({ frames := 0, cells := 0, slots := 0, locals := 0 }) (PcM vC G st [.ref (G.2.2.1 5 0), .int (iI a0), .int (iI a1)]) (QiM vC G Q) 0 0 G.2.2.2.1 := by
  refine Met.ofW (cc := cX5_fail) (maxL := 3) (ret := (some .boolean)) (by decide) rfl ?_
  intro p e s m args below meth c s₁ B hml hvv
  obtain ⟨rfl, hA, hI, hK, hX⟩ := hvv
  have hx := B.exec
  have hb := B.bytes
  have hr := B.returns
  have hts := atoms_spec (ws := wsX5_fail) B.pre
  have hown : s.vm.findClass RX5 = some m.cls := findClass_of_methodNamed B.named
  have hlocks := B.notSynchronized
  have hS : va_S G.2.2.2.1 s.heap s.heap [] := va_S.rf
  have in5 : ∀ w ∈ wsX50, w ∈ wsX5_fail := by decide +kernel
  have lk_29 := hts (.fieldLink RX5 29 "BeamLines$Reader" "code" "I") (by decide +kernel)
  have lk_32 := hts (.fieldLink RX5 32 "BeamLines$Reader" "errorAt" "I") (by decide +kernel)
  have hl := lv_entry ([.ref (G.2.2.1 5 0), .int (iI a0), .int (iI a1)]) (n := 3) (Nat.le_of_ble_eq_true rfl)
  rw [lg_entry_eq]
  generalize (lg_sl ([.ref (G.2.2.1 5 0), .int (iI a0), .int (iI a1)]) ++ List.replicate (3 - (lg_sl ([.ref (G.2.2.1 5 0), .int (iI a0), .int (iI a1)])).length) Slot.unset).toArray = ls at hl ⊢
  have hl : lv_has ls 3 [(0, .ref (G.2.2.1 5 0)), (1, .int (iI a0)), (2, .int (iI a1))] := hl
  unfold f5_fail at h
  refine lv_aload_n hx hb dX5_fail_0 rfl (lv_at hl 0 rfl) ?_
  refine lv_iload_n hx hb dX5_fail_1 rfl (lv_at hl 1 rfl) ?_
  refine pp_5_3 hx hb hts in5 hown hK hI hS hv_this lk_29 dX5_fail_2 (fun st1 hst1 H locs hI hS => ?_)
  replace h := h st1 hst1
  refine lv_aload_n hx hb dX5_fail_5 rfl (lv_at hl 0 rfl) ?_
  refine lv_iload_n hx hb dX5_fail_6 rfl (lv_at hl 2 rfl) ?_
  refine pp_5_4 hx hb hts in5 hown hK hI hS hv_this lk_32 dX5_fail_7 (fun st2 hst2 H locs hI hS => ?_)
  replace h := h st2 hst2
  refine r_iconst (n := 0) hx hb dX5_fail_10 ?_
  exact r_zret hx hb hr hlocks hK hI hS (Qp := Q) (by decide) h dX5_fail_11
theorem hd5_takeWord : yX5_takeWord.cls = RX5 ∧ yX5_takeWord.cls ≠ "java/lang/invoke/MethodHandle" ∧ yX5_takeWord.cls ≠ "java/lang/invoke/VarHandle" ∧ (parseMethodDescriptor yX5_takeWord.desc).map (fun d => d.parameters.length) = some 1 := by decide +kernel
set_option maxHeartbeats 4000000 in
set_option maxRecDepth 100000 in
theorem m5_takeWord (l : Launch) (G : WG)  (a0 : Nat) (hv_this : vC 5 0) (hv_a0 : a0 < 9) (Q : Int → St → Prop) (st : St)  (h : f5_takeWord a0 Q st) : Met l yX5_takeWord wsX5_takeWord ({ frames := 5, cells := 0, slots := 0, locals := 113 }) (PcM vC G st [.ref (G.2.2.1 5 0), .ref (G.2.2.2.2.1 a0)]) (QiM vC G Q) 0 0 G.2.2.2.1 := by
  refine Met.ofW (cc := cX5_takeWord) (maxL := 2) (ret := (some .boolean)) (by decide) rfl ?_
  intro p e s m args below meth c s₁ B hml hvv
  obtain ⟨rfl, hA, hI, hK, hX⟩ := hvv
  have hx := B.exec
  have hb := B.bytes
  have hr := B.returns
  have hts := atoms_spec (ws := wsX5_takeWord) B.pre
  have hown : s.vm.findClass RX5 = some m.cls := findClass_of_methodNamed B.named
  have hlocks := B.notSynchronized
  have hS : va_S G.2.2.2.1 s.heap s.heap [] := va_S.rf
  have in5 : ∀ w ∈ wsX50, w ∈ wsX5_takeWord := by decide +kernel
  have lk_12 := hts (.fieldLink RX5 12 "BeamLines$Reader" "text" "LBeamLines$Text;") (by decide +kernel)
  have lk_25 := hts (.fieldLink RX5 25 "BeamLines$Reader" "token" "I") (by decide +kernel)
  have hl := lv_entry ([.ref (G.2.2.1 5 0), .ref (G.2.2.2.2.1 a0)]) (n := 2) (Nat.le_of_ble_eq_true rfl)
  rw [lg_entry_eq]
  generalize (lg_sl ([.ref (G.2.2.1 5 0), .ref (G.2.2.2.2.1 a0)]) ++ List.replicate (2 - (lg_sl ([.ref (G.2.2.1 5 0), .ref (G.2.2.2.2.1 a0)])).length) Slot.unset).toArray = ls at hl ⊢
  have hl : lv_has ls 2 [(0, .ref (G.2.2.1 5 0)), (1, .ref (G.2.2.2.2.1 a0))] := hl
  unfold f5_takeWord at h
  refine lv_aload_n hx hb dX5_takeWord_0 rfl (lv_at hl 0 rfl) ?_
  refine gg_5_0 hx hb hts in5 hown hK hI hv_this lk_12 dX5_takeWord_1 ?_
  refine lv_aload_n hx hb dX5_takeWord_4 rfl (lv_at hl 0 rfl) ?_
  refine gg_5_2 hx hb hts in5 hown hK hI hv_this lk_25 dX5_takeWord_5 ?_
  refine lv_aload_n hx hb dX5_takeWord_8 rfl (lv_at hl 1 rfl) ?_
  refine r_calli (va_runV (As := [.int (iI (st 5 2 0 0)), .ref (G.2.2.2.2.1 a0)]) (rest := []) ⟨hx, hb, hml, hown, hts⟩ (m7_isWord l G a0 (vrC_5_0 hv_this) hv_a0 _ st (st 5 2 0 0) h) (cwV 2 hts gX5_takeWord_X7_isWord rfl rfl rfl hd7_isWord ⟨Nat.le_of_ble_eq_true rfl, Nat.le_of_ble_eq_true rfl⟩) (pre_V hK hX hI hA hS (vrC_5_0 hv_this) rfl rfl [.int (iI (st 5 2 0 0)), .ref (G.2.2.2.2.1 a0)]) rfl rfl hl.1 rfl (lv_room (Nat.le_of_ble_eq_true rfl)) dX5_takeWord_9 ⟨Nat.le_of_ble_eq_true rfl, Nat.le_of_ble_eq_true rfl⟩) hS (fun z1 st2 h H locs hI hS => ?_)
  obtain ⟨g3, h⟩ := h
  refine r_if_ne (tgt := 33) hx hb dX5_takeWord_12 (by decide) g3 (fun c4 => ?_) (fun c4 => ?_)
  · replace h := h.2 c4
    refine lv_aload_n hx hb dX5_takeWord_33 rfl (lv_at hl 0 rfl) ?_
    refine lv_dup hx hb dX5_takeWord_34 rfl ?_
    refine gg_5_2 hx hb hts in5 hown hK hI hv_this lk_25 dX5_takeWord_35 ?_
    refine r_iconst (n := 1) hx hb dX5_takeWord_38 ?_
    refine r_iadd hx hb dX5_takeWord_39 ?_
    refine pp_5_2 hx hb hts in5 hown hK hI hS hv_this lk_25 dX5_takeWord_40 (fun st5 hst5 H locs hI hS => ?_)
    replace h := h st5 hst5
    refine r_iconst (n := 1) hx hb dX5_takeWord_43 ?_
    exact r_zret hx hb hr hlocks hK hI hS (Qp := Q) (by decide) h dX5_takeWord_44
  · replace h := h.1 c4
    refine lv_aload_n hx hb dX5_takeWord_15 rfl (lv_at hl 0 rfl) ?_
    refine r_bipush (n := (-2)) hx hb dX5_takeWord_16 rfl ?_
    refine lv_aload_n hx hb dX5_takeWord_18 rfl (lv_at hl 0 rfl) ?_
    refine gg_5_0 hx hb hts in5 hown hK hI hv_this lk_12 dX5_takeWord_19 ?_
    refine lv_aload_n hx hb dX5_takeWord_22 rfl (lv_at hl 0 rfl) ?_
    refine gg_5_2 hx hb hts in5 hown hK hI hv_this lk_25 dX5_takeWord_23 ?_
    refine r_calli (va_runV (As := [.int (iI (st2 5 2 0 0))]) (rest := [.int (iI (-2)), .ref (G.2.2.1 5 0)]) ⟨hx, hb, hml, hown, hts⟩ (m7_startOf l G (vrC_5_0 hv_this) _ st2 (st2 5 2 0 0) h) (cwV 1 hts gX5_takeWord_X7_startOf rfl rfl rfl hd7_startOf ⟨Nat.le_of_ble_eq_true rfl, Nat.le_of_ble_eq_true rfl⟩) (pre_V hK hX hI hA hS (vrC_5_0 hv_this) rfl rfl [.int (iI (st2 5 2 0 0))]) rfl rfl hl.1 rfl (lv_room (Nat.le_of_ble_eq_true rfl)) dX5_takeWord_26 ⟨Nat.le_of_ble_eq_true rfl, Nat.le_of_ble_eq_true rfl⟩) hS (fun z6 st7 h H locs hI hS => ?_)
    refine r_calli (va_runV (As := [.int (iI (-2)), .int (iI z6)]) (rest := []) ⟨hx, hb, hml, hown, hts⟩ (m5_fail l G hv_this _ st7 (-2) z6 h) (cwV 2 hts gX5_takeWord_X5_fail rfl rfl rfl hd5_fail ⟨Nat.le_of_ble_eq_true rfl, Nat.le_of_ble_eq_true rfl⟩) (pre_V hK hX hI hA hS hv_this rfl rfl [.int (iI (-2)), .int (iI z6)]) rfl rfl hl.1 rfl (lv_room (Nat.le_of_ble_eq_true rfl)) dX5_takeWord_29 ⟨Nat.le_of_ble_eq_true rfl, Nat.le_of_ble_eq_true rfl⟩) hS (fun z8 st9 h H locs hI hS => ?_)
    obtain ⟨g10, h⟩ := h
    exact r_zret hx hb hr hlocks hK hI hS (Qp := Q) g10 h dX5_takeWord_32
theorem hd7_kindOf : yX7_kindOf.cls = RX7 ∧ yX7_kindOf.cls ≠ "java/lang/invoke/MethodHandle" ∧ yX7_kindOf.cls ≠ "java/lang/invoke/VarHandle" ∧ (parseMethodDescriptor yX7_kindOf.desc).map (fun d => d.parameters.length) = some 1 := by decide +kernel
set_option maxHeartbeats 4000000 in
set_option maxRecDepth 100000 in
theorem m7_kindOf (l : Launch) (G : WG)   (hv_this : vC 7 0) (Q : Int → St → Prop) (st : St) (a0 : Int) (h : f7_kindOf Q st a0) : Met l yX7_kindOf wsX7_kindOf ({ frames := 0, cells := 0, slots := 0, locals := 0 }) (PcM vC G st [.ref (G.2.2.1 7 0), .int (iI a0)]) (QiM vC G Q) 0 0 G.2.2.2.1 := by
  refine Met.ofW (cc := cX7_kindOf) (maxL := 2) (ret := (some .int)) (by decide) rfl ?_
  intro p e s m args below meth c s₁ B hml hvv
  obtain ⟨rfl, hA, hI, hK, hX⟩ := hvv
  have hx := B.exec
  have hb := B.bytes
  have hr := B.returns
  have hts := atoms_spec (ws := wsX7_kindOf) B.pre
  have hown : s.vm.findClass RX7 = some m.cls := findClass_of_methodNamed B.named
  have hlocks := B.notSynchronized
  have hS : va_S G.2.2.2.1 s.heap s.heap [] := va_S.rf
  have in7 : ∀ w ∈ wsX70, w ∈ wsX7_kindOf := by decide +kernel
  have lk_19 := hts (.fieldLink RX7 19 "BeamLines$Text" "kinds" "[I") (by decide +kernel)
  have lk_32 := hts (.fieldLink RX7 32 "BeamLines$Text" "tokens" "I") (by decide +kernel)
  have hl := lv_entry ([.ref (G.2.2.1 7 0), .int (iI a0)]) (n := 2) (Nat.le_of_ble_eq_true rfl)
  rw [lg_entry_eq]
  generalize (lg_sl ([.ref (G.2.2.1 7 0), .int (iI a0)]) ++ List.replicate (2 - (lg_sl ([.ref (G.2.2.1 7 0), .int (iI a0)])).length) Slot.unset).toArray = ls at hl ⊢
  have hl : lv_has ls 2 [(0, .ref (G.2.2.1 7 0)), (1, .int (iI a0))] := hl
  unfold f7_kindOf at h
  refine lv_iload_n hx hb dX7_kindOf_0 rfl (lv_at hl 1 rfl) ?_
  obtain ⟨g1, h⟩ := h
  refine r_if_lt (tgt := 28) hx hb dX7_kindOf_1 (by decide) g1 (fun c2 => ?_) (fun c2 => ?_)
  · replace h := h.1 c2
    refine r_iconst (n := 0) hx hb dX7_kindOf_28 ?_
    exact r_iret hx hb hr hlocks hK hI hS (Qp := Q) h dX7_kindOf_29
  · replace h := h.2 c2
    refine lv_iload_n hx hb dX7_kindOf_4 rfl (lv_at hl 1 rfl) ?_
    refine lv_aload_n hx hb dX7_kindOf_5 rfl (lv_at hl 0 rfl) ?_
    refine gg_7_6 hx hb hts in7 hown hK hI hv_this lk_32 dX7_kindOf_6 ?_
    obtain ⟨g3, h⟩ := h
    obtain ⟨g4, h⟩ := h
    refine r_icmp_ge (tgt := 28) hx hb dX7_kindOf_9 (by decide) g3 g4 (fun c5 => ?_) (fun c5 => ?_)
    · replace h := h.1 c5
      refine r_iconst (n := 0) hx hb dX7_kindOf_28 ?_
      exact r_iret hx hb hr hlocks hK hI hS (Qp := Q) h dX7_kindOf_29
    · replace h := h.2 c5
      refine lv_iload_n hx hb dX7_kindOf_12 rfl (lv_at hl 1 rfl) ?_
      refine r_sipush (n := 500) hx hb dX7_kindOf_13 rfl ?_
      obtain ⟨g6, h⟩ := h
      refine r_icmp_ge (tgt := 28) hx hb dX7_kindOf_16 (by decide) g6 (inI_mk rfl) (fun c7 => ?_) (fun c7 => ?_)
      · replace h := h.1 c7
        refine r_iconst (n := 0) hx hb dX7_kindOf_28 ?_
        exact r_iret hx hb hr hlocks hK hI hS (Qp := Q) h dX7_kindOf_29
      · replace h := h.2 c7
        refine lv_aload_n hx hb dX7_kindOf_19 rfl (lv_at hl 0 rfl) ?_
        refine gg_7_2 hx hb hts in7 hown hK hI hv_this lk_19 dX7_kindOf_20 ?_
        refine lv_iload_n hx hb dX7_kindOf_23 rfl (lv_at hl 1 rfl) ?_
        obtain ⟨g8, g9, h⟩ := h
        refine r_iald hx hb hK hI (K := 22) (vrC_7_2 hv_this) rfl (lts_mk rfl) dX7_kindOf_24 g8 g9 ?_
        refine lv_goto (tgt := 29) hx hb dX7_kindOf_25 (by decide) ?_
        exact r_iret hx hb hr hlocks hK hI hS (Qp := Q) h dX7_kindOf_29
theorem hd7_valueOf : yX7_valueOf.cls = RX7 ∧ yX7_valueOf.cls ≠ "java/lang/invoke/MethodHandle" ∧ yX7_valueOf.cls ≠ "java/lang/invoke/VarHandle" ∧ (parseMethodDescriptor yX7_valueOf.desc).map (fun d => d.parameters.length) = some 1 := by decide +kernel
set_option maxHeartbeats 4000000 in
set_option maxRecDepth 100000 in
theorem m7_valueOf (l : Launch) (G : WG)   (hv_this : vC 7 0) (Q : Int → St → Prop) (st : St) (a0 : Int) (h : f7_valueOf Q st a0) : Met l yX7_valueOf wsX7_valueOf ({ frames := 0, cells := 0, slots := 0, locals := 0 }) (PcM vC G st [.ref (G.2.2.1 7 0), .int (iI a0)]) (QiM vC G Q) 0 0 G.2.2.2.1 := by
  refine Met.ofW (cc := cX7_valueOf) (maxL := 2) (ret := (some .int)) (by decide) rfl ?_
  intro p e s m args below meth c s₁ B hml hvv
  obtain ⟨rfl, hA, hI, hK, hX⟩ := hvv
  have hx := B.exec
  have hb := B.bytes
  have hr := B.returns
  have hts := atoms_spec (ws := wsX7_valueOf) B.pre
  have hown : s.vm.findClass RX7 = some m.cls := findClass_of_methodNamed B.named
  have hlocks := B.notSynchronized
  have hS : va_S G.2.2.2.1 s.heap s.heap [] := va_S.rf
  have in7 : ∀ w ∈ wsX70, w ∈ wsX7_valueOf := by decide +kernel
  have lk_29 := hts (.fieldLink RX7 29 "BeamLines$Text" "values" "[I") (by decide +kernel)
  have lk_32 := hts (.fieldLink RX7 32 "BeamLines$Text" "tokens" "I") (by decide +kernel)
  have hl := lv_entry ([.ref (G.2.2.1 7 0), .int (iI a0)]) (n := 2) (Nat.le_of_ble_eq_true rfl)
  rw [lg_entry_eq]
  generalize (lg_sl ([.ref (G.2.2.1 7 0), .int (iI a0)]) ++ List.replicate (2 - (lg_sl ([.ref (G.2.2.1 7 0), .int (iI a0)])).length) Slot.unset).toArray = ls at hl ⊢
  have hl : lv_has ls 2 [(0, .ref (G.2.2.1 7 0)), (1, .int (iI a0))] := hl
  unfold f7_valueOf at h
  refine lv_iload_n hx hb dX7_valueOf_0 rfl (lv_at hl 1 rfl) ?_
  obtain ⟨g1, h⟩ := h
  refine r_if_lt (tgt := 28) hx hb dX7_valueOf_1 (by decide) g1 (fun c2 => ?_) (fun c2 => ?_)
  · replace h := h.1 c2
    refine r_iconst (n := 0) hx hb dX7_valueOf_28 ?_
    exact r_iret hx hb hr hlocks hK hI hS (Qp := Q) h dX7_valueOf_29
  · replace h := h.2 c2
    refine lv_iload_n hx hb dX7_valueOf_4 rfl (lv_at hl 1 rfl) ?_
    refine lv_aload_n hx hb dX7_valueOf_5 rfl (lv_at hl 0 rfl) ?_
    refine gg_7_6 hx hb hts in7 hown hK hI hv_this lk_32 dX7_valueOf_6 ?_
    obtain ⟨g3, h⟩ := h
    obtain ⟨g4, h⟩ := h
    refine r_icmp_ge (tgt := 28) hx hb dX7_valueOf_9 (by decide) g3 g4 (fun c5 => ?_) (fun c5 => ?_)
    · replace h := h.1 c5
      refine r_iconst (n := 0) hx hb dX7_valueOf_28 ?_
      exact r_iret hx hb hr hlocks hK hI hS (Qp := Q) h dX7_valueOf_29
    · replace h := h.2 c5
      refine lv_iload_n hx hb dX7_valueOf_12 rfl (lv_at hl 1 rfl) ?_
      refine r_sipush (n := 500) hx hb dX7_valueOf_13 rfl ?_
      obtain ⟨g6, h⟩ := h
      refine r_icmp_ge (tgt := 28) hx hb dX7_valueOf_16 (by decide) g6 (inI_mk rfl) (fun c7 => ?_) (fun c7 => ?_)
      · replace h := h.1 c7
        refine r_iconst (n := 0) hx hb dX7_valueOf_28 ?_
        exact r_iret hx hb hr hlocks hK hI hS (Qp := Q) h dX7_valueOf_29
      · replace h := h.2 c7
        refine lv_aload_n hx hb dX7_valueOf_19 rfl (lv_at hl 0 rfl) ?_
        refine gg_7_5 hx hb hts in7 hown hK hI hv_this lk_29 dX7_valueOf_20 ?_
        refine lv_iload_n hx hb dX7_valueOf_23 rfl (lv_at hl 1 rfl) ?_
        obtain ⟨g8, g9, h⟩ := h
        refine r_iald hx hb hK hI (K := 25) (vrC_7_5 hv_this) rfl (lts_mk rfl) dX7_valueOf_24 g8 g9 ?_
        refine lv_goto (tgt := 29) hx hb dX7_valueOf_25 (by decide) ?_
        exact r_iret hx hb hr hlocks hK hI hS (Qp := Q) h dX7_valueOf_29
theorem hd5_takeNumber : yX5_takeNumber.cls = RX5 ∧ yX5_takeNumber.cls ≠ "java/lang/invoke/MethodHandle" ∧ yX5_takeNumber.cls ≠ "java/lang/invoke/VarHandle" ∧ (parseMethodDescriptor yX5_takeNumber.desc).map (fun d => d.parameters.length) = some 2 := by decide +kernel
set_option maxHeartbeats 4000000 in
set_option maxRecDepth 100000 in
theorem m5_takeNumber (l : Launch) (G : WG)   (hv_this : vC 5 0) (Q : Int → St → Prop) (st : St) (a0 : Int) (a1 : Int) (h : f5_takeNumber Q st a0 a1) : Met l yX5_takeNumber wsX5_takeNumber ({ frames := 1, cells := 0, slots := 0, locals := 22 }) (PcM vC G st [.ref (G.2.2.1 5 0), .int (iI a0), .int (iI a1)]) (QiM vC G Q) 0 0 G.2.2.2.1 := by
  refine Met.ofW (cc := cX5_takeNumber) (maxL := 4) (ret := (some .int)) (by decide) rfl ?_
  intro p e s m args below meth c s₁ B hml hvv
  obtain ⟨rfl, hA, hI, hK, hX⟩ := hvv
  have hx := B.exec
  have hb := B.bytes
  have hr := B.returns
  have hts := atoms_spec (ws := wsX5_takeNumber) B.pre
  have hown : s.vm.findClass RX5 = some m.cls := findClass_of_methodNamed B.named
  have hlocks := B.notSynchronized
  have hS : va_S G.2.2.2.1 s.heap s.heap [] := va_S.rf
  have in5 : ∀ w ∈ wsX50, w ∈ wsX5_takeNumber := by decide +kernel
  have lk_12 := hts (.fieldLink RX5 12 "BeamLines$Reader" "text" "LBeamLines$Text;") (by decide +kernel)
  have lk_25 := hts (.fieldLink RX5 25 "BeamLines$Reader" "token" "I") (by decide +kernel)
  have hl := lv_entry ([.ref (G.2.2.1 5 0), .int (iI a0), .int (iI a1)]) (n := 4) (Nat.le_of_ble_eq_true rfl)
  rw [lg_entry_eq]
  generalize (lg_sl ([.ref (G.2.2.1 5 0), .int (iI a0), .int (iI a1)]) ++ List.replicate (4 - (lg_sl ([.ref (G.2.2.1 5 0), .int (iI a0), .int (iI a1)])).length) Slot.unset).toArray = ls at hl ⊢
  have hl : lv_has ls 4 [(0, .ref (G.2.2.1 5 0)), (1, .int (iI a0)), (2, .int (iI a1))] := hl
  have J57 : ∀ (st : St) (H : Heap) (locs : List Loc) (ls : Array Slot), Iv vC G st H → va_S G.2.2.2.1 s.heap H locs → lv_has ls 4 [(0, .ref (G.2.2.1 5 0))] → f5_takeNumber_j57 Q st → W p l e (headSpec wsX5_takeNumber ({ frames := 1, cells := 0, slots := 0, locals := 22 })).room s m ([.ref (G.2.2.1 5 0), .int (iI a0), .int (iI a1)] : List Value).toArray below meth c H locs 0 0 (MQ below (QiM vC G Q) ([.ref (G.2.2.1 5 0), .int (iI a0), .int (iI a1)] : List Value).toArray s 0 0 G.2.2.2.1) (F0 m 57 ls []) := by
    intro st H locs ls hI hS hl h
    unfold f5_takeNumber_j57 at h
    refine lv_aload_n hx hb dX5_takeNumber_57 rfl (lv_at hl 0 rfl) ?_
    refine r_bipush (n := (-3)) hx hb dX5_takeNumber_58 rfl ?_
    refine lv_aload_n hx hb dX5_takeNumber_60 rfl (lv_at hl 0 rfl) ?_
    refine gg_5_0 hx hb hts in5 hown hK hI hv_this lk_12 dX5_takeNumber_61 ?_
    refine lv_aload_n hx hb dX5_takeNumber_64 rfl (lv_at hl 0 rfl) ?_
    refine gg_5_2 hx hb hts in5 hown hK hI hv_this lk_25 dX5_takeNumber_65 ?_
    refine r_calli (va_runV (As := [.int (iI (st 5 2 0 0))]) (rest := [.int (iI (-3)), .ref (G.2.2.1 5 0)]) ⟨hx, hb, hml, hown, hts⟩ (m7_startOf l G (vrC_5_0 hv_this) _ st (st 5 2 0 0) h) (cwV 1 hts gX5_takeNumber_X7_startOf rfl rfl rfl hd7_startOf ⟨Nat.le_of_ble_eq_true rfl, Nat.le_of_ble_eq_true rfl⟩) (pre_V hK hX hI hA hS (vrC_5_0 hv_this) rfl rfl [.int (iI (st 5 2 0 0))]) rfl rfl hl.1 rfl (lv_room (Nat.le_of_ble_eq_true rfl)) dX5_takeNumber_68 ⟨Nat.le_of_ble_eq_true rfl, Nat.le_of_ble_eq_true rfl⟩) hS (fun z18 st19 h H locs hI hS => ?_)
    refine r_calli (va_runV (As := [.int (iI (-3)), .int (iI z18)]) (rest := []) ⟨hx, hb, hml, hown, hts⟩ (m5_fail l G hv_this _ st19 (-3) z18 h) (cwV 2 hts gX5_takeNumber_X5_fail rfl rfl rfl hd5_fail ⟨Nat.le_of_ble_eq_true rfl, Nat.le_of_ble_eq_true rfl⟩) (pre_V hK hX hI hA hS hv_this rfl rfl [.int (iI (-3)), .int (iI z18)]) rfl rfl hl.1 rfl (lv_room (Nat.le_of_ble_eq_true rfl)) dX5_takeNumber_71 ⟨Nat.le_of_ble_eq_true rfl, Nat.le_of_ble_eq_true rfl⟩) hS (fun z20 st21 h H locs hI hS => ?_)
    refine lv_pop hx hb dX5_takeNumber_74 rfl ?_
    refine r_iconst (n := (-1)) hx hb dX5_takeNumber_75 ?_
    exact r_iret hx hb hr hlocks hK hI hS (Qp := Q) h dX5_takeNumber_76
  unfold f5_takeNumber at h
  refine lv_aload_n hx hb dX5_takeNumber_0 rfl (lv_at hl 0 rfl) ?_
  refine gg_5_0 hx hb hts in5 hown hK hI hv_this lk_12 dX5_takeNumber_1 ?_
  refine lv_aload_n hx hb dX5_takeNumber_4 rfl (lv_at hl 0 rfl) ?_
  refine gg_5_2 hx hb hts in5 hown hK hI hv_this lk_25 dX5_takeNumber_5 ?_
  refine r_calli (va_runV (As := [.int (iI (st 5 2 0 0))]) (rest := []) ⟨hx, hb, hml, hown, hts⟩ (m7_kindOf l G (vrC_5_0 hv_this) _ st (st 5 2 0 0) h) (cwV 1 hts gX5_takeNumber_X7_kindOf rfl rfl rfl hd7_kindOf ⟨Nat.le_of_ble_eq_true rfl, Nat.le_of_ble_eq_true rfl⟩) (pre_V hK hX hI hA hS (vrC_5_0 hv_this) rfl rfl [.int (iI (st 5 2 0 0))]) rfl rfl hl.1 rfl (lv_room (Nat.le_of_ble_eq_true rfl)) dX5_takeNumber_8 ⟨Nat.le_of_ble_eq_true rfl, Nat.le_of_ble_eq_true rfl⟩) hS (fun z1 st2 h H locs hI hS => ?_)
  refine r_iconst (n := 2) hx hb dX5_takeNumber_11 ?_
  obtain ⟨g3, h⟩ := h
  refine r_icmp_eq (tgt := 35) hx hb dX5_takeNumber_12 (by decide) g3 (inI_mk rfl) (fun c4 => ?_) (fun c4 => ?_)
  · replace h := h.1 c4
    refine lv_aload_n hx hb dX5_takeNumber_35 rfl (lv_at hl 0 rfl) ?_
    refine gg_5_0 hx hb hts in5 hown hK hI hv_this lk_12 dX5_takeNumber_36 ?_
    refine lv_aload_n hx hb dX5_takeNumber_39 rfl (lv_at hl 0 rfl) ?_
    refine gg_5_2 hx hb hts in5 hown hK hI hv_this lk_25 dX5_takeNumber_40 ?_
    refine r_calli (va_runV (As := [.int (iI (st2 5 2 0 0))]) (rest := []) ⟨hx, hb, hml, hown, hts⟩ (m7_valueOf l G (vrC_5_0 hv_this) _ st2 (st2 5 2 0 0) h) (cwV 1 hts gX5_takeNumber_X7_valueOf rfl rfl rfl hd7_valueOf ⟨Nat.le_of_ble_eq_true rfl, Nat.le_of_ble_eq_true rfl⟩) (pre_V hK hX hI hA hS (vrC_5_0 hv_this) rfl rfl [.int (iI (st2 5 2 0 0))]) rfl rfl hl.1 rfl (lv_room (Nat.le_of_ble_eq_true rfl)) dX5_takeNumber_43 ⟨Nat.le_of_ble_eq_true rfl, Nat.le_of_ble_eq_true rfl⟩) hS (fun z5 st6 h H locs hI hS => ?_)
    refine lv_istore_n (lv' := [(3, .int (iI z5)), (0, .ref (G.2.2.1 5 0)), (1, .int (iI a0)), (2, .int (iI a1))]) hx hb dX5_takeNumber_46 rfl hl (by decide) rfl (fun ls hl => ?_)
    refine lv_iload_n hx hb dX5_takeNumber_47 rfl (lv_at hl 0 rfl) ?_
    refine lv_iload_n hx hb dX5_takeNumber_48 rfl (lv_at hl 2 rfl) ?_
    obtain ⟨g7, h⟩ := h
    obtain ⟨g8, h⟩ := h
    refine r_icmp_lt (tgt := 57) hx hb dX5_takeNumber_49 (by decide) g7 g8 (fun c9 => ?_) (fun c9 => ?_)
    · replace h := h.1 c9
      exact J57 st6  _ _ ls hI hS (lv_sub hl [1] rfl) h
    · replace h := h.2 c9
      refine lv_iload_n hx hb dX5_takeNumber_52 rfl (lv_at hl 0 rfl) ?_
      refine lv_iload_n hx hb dX5_takeNumber_53 rfl (lv_at hl 3 rfl) ?_
      obtain ⟨g10, h⟩ := h
      obtain ⟨g11, h⟩ := h
      refine r_icmp_le (tgt := 77) hx hb dX5_takeNumber_54 (by decide) g10 g11 (fun c12 => ?_) (fun c12 => ?_)
      · replace h := h.1 c12
        refine lv_aload_n hx hb dX5_takeNumber_77 rfl (lv_at hl 1 rfl) ?_
        refine lv_dup hx hb dX5_takeNumber_78 rfl ?_
        refine gg_5_2 hx hb hts in5 hown hK hI hv_this lk_25 dX5_takeNumber_79 ?_
        refine r_iconst (n := 1) hx hb dX5_takeNumber_82 ?_
        refine r_iadd hx hb dX5_takeNumber_83 ?_
        refine pp_5_2 hx hb hts in5 hown hK hI hS hv_this lk_25 dX5_takeNumber_84 (fun st13 hst13 H locs hI hS => ?_)
        replace h := h st13 hst13
        refine lv_iload_n hx hb dX5_takeNumber_87 rfl (lv_at hl 0 rfl) ?_
        exact r_iret hx hb hr hlocks hK hI hS (Qp := Q) h dX5_takeNumber_88
      · replace h := h.2 c12
        exact J57 st6  _ _ ls hI hS (lv_sub hl [1] rfl) h
  · replace h := h.2 c4
    refine lv_aload_n hx hb dX5_takeNumber_15 rfl (lv_at hl 0 rfl) ?_
    refine r_bipush (n := (-2)) hx hb dX5_takeNumber_16 rfl ?_
    refine lv_aload_n hx hb dX5_takeNumber_18 rfl (lv_at hl 0 rfl) ?_
    refine gg_5_0 hx hb hts in5 hown hK hI hv_this lk_12 dX5_takeNumber_19 ?_
    refine lv_aload_n hx hb dX5_takeNumber_22 rfl (lv_at hl 0 rfl) ?_
    refine gg_5_2 hx hb hts in5 hown hK hI hv_this lk_25 dX5_takeNumber_23 ?_
    refine r_calli (va_runV (As := [.int (iI (st2 5 2 0 0))]) (rest := [.int (iI (-2)), .ref (G.2.2.1 5 0)]) ⟨hx, hb, hml, hown, hts⟩ (m7_startOf l G (vrC_5_0 hv_this) _ st2 (st2 5 2 0 0) h) (cwV 1 hts gX5_takeNumber_X7_startOf rfl rfl rfl hd7_startOf ⟨Nat.le_of_ble_eq_true rfl, Nat.le_of_ble_eq_true rfl⟩) (pre_V hK hX hI hA hS (vrC_5_0 hv_this) rfl rfl [.int (iI (st2 5 2 0 0))]) rfl rfl hl.1 rfl (lv_room (Nat.le_of_ble_eq_true rfl)) dX5_takeNumber_26 ⟨Nat.le_of_ble_eq_true rfl, Nat.le_of_ble_eq_true rfl⟩) hS (fun z14 st15 h H locs hI hS => ?_)
    refine r_calli (va_runV (As := [.int (iI (-2)), .int (iI z14)]) (rest := []) ⟨hx, hb, hml, hown, hts⟩ (m5_fail l G hv_this _ st15 (-2) z14 h) (cwV 2 hts gX5_takeNumber_X5_fail rfl rfl rfl hd5_fail ⟨Nat.le_of_ble_eq_true rfl, Nat.le_of_ble_eq_true rfl⟩) (pre_V hK hX hI hA hS hv_this rfl rfl [.int (iI (-2)), .int (iI z14)]) rfl rfl hl.1 rfl (lv_room (Nat.le_of_ble_eq_true rfl)) dX5_takeNumber_29 ⟨Nat.le_of_ble_eq_true rfl, Nat.le_of_ble_eq_true rfl⟩) hS (fun z16 st17 h H locs hI hS => ?_)
    refine lv_pop hx hb dX5_takeNumber_32 rfl ?_
    refine r_iconst (n := (-1)) hx hb dX5_takeNumber_33 ?_
    exact r_iret hx hb hr hlocks hK hI hS (Qp := Q) h dX5_takeNumber_34
theorem hd5_takeSemicolon : yX5_takeSemicolon.cls = RX5 ∧ yX5_takeSemicolon.cls ≠ "java/lang/invoke/MethodHandle" ∧ yX5_takeSemicolon.cls ≠ "java/lang/invoke/VarHandle" ∧ (parseMethodDescriptor yX5_takeSemicolon.desc).map (fun d => d.parameters.length) = some 0 := by decide +kernel
set_option maxHeartbeats 4000000 in
set_option maxRecDepth 100000 in
theorem m5_takeSemicolon (l : Launch) (G : WG)   (hv_this : vC 5 0) (Q : Int → St → Prop) (st : St)  (h : f5_takeSemicolon Q st) : Met l yX5_takeSemicolon wsX5_takeSemicolon ({ frames := 1, cells := 0, slots := 0, locals := 22 }) (PcM vC G st [.ref (G.2.2.1 5 0)]) (QiM vC G Q) 0 0 G.2.2.2.1 := by
  refine Met.ofW (cc := cX5_takeSemicolon) (maxL := 1) (ret := (some .boolean)) (by decide) rfl ?_
  intro p e s m args below meth c s₁ B hml hvv
  obtain ⟨rfl, hA, hI, hK, hX⟩ := hvv
  have hx := B.exec
  have hb := B.bytes
  have hr := B.returns
  have hts := atoms_spec (ws := wsX5_takeSemicolon) B.pre
  have hown : s.vm.findClass RX5 = some m.cls := findClass_of_methodNamed B.named
  have hlocks := B.notSynchronized
  have hS : va_S G.2.2.2.1 s.heap s.heap [] := va_S.rf
  have in5 : ∀ w ∈ wsX50, w ∈ wsX5_takeSemicolon := by decide +kernel
  have lk_12 := hts (.fieldLink RX5 12 "BeamLines$Reader" "text" "LBeamLines$Text;") (by decide +kernel)
  have lk_25 := hts (.fieldLink RX5 25 "BeamLines$Reader" "token" "I") (by decide +kernel)
  have hl := lv_entry ([.ref (G.2.2.1 5 0)]) (n := 1) (Nat.le_of_ble_eq_true rfl)
  rw [lg_entry_eq]
  generalize (lg_sl ([.ref (G.2.2.1 5 0)]) ++ List.replicate (1 - (lg_sl ([.ref (G.2.2.1 5 0)])).length) Slot.unset).toArray = ls at hl ⊢
  have hl : lv_has ls 1 [(0, .ref (G.2.2.1 5 0))] := hl
  unfold f5_takeSemicolon at h
  refine lv_aload_n hx hb dX5_takeSemicolon_0 rfl (lv_at hl 0 rfl) ?_
  refine gg_5_0 hx hb hts in5 hown hK hI hv_this lk_12 dX5_takeSemicolon_1 ?_
  refine lv_aload_n hx hb dX5_takeSemicolon_4 rfl (lv_at hl 0 rfl) ?_
  refine gg_5_2 hx hb hts in5 hown hK hI hv_this lk_25 dX5_takeSemicolon_5 ?_
  refine r_calli (va_runV (As := [.int (iI (st 5 2 0 0))]) (rest := []) ⟨hx, hb, hml, hown, hts⟩ (m7_kindOf l G (vrC_5_0 hv_this) _ st (st 5 2 0 0) h) (cwV 1 hts gX5_takeSemicolon_X7_kindOf rfl rfl rfl hd7_kindOf ⟨Nat.le_of_ble_eq_true rfl, Nat.le_of_ble_eq_true rfl⟩) (pre_V hK hX hI hA hS (vrC_5_0 hv_this) rfl rfl [.int (iI (st 5 2 0 0))]) rfl rfl hl.1 rfl (lv_room (Nat.le_of_ble_eq_true rfl)) dX5_takeSemicolon_8 ⟨Nat.le_of_ble_eq_true rfl, Nat.le_of_ble_eq_true rfl⟩) hS (fun z1 st2 h H locs hI hS => ?_)
  refine r_iconst (n := 3) hx hb dX5_takeSemicolon_11 ?_
  obtain ⟨g3, h⟩ := h
  refine r_icmp_eq (tgt := 33) hx hb dX5_takeSemicolon_12 (by decide) g3 (inI_mk rfl) (fun c4 => ?_) (fun c4 => ?_)
  · replace h := h.1 c4
    refine lv_aload_n hx hb dX5_takeSemicolon_33 rfl (lv_at hl 0 rfl) ?_
    refine lv_dup hx hb dX5_takeSemicolon_34 rfl ?_
    refine gg_5_2 hx hb hts in5 hown hK hI hv_this lk_25 dX5_takeSemicolon_35 ?_
    refine r_iconst (n := 1) hx hb dX5_takeSemicolon_38 ?_
    refine r_iadd hx hb dX5_takeSemicolon_39 ?_
    refine pp_5_2 hx hb hts in5 hown hK hI hS hv_this lk_25 dX5_takeSemicolon_40 (fun st5 hst5 H locs hI hS => ?_)
    replace h := h st5 hst5
    refine r_iconst (n := 1) hx hb dX5_takeSemicolon_43 ?_
    exact r_zret hx hb hr hlocks hK hI hS (Qp := Q) (by decide) h dX5_takeSemicolon_44
  · replace h := h.2 c4
    refine lv_aload_n hx hb dX5_takeSemicolon_15 rfl (lv_at hl 0 rfl) ?_
    refine r_bipush (n := (-2)) hx hb dX5_takeSemicolon_16 rfl ?_
    refine lv_aload_n hx hb dX5_takeSemicolon_18 rfl (lv_at hl 0 rfl) ?_
    refine gg_5_0 hx hb hts in5 hown hK hI hv_this lk_12 dX5_takeSemicolon_19 ?_
    refine lv_aload_n hx hb dX5_takeSemicolon_22 rfl (lv_at hl 0 rfl) ?_
    refine gg_5_2 hx hb hts in5 hown hK hI hv_this lk_25 dX5_takeSemicolon_23 ?_
    refine r_calli (va_runV (As := [.int (iI (st2 5 2 0 0))]) (rest := [.int (iI (-2)), .ref (G.2.2.1 5 0)]) ⟨hx, hb, hml, hown, hts⟩ (m7_startOf l G (vrC_5_0 hv_this) _ st2 (st2 5 2 0 0) h) (cwV 1 hts gX5_takeSemicolon_X7_startOf rfl rfl rfl hd7_startOf ⟨Nat.le_of_ble_eq_true rfl, Nat.le_of_ble_eq_true rfl⟩) (pre_V hK hX hI hA hS (vrC_5_0 hv_this) rfl rfl [.int (iI (st2 5 2 0 0))]) rfl rfl hl.1 rfl (lv_room (Nat.le_of_ble_eq_true rfl)) dX5_takeSemicolon_26 ⟨Nat.le_of_ble_eq_true rfl, Nat.le_of_ble_eq_true rfl⟩) hS (fun z6 st7 h H locs hI hS => ?_)
    refine r_calli (va_runV (As := [.int (iI (-2)), .int (iI z6)]) (rest := []) ⟨hx, hb, hml, hown, hts⟩ (m5_fail l G hv_this _ st7 (-2) z6 h) (cwV 2 hts gX5_takeSemicolon_X5_fail rfl rfl rfl hd5_fail ⟨Nat.le_of_ble_eq_true rfl, Nat.le_of_ble_eq_true rfl⟩) (pre_V hK hX hI hA hS hv_this rfl rfl [.int (iI (-2)), .int (iI z6)]) rfl rfl hl.1 rfl (lv_room (Nat.le_of_ble_eq_true rfl)) dX5_takeSemicolon_29 ⟨Nat.le_of_ble_eq_true rfl, Nat.le_of_ble_eq_true rfl⟩) hS (fun z8 st9 h H locs hI hS => ?_)
    obtain ⟨g10, h⟩ := h
    exact r_zret hx hb hr hlocks hK hI hS (Qp := Q) g10 h dX5_takeSemicolon_32
theorem hd5_readHead : yX5_readHead.cls = RX5 ∧ yX5_readHead.cls ≠ "java/lang/invoke/MethodHandle" ∧ yX5_readHead.cls ≠ "java/lang/invoke/VarHandle" ∧ (parseMethodDescriptor yX5_readHead.desc).map (fun d => d.parameters.length) = some 0 := by decide +kernel
set_option maxHeartbeats 4000000 in
set_option maxRecDepth 100000 in
theorem m5_readHead (l : Launch) (G : WG)   (hv_this : vC 5 0) (Q : Int → St → Prop) (st : St)  (h : f5_readHead Q st) : Met l yX5_readHead wsX5_readHead ({ frames := 6, cells := 0, slots := 0, locals := 134 }) (PcM vC G st [.ref (G.2.2.1 5 0)]) (QiM vC G Q) 0 0 G.2.2.2.1 := by
  refine Met.ofW (cc := cX5_readHead) (maxL := 3) (ret := (some .boolean)) (by decide) rfl ?_
  intro p e s m args below meth c s₁ B hml hvv
  obtain ⟨rfl, hA, hI, hK, hX⟩ := hvv
  have hx := B.exec
  have hb := B.bytes
  have hr := B.returns
  have hts := atoms_spec (ws := wsX5_readHead) B.pre
  have hown : s.vm.findClass RX5 = some m.cls := findClass_of_methodNamed B.named
  have hlocks := B.notSynchronized
  have hS : va_S G.2.2.2.1 s.heap s.heap [] := va_S.rf
  have in0 : ∀ w ∈ wsX00, w ∈ wsX5_readHead := by decide +kernel
  have in5 : ∀ w ∈ wsX50, w ∈ wsX5_readHead := by decide +kernel
  have lk_21 := hts (.fieldLink RX5 21 "BeamLines$Reader" "beam" "LBeamLines$Beam;") (by decide +kernel)
  have lk_70 := hts (.fieldLink RX5 70 "BeamLines$Beam" "length" "I") (by decide +kernel)
  have lk_73 := hts (.fieldLink RX5 73 "BeamLines$Beam" "most" "I") (by decide +kernel)
  have kc_69 : (Jvm.Cond.constant RX5 69 (iI 999999)).before _ s = true := hts (.constant RX5 69 999999) (by decide +kernel)
  have hl := lv_entry ([.ref (G.2.2.1 5 0)]) (n := 3) (Nat.le_of_ble_eq_true rfl)
  rw [lg_entry_eq]
  generalize (lg_sl ([.ref (G.2.2.1 5 0)]) ++ List.replicate (3 - (lg_sl ([.ref (G.2.2.1 5 0)])).length) Slot.unset).toArray = ls at hl ⊢
  have hl : lv_has ls 3 [(0, .ref (G.2.2.1 5 0))] := hl
  unfold f5_readHead at h
  refine lv_aload_n hx hb dX5_readHead_0 rfl (lv_at hl 0 rfl) ?_
  refine va_ldcS hx hb hown (hX.2.2.2.2.2.2.1 ("BeamLines$Reader", 58, "beam", 0) (by decide)) dX5_readHead_1 ?_
  refine r_calli (va_runV (As := [.ref (G.2.2.2.2.1 0)]) (rest := []) ⟨hx, hb, hml, hown, hts⟩ (m5_takeWord l G 0 hv_this (by decide) _ st h) (cwV 1 hts gX5_readHead_X5_takeWord rfl rfl rfl hd5_takeWord ⟨Nat.le_of_ble_eq_true rfl, Nat.le_of_ble_eq_true rfl⟩) (pre_V hK hX hI hA hS hv_this rfl rfl [.ref (G.2.2.2.2.1 0)]) rfl rfl hl.1 rfl (lv_room (Nat.le_of_ble_eq_true rfl)) dX5_readHead_3 ⟨Nat.le_of_ble_eq_true rfl, Nat.le_of_ble_eq_true rfl⟩) hS (fun z1 st2 h H locs hI hS => ?_)
  obtain ⟨g3, h⟩ := h
  refine r_if_ne (tgt := 11) hx hb dX5_readHead_6 (by decide) g3 (fun c4 => ?_) (fun c4 => ?_)
  · replace h := h.2 c4
    refine lv_aload_n hx hb dX5_readHead_11 rfl (lv_at hl 0 rfl) ?_
    refine r_iconst (n := 2) hx hb dX5_readHead_12 ?_
    refine r_bipush (n := 30) hx hb dX5_readHead_13 rfl ?_
    refine r_calli (va_runV (As := [.int (iI 2), .int (iI 30)]) (rest := []) ⟨hx, hb, hml, hown, hts⟩ (m5_takeNumber l G hv_this _ st2 2 30 h) (cwV 2 hts gX5_readHead_X5_takeNumber rfl rfl rfl hd5_takeNumber ⟨Nat.le_of_ble_eq_true rfl, Nat.le_of_ble_eq_true rfl⟩) (pre_V hK hX hI hA hS hv_this rfl rfl [.int (iI 2), .int (iI 30)]) rfl rfl hl.1 rfl (lv_room (Nat.le_of_ble_eq_true rfl)) dX5_readHead_15 ⟨Nat.le_of_ble_eq_true rfl, Nat.le_of_ble_eq_true rfl⟩) hS (fun z5 st6 h H locs hI hS => ?_)
    refine lv_istore_n (lv' := [(1, .int (iI z5)), (0, .ref (G.2.2.1 5 0))]) hx hb dX5_readHead_18 rfl hl (by decide) rfl (fun ls hl => ?_)
    refine lv_iload_n hx hb dX5_readHead_19 rfl (lv_at hl 0 rfl) ?_
    refine r_iconst (n := (-1)) hx hb dX5_readHead_20 ?_
    obtain ⟨g7, h⟩ := h
    refine r_icmp_eq (tgt := 33) hx hb dX5_readHead_21 (by decide) g7 (inI_mk rfl) (fun c8 => ?_) (fun c8 => ?_)
    · replace h := h.1 c8
      refine r_iconst (n := 0) hx hb dX5_readHead_33 ?_
      exact r_zret hx hb hr hlocks hK hI hS (Qp := Q) (by decide) h dX5_readHead_34
    · replace h := h.2 c8
      refine lv_aload_n hx hb dX5_readHead_24 rfl (lv_at hl 1 rfl) ?_
      refine va_ldcS hx hb hown (hX.2.2.2.2.2.2.1 ("BeamLines$Reader", 67, "most", 1) (by decide)) dX5_readHead_25 ?_
      refine r_calli (va_runV (As := [.ref (G.2.2.2.2.1 1)]) (rest := []) ⟨hx, hb, hml, hown, hts⟩ (m5_takeWord l G 1 hv_this (by decide) _ st6 h) (cwV 1 hts gX5_readHead_X5_takeWord rfl rfl rfl hd5_takeWord ⟨Nat.le_of_ble_eq_true rfl, Nat.le_of_ble_eq_true rfl⟩) (pre_V hK hX hI hA hS hv_this rfl rfl [.ref (G.2.2.2.2.1 1)]) rfl rfl hl.1 rfl (lv_room (Nat.le_of_ble_eq_true rfl)) dX5_readHead_27 ⟨Nat.le_of_ble_eq_true rfl, Nat.le_of_ble_eq_true rfl⟩) hS (fun z9 st10 h H locs hI hS => ?_)
      obtain ⟨g11, h⟩ := h
      refine r_if_ne (tgt := 35) hx hb dX5_readHead_30 (by decide) g11 (fun c12 => ?_) (fun c12 => ?_)
      · replace h := h.2 c12
        refine lv_aload_n hx hb dX5_readHead_35 rfl (lv_at hl 1 rfl) ?_
        refine r_iconst (n := 1) hx hb dX5_readHead_36 ?_
        refine lv_ldc (v := iI 999999) hx hb hown kc_69 dX5_readHead_37 ?_
        refine r_calli (va_runV (As := [.int (iI 1), .int (iI 999999)]) (rest := []) ⟨hx, hb, hml, hown, hts⟩ (m5_takeNumber l G hv_this _ st10 1 999999 h) (cwV 2 hts gX5_readHead_X5_takeNumber rfl rfl rfl hd5_takeNumber ⟨Nat.le_of_ble_eq_true rfl, Nat.le_of_ble_eq_true rfl⟩) (pre_V hK hX hI hA hS hv_this rfl rfl [.int (iI 1), .int (iI 999999)]) rfl rfl hl.1 rfl (lv_room (Nat.le_of_ble_eq_true rfl)) dX5_readHead_39 ⟨Nat.le_of_ble_eq_true rfl, Nat.le_of_ble_eq_true rfl⟩) hS (fun z13 st14 h H locs hI hS => ?_)
        refine lv_istore_n (lv' := [(2, .int (iI z13)), (1, .int (iI z5)), (0, .ref (G.2.2.1 5 0))]) hx hb dX5_readHead_42 rfl hl (by decide) rfl (fun ls hl => ?_)
        refine lv_iload_n hx hb dX5_readHead_43 rfl (lv_at hl 0 rfl) ?_
        refine r_iconst (n := (-1)) hx hb dX5_readHead_44 ?_
        obtain ⟨g15, h⟩ := h
        refine r_icmp_ne (tgt := 50) hx hb dX5_readHead_45 (by decide) g15 (inI_mk rfl) (fun c16 => ?_) (fun c16 => ?_)
        · replace h := h.2 c16
          refine lv_aload_n hx hb dX5_readHead_50 rfl (lv_at hl 2 rfl) ?_
          refine gg_5_1 hx hb hts in5 hown hK hI hv_this lk_21 dX5_readHead_51 ?_
          refine lv_iload_n hx hb dX5_readHead_54 rfl (lv_at hl 1 rfl) ?_
          refine pp_0_0 hx hb hts in0 hown hK hI hS (vrC_5_1 hv_this) lk_70 dX5_readHead_55 (fun st17 hst17 H locs hI hS => ?_)
          replace h := h st17 hst17
          refine lv_aload_n hx hb dX5_readHead_58 rfl (lv_at hl 2 rfl) ?_
          refine gg_5_1 hx hb hts in5 hown hK hI hv_this lk_21 dX5_readHead_59 ?_
          refine lv_iload_n hx hb dX5_readHead_62 rfl (lv_at hl 0 rfl) ?_
          refine pp_0_1 hx hb hts in0 hown hK hI hS (vrC_5_1 hv_this) lk_73 dX5_readHead_63 (fun st18 hst18 H locs hI hS => ?_)
          replace h := h st18 hst18
          refine lv_aload_n hx hb dX5_readHead_66 rfl (lv_at hl 2 rfl) ?_
          refine r_calli (va_runV (As := []) (rest := []) ⟨hx, hb, hml, hown, hts⟩ (m5_takeSemicolon l G hv_this _ st18 h) (cwV 0 hts gX5_readHead_X5_takeSemicolon rfl rfl rfl hd5_takeSemicolon ⟨Nat.le_of_ble_eq_true rfl, Nat.le_of_ble_eq_true rfl⟩) (pre_V hK hX hI hA hS hv_this rfl rfl []) rfl rfl hl.1 rfl (lv_room (Nat.le_of_ble_eq_true rfl)) dX5_readHead_67 ⟨Nat.le_of_ble_eq_true rfl, Nat.le_of_ble_eq_true rfl⟩) hS (fun z19 st20 h H locs hI hS => ?_)
          obtain ⟨g21, h⟩ := h
          exact r_zret hx hb hr hlocks hK hI hS (Qp := Q) g21 h dX5_readHead_70
        · replace h := h.1 c16
          refine r_iconst (n := 0) hx hb dX5_readHead_48 ?_
          exact r_zret hx hb hr hlocks hK hI hS (Qp := Q) (by decide) h dX5_readHead_49
      · replace h := h.1 c12
        refine r_iconst (n := 0) hx hb dX5_readHead_33 ?_
        exact r_zret hx hb hr hlocks hK hI hS (Qp := Q) (by decide) h dX5_readHead_34
  · replace h := h.1 c4
    refine r_iconst (n := 0) hx hb dX5_readHead_9 ?_
    exact r_zret hx hb hr hlocks hK hI hS (Qp := Q) (by decide) h dX5_readHead_10
theorem hd6_isFull : yX6_isFull.cls = RX6 ∧ yX6_isFull.cls ≠ "java/lang/invoke/MethodHandle" ∧ yX6_isFull.cls ≠ "java/lang/invoke/VarHandle" ∧ (parseMethodDescriptor yX6_isFull.desc).map (fun d => d.parameters.length) = some 0 := by decide +kernel
set_option maxHeartbeats 4000000 in
set_option maxRecDepth 100000 in
theorem m6_isFull (l : Launch) (G : WG)  (o : Int) (hv_this : vC 6 o) (Q : Int → St → Prop) (st : St)  (h : f6_isFull o Q st) : Met l yX6_isFull wsX6_isFull ({ frames := 0, cells := 0, slots := 0, locals := 0 }) (PcM vC G st [.ref (G.2.2.1 6 o)]) (QiM vC G Q) 0 0 G.2.2.2.1 := by
  refine Met.ofW (cc := cX6_isFull) (maxL := 1) (ret := (some .boolean)) (by decide) rfl ?_
  intro p e s m args below meth c s₁ B hml hvv
  obtain ⟨rfl, hA, hI, hK, hX⟩ := hvv
  have hx := B.exec
  have hb := B.bytes
  have hr := B.returns
  have hts := atoms_spec (ws := wsX6_isFull) B.pre
  have hown : s.vm.findClass RX6 = some m.cls := findClass_of_methodNamed B.named
  have hlocks := B.notSynchronized
  have hS : va_S G.2.2.2.1 s.heap s.heap [] := va_S.rf
  have in6 : ∀ w ∈ wsX60, w ∈ wsX6_isFull := by decide +kernel
  have lk_9 := hts (.fieldLink RX6 9 "BeamLines$Row" "size" "I") (by decide +kernel)
  have lk_21 := hts (.fieldLink RX6 21 "BeamLines$Row" "firsts" "[I") (by decide +kernel)
  have lk_25 := hts (.fieldLink RX6 25 "BeamLines$Row" "seconds" "[I") (by decide +kernel)
  have hl := lv_entry ([.ref (G.2.2.1 6 o)]) (n := 1) (Nat.le_of_ble_eq_true rfl)
  rw [lg_entry_eq]
  generalize (lg_sl ([.ref (G.2.2.1 6 o)]) ++ List.replicate (1 - (lg_sl ([.ref (G.2.2.1 6 o)])).length) Slot.unset).toArray = ls at hl ⊢
  have hl : lv_has ls 1 [(0, .ref (G.2.2.1 6 o))] := hl
  unfold f6_isFull at h
  refine lv_aload_n hx hb dX6_isFull_0 rfl (lv_at hl 0 rfl) ?_
  refine gg_6_2 hx hb hts in6 hown hK hI hv_this lk_9 dX6_isFull_1 ?_
  refine lv_aload_n hx hb dX6_isFull_4 rfl (lv_at hl 0 rfl) ?_
  refine gg_6_0 hx hb hts in6 hown hK hI hv_this lk_21 dX6_isFull_5 ?_
  refine r_alen hx hb hK hI (K := 10) (vrC_6_0 hv_this) 0 rfl rfl (rcap_pos _) dX6_isFull_8 ?_
  obtain ⟨g1, h⟩ := h
  obtain ⟨g2, h⟩ := h
  refine r_icmp_ge (tgt := 24) hx hb dX6_isFull_9 (by decide) g1 g2 (fun c3 => ?_) (fun c3 => ?_)
  · replace h := h.1 c3
    refine r_iconst (n := 1) hx hb dX6_isFull_24 ?_
    refine lv_goto (tgt := 29) hx hb dX6_isFull_25 (by decide) ?_
    exact r_zret hx hb hr hlocks hK hI hS (Qp := Q) (by decide) h dX6_isFull_29
  · replace h := h.2 c3
    refine lv_aload_n hx hb dX6_isFull_12 rfl (lv_at hl 0 rfl) ?_
    refine gg_6_2 hx hb hts in6 hown hK hI hv_this lk_9 dX6_isFull_13 ?_
    refine lv_aload_n hx hb dX6_isFull_16 rfl (lv_at hl 0 rfl) ?_
    refine gg_6_1 hx hb hts in6 hown hK hI hv_this lk_25 dX6_isFull_17 ?_
    refine r_alen hx hb hK hI (K := 11) (vrC_6_1 hv_this) 0 rfl rfl (rcap_pos _) dX6_isFull_20 ?_
    obtain ⟨g4, h⟩ := h
    obtain ⟨g5, h⟩ := h
    refine r_icmp_lt (tgt := 28) hx hb dX6_isFull_21 (by decide) g4 g5 (fun c6 => ?_) (fun c6 => ?_)
    · replace h := h.1 c6
      refine r_iconst (n := 0) hx hb dX6_isFull_28 ?_
      exact r_zret hx hb hr hlocks hK hI hS (Qp := Q) (by decide) h dX6_isFull_29
    · replace h := h.2 c6
      refine r_iconst (n := 1) hx hb dX6_isFull_24 ?_
      refine lv_goto (tgt := 29) hx hb dX6_isFull_25 (by decide) ?_
      exact r_zret hx hb hr hlocks hK hI hS (Qp := Q) (by decide) h dX6_isFull_29
theorem hd5_takeNameFor : yX5_takeNameFor.cls = RX5 ∧ yX5_takeNameFor.cls ≠ "java/lang/invoke/MethodHandle" ∧ yX5_takeNameFor.cls ≠ "java/lang/invoke/VarHandle" ∧ (parseMethodDescriptor yX5_takeNameFor.desc).map (fun d => d.parameters.length) = some 1 := by decide +kernel
set_option maxHeartbeats 4000000 in
set_option maxRecDepth 100000 in
theorem m5_takeNameFor (l : Launch) (G : WG)  (a0 : Int) (hv_this : vC 5 0) (hv_a0 : vC 6 a0) (Q : Int → St → Prop) (st : St)  (h : f5_takeNameFor a0 Q st) : Met l yX5_takeNameFor wsX5_takeNameFor ({ frames := 1, cells := 0, slots := 0, locals := 22 }) (PcM vC G st [.ref (G.2.2.1 5 0), .ref (G.2.2.1 6 a0)]) (QiM vC G Q) 0 0 G.2.2.2.1 := by
  refine Met.ofW (cc := cX5_takeNameFor) (maxL := 2) (ret := (some .boolean)) (by decide) rfl ?_
  intro p e s m args below meth c s₁ B hml hvv
  obtain ⟨rfl, hA, hI, hK, hX⟩ := hvv
  have hx := B.exec
  have hb := B.bytes
  have hr := B.returns
  have hts := atoms_spec (ws := wsX5_takeNameFor) B.pre
  have hown : s.vm.findClass RX5 = some m.cls := findClass_of_methodNamed B.named
  have hlocks := B.notSynchronized
  have hS : va_S G.2.2.2.1 s.heap s.heap [] := va_S.rf
  have in5 : ∀ w ∈ wsX50, w ∈ wsX5_takeNameFor := by decide +kernel
  have lk_12 := hts (.fieldLink RX5 12 "BeamLines$Reader" "text" "LBeamLines$Text;") (by decide +kernel)
  have lk_25 := hts (.fieldLink RX5 25 "BeamLines$Reader" "token" "I") (by decide +kernel)
  have hl := lv_entry ([.ref (G.2.2.1 5 0), .ref (G.2.2.1 6 a0)]) (n := 2) (Nat.le_of_ble_eq_true rfl)
  rw [lg_entry_eq]
  generalize (lg_sl ([.ref (G.2.2.1 5 0), .ref (G.2.2.1 6 a0)]) ++ List.replicate (2 - (lg_sl ([.ref (G.2.2.1 5 0), .ref (G.2.2.1 6 a0)])).length) Slot.unset).toArray = ls at hl ⊢
  have hl : lv_has ls 2 [(0, .ref (G.2.2.1 5 0)), (1, .ref (G.2.2.1 6 a0))] := hl
  unfold f5_takeNameFor at h
  refine lv_aload_n hx hb dX5_takeNameFor_0 rfl (lv_at hl 1 rfl) ?_
  refine r_calli (va_runV (As := []) (rest := []) ⟨hx, hb, hml, hown, hts⟩ (m6_isFull l G a0 hv_a0 _ st h) (cwV 0 hts gX5_takeNameFor_X6_isFull rfl rfl rfl hd6_isFull ⟨Nat.le_of_ble_eq_true rfl, Nat.le_of_ble_eq_true rfl⟩) (pre_V hK hX hI hA hS hv_a0 rfl rfl []) rfl rfl hl.1 rfl (lv_room (Nat.le_of_ble_eq_true rfl)) dX5_takeNameFor_1 ⟨Nat.le_of_ble_eq_true rfl, Nat.le_of_ble_eq_true rfl⟩) hS (fun z1 st2 h H locs hI hS => ?_)
  obtain ⟨g3, h⟩ := h
  refine r_if_eq (tgt := 25) hx hb dX5_takeNameFor_4 (by decide) g3 (fun c4 => ?_) (fun c4 => ?_)
  · replace h := h.1 c4
    refine lv_aload_n hx hb dX5_takeNameFor_25 rfl (lv_at hl 0 rfl) ?_
    refine lv_dup hx hb dX5_takeNameFor_26 rfl ?_
    refine gg_5_2 hx hb hts in5 hown hK hI hv_this lk_25 dX5_takeNameFor_27 ?_
    refine r_iconst (n := 1) hx hb dX5_takeNameFor_30 ?_
    refine r_iadd hx hb dX5_takeNameFor_31 ?_
    refine pp_5_2 hx hb hts in5 hown hK hI hS hv_this lk_25 dX5_takeNameFor_32 (fun st5 hst5 H locs hI hS => ?_)
    replace h := h st5 hst5
    refine r_iconst (n := 1) hx hb dX5_takeNameFor_35 ?_
    exact r_zret hx hb hr hlocks hK hI hS (Qp := Q) (by decide) h dX5_takeNameFor_36
  · replace h := h.2 c4
    refine lv_aload_n hx hb dX5_takeNameFor_7 rfl (lv_at hl 0 rfl) ?_
    refine r_bipush (n := (-5)) hx hb dX5_takeNameFor_8 rfl ?_
    refine lv_aload_n hx hb dX5_takeNameFor_10 rfl (lv_at hl 0 rfl) ?_
    refine gg_5_0 hx hb hts in5 hown hK hI hv_this lk_12 dX5_takeNameFor_11 ?_
    refine lv_aload_n hx hb dX5_takeNameFor_14 rfl (lv_at hl 0 rfl) ?_
    refine gg_5_2 hx hb hts in5 hown hK hI hv_this lk_25 dX5_takeNameFor_15 ?_
    refine r_calli (va_runV (As := [.int (iI (st2 5 2 0 0))]) (rest := [.int (iI (-5)), .ref (G.2.2.1 5 0)]) ⟨hx, hb, hml, hown, hts⟩ (m7_startOf l G (vrC_5_0 hv_this) _ st2 (st2 5 2 0 0) h) (cwV 1 hts gX5_takeNameFor_X7_startOf rfl rfl rfl hd7_startOf ⟨Nat.le_of_ble_eq_true rfl, Nat.le_of_ble_eq_true rfl⟩) (pre_V hK hX hI hA hS (vrC_5_0 hv_this) rfl rfl [.int (iI (st2 5 2 0 0))]) rfl rfl hl.1 rfl (lv_room (Nat.le_of_ble_eq_true rfl)) dX5_takeNameFor_18 ⟨Nat.le_of_ble_eq_true rfl, Nat.le_of_ble_eq_true rfl⟩) hS (fun z6 st7 h H locs hI hS => ?_)
    refine r_calli (va_runV (As := [.int (iI (-5)), .int (iI z6)]) (rest := []) ⟨hx, hb, hml, hown, hts⟩ (m5_fail l G hv_this _ st7 (-5) z6 h) (cwV 2 hts gX5_takeNameFor_X5_fail rfl rfl rfl hd5_fail ⟨Nat.le_of_ble_eq_true rfl, Nat.le_of_ble_eq_true rfl⟩) (pre_V hK hX hI hA hS hv_this rfl rfl [.int (iI (-5)), .int (iI z6)]) rfl rfl hl.1 rfl (lv_room (Nat.le_of_ble_eq_true rfl)) dX5_takeNameFor_21 ⟨Nat.le_of_ble_eq_true rfl, Nat.le_of_ble_eq_true rfl⟩) hS (fun z8 st9 h H locs hI hS => ?_)
    obtain ⟨g10, h⟩ := h
    exact r_zret hx hb hr hlocks hK hI hS (Qp := Q) g10 h dX5_takeNameFor_24
theorem hd5_takeFreePlace : yX5_takeFreePlace.cls = RX5 ∧ yX5_takeFreePlace.cls ≠ "java/lang/invoke/MethodHandle" ∧ yX5_takeFreePlace.cls ≠ "java/lang/invoke/VarHandle" ∧ (parseMethodDescriptor yX5_takeFreePlace.desc).map (fun d => d.parameters.length) = some 2 := by decide +kernel
set_option maxHeartbeats 4000000 in
set_option maxRecDepth 100000 in
theorem m5_takeFreePlace (l : Launch) (G : WG)   (hv_this : vC 5 0) (Q : Int → St → Prop) (st : St) (a0 : Int) (a1 : Int) (h : f5_takeFreePlace Q st a0 a1) : Met l yX5_takeFreePlace wsX5_takeFreePlace ({ frames := 2, cells := 0, slots := 0, locals := 45 }) (PcM vC G st [.ref (G.2.2.1 5 0), .int (iI a0), .int (iI a1)]) (QiM vC G Q) 0 0 G.2.2.2.1 := by
  refine Met.ofW (cc := cX5_takeFreePlace) (maxL := 5) (ret := (some .int)) (by decide) rfl ?_
  intro p e s m args below meth c s₁ B hml hvv
  obtain ⟨rfl, hA, hI, hK, hX⟩ := hvv
  have hx := B.exec
  have hb := B.bytes
  have hr := B.returns
  have hts := atoms_spec (ws := wsX5_takeFreePlace) B.pre
  have hown : s.vm.findClass RX5 = some m.cls := findClass_of_methodNamed B.named
  have hlocks := B.notSynchronized
  have hS : va_S G.2.2.2.1 s.heap s.heap [] := va_S.rf
  have in5 : ∀ w ∈ wsX50, w ∈ wsX5_takeFreePlace := by decide +kernel
  have lk_12 := hts (.fieldLink RX5 12 "BeamLines$Reader" "text" "LBeamLines$Text;") (by decide +kernel)
  have lk_21 := hts (.fieldLink RX5 21 "BeamLines$Reader" "beam" "LBeamLines$Beam;") (by decide +kernel)
  have lk_25 := hts (.fieldLink RX5 25 "BeamLines$Reader" "token" "I") (by decide +kernel)
  have hl := lv_entry ([.ref (G.2.2.1 5 0), .int (iI a0), .int (iI a1)]) (n := 5) (Nat.le_of_ble_eq_true rfl)
  rw [lg_entry_eq]
  generalize (lg_sl ([.ref (G.2.2.1 5 0), .int (iI a0), .int (iI a1)]) ++ List.replicate (5 - (lg_sl ([.ref (G.2.2.1 5 0), .int (iI a0), .int (iI a1)])).length) Slot.unset).toArray = ls at hl ⊢
  have hl : lv_has ls 5 [(0, .ref (G.2.2.1 5 0)), (1, .int (iI a0)), (2, .int (iI a1))] := hl
  unfold f5_takeFreePlace at h
  refine lv_aload_n hx hb dX5_takeFreePlace_0 rfl (lv_at hl 0 rfl) ?_
  refine gg_5_0 hx hb hts in5 hown hK hI hv_this lk_12 dX5_takeFreePlace_1 ?_
  refine lv_aload_n hx hb dX5_takeFreePlace_4 rfl (lv_at hl 0 rfl) ?_
  refine gg_5_2 hx hb hts in5 hown hK hI hv_this lk_25 dX5_takeFreePlace_5 ?_
  refine r_calli (va_runV (As := [.int (iI (st 5 2 0 0))]) (rest := []) ⟨hx, hb, hml, hown, hts⟩ (m7_startOf l G (vrC_5_0 hv_this) _ st (st 5 2 0 0) h) (cwV 1 hts gX5_takeFreePlace_X7_startOf rfl rfl rfl hd7_startOf ⟨Nat.le_of_ble_eq_true rfl, Nat.le_of_ble_eq_true rfl⟩) (pre_V hK hX hI hA hS (vrC_5_0 hv_this) rfl rfl [.int (iI (st 5 2 0 0))]) rfl rfl hl.1 rfl (lv_room (Nat.le_of_ble_eq_true rfl)) dX5_takeFreePlace_8 ⟨Nat.le_of_ble_eq_true rfl, Nat.le_of_ble_eq_true rfl⟩) hS (fun z1 st2 h H locs hI hS => ?_)
  refine lv_istore_n (lv' := [(3, .int (iI z1)), (0, .ref (G.2.2.1 5 0)), (1, .int (iI a0)), (2, .int (iI a1))]) hx hb dX5_takeFreePlace_11 rfl hl (by decide) rfl (fun ls hl => ?_)
  refine lv_aload_n hx hb dX5_takeFreePlace_12 rfl (lv_at hl 1 rfl) ?_
  refine lv_iload_n hx hb dX5_takeFreePlace_13 rfl (lv_at hl 2 rfl) ?_
  refine lv_iload_n hx hb dX5_takeFreePlace_14 rfl (lv_at hl 3 rfl) ?_
  refine r_calli (va_runV (As := [.int (iI a0), .int (iI a1)]) (rest := []) ⟨hx, hb, hml, hown, hts⟩ (m5_takeNumber l G hv_this _ st2 a0 a1 h) (cwV 2 hts gX5_takeFreePlace_X5_takeNumber rfl rfl rfl hd5_takeNumber ⟨Nat.le_of_ble_eq_true rfl, Nat.le_of_ble_eq_true rfl⟩) (pre_V hK hX hI hA hS hv_this rfl rfl [.int (iI a0), .int (iI a1)]) rfl rfl hl.1 rfl (lv_room (Nat.le_of_ble_eq_true rfl)) dX5_takeFreePlace_15 ⟨Nat.le_of_ble_eq_true rfl, Nat.le_of_ble_eq_true rfl⟩) hS (fun z3 st4 h H locs hI hS => ?_)
  refine lv_istore (lv' := [(4, .int (iI z3)), (3, .int (iI z1)), (0, .ref (G.2.2.1 5 0)), (1, .int (iI a0)), (2, .int (iI a1))]) hx hb dX5_takeFreePlace_18 hl (by decide) rfl (fun ls hl => ?_)
  refine lv_iload hx hb dX5_takeFreePlace_20 (lv_at hl 0 rfl) ?_
  refine r_iconst (n := (-1)) hx hb dX5_takeFreePlace_22 ?_
  obtain ⟨g5, h⟩ := h
  refine r_icmp_eq (tgt := 48) hx hb dX5_takeFreePlace_23 (by decide) g5 (inI_mk rfl) (fun c6 => ?_) (fun c6 => ?_)
  · replace h := h.1 c6
    refine lv_iload hx hb dX5_takeFreePlace_48 (lv_at hl 0 rfl) ?_
    exact r_iret hx hb hr hlocks hK hI hS (Qp := Q) h dX5_takeFreePlace_50
  · replace h := h.2 c6
    refine lv_aload_n hx hb dX5_takeFreePlace_26 rfl (lv_at hl 2 rfl) ?_
    refine gg_5_1 hx hb hts in5 hown hK hI hv_this lk_21 dX5_takeFreePlace_27 ?_
    refine lv_iload hx hb dX5_takeFreePlace_30 (lv_at hl 0 rfl) ?_
    refine r_calli (va_runV (As := [.int (iI z3)]) (rest := []) ⟨hx, hb, hml, hown, hts⟩ (m0_isTaken l G 2 (vrC_5_1 hv_this) _ st4 z3 h) (cwV 1 hts gX5_takeFreePlace_X0_isTaken rfl rfl rfl hd0_isTaken ⟨Nat.le_of_ble_eq_true rfl, Nat.le_of_ble_eq_true rfl⟩) (pre_V hK hX hI hA hS (vrC_5_1 hv_this) rfl rfl [.int (iI z3)]) rfl rfl hl.1 rfl (lv_room (Nat.le_of_ble_eq_true rfl)) dX5_takeFreePlace_32 ⟨Nat.le_of_ble_eq_true rfl, Nat.le_of_ble_eq_true rfl⟩) hS (fun z7 st8 h H locs hI hS => ?_)
    obtain ⟨g9, h⟩ := h
    refine r_if_eq (tgt := 48) hx hb dX5_takeFreePlace_35 (by decide) g9 (fun c10 => ?_) (fun c10 => ?_)
    · replace h := h.1 c10
      refine lv_iload hx hb dX5_takeFreePlace_48 (lv_at hl 0 rfl) ?_
      exact r_iret hx hb hr hlocks hK hI hS (Qp := Q) h dX5_takeFreePlace_50
    · replace h := h.2 c10
      refine lv_aload_n hx hb dX5_takeFreePlace_38 rfl (lv_at hl 2 rfl) ?_
      refine r_bipush (n := (-4)) hx hb dX5_takeFreePlace_39 rfl ?_
      refine lv_iload_n hx hb dX5_takeFreePlace_41 rfl (lv_at hl 1 rfl) ?_
      refine r_calli (va_runV (As := [.int (iI (-4)), .int (iI z1)]) (rest := []) ⟨hx, hb, hml, hown, hts⟩ (m5_fail l G hv_this _ st8 (-4) z1 h) (cwV 2 hts gX5_takeFreePlace_X5_fail rfl rfl rfl hd5_fail ⟨Nat.le_of_ble_eq_true rfl, Nat.le_of_ble_eq_true rfl⟩) (pre_V hK hX hI hA hS hv_this rfl rfl [.int (iI (-4)), .int (iI z1)]) rfl rfl hl.1 rfl (lv_room (Nat.le_of_ble_eq_true rfl)) dX5_takeFreePlace_42 ⟨Nat.le_of_ble_eq_true rfl, Nat.le_of_ble_eq_true rfl⟩) hS (fun z11 st12 h H locs hI hS => ?_)
      refine lv_pop hx hb dX5_takeFreePlace_45 rfl ?_
      refine r_iconst (n := (-1)) hx hb dX5_takeFreePlace_46 ?_
      exact r_iret hx hb hr hlocks hK hI hS (Qp := Q) h dX5_takeFreePlace_47
theorem hd6_countUpTo : yX6_countUpTo.cls = RX6 ∧ yX6_countUpTo.cls ≠ "java/lang/invoke/MethodHandle" ∧ yX6_countUpTo.cls ≠ "java/lang/invoke/VarHandle" ∧ (parseMethodDescriptor yX6_countUpTo.desc).map (fun d => d.parameters.length) = some 1 := by decide +kernel
set_option maxHeartbeats 4000000 in
set_option maxRecDepth 100000 in
theorem m6_countUpTo (l : Launch) (G : WG)  (o : Int) (hv_this : vC 6 o) (Q : Int → St → Prop) (st : St) (a0 : Int) (h : f6_countUpTo o Q st a0) : Met l yX6_countUpTo wsX6_countUpTo ({ frames := 0, cells := 0, slots := 0, locals := 0 }) (PcM vC G st [.ref (G.2.2.1 6 o), .int (iI a0)]) (QiM vC G Q) 0 0 G.2.2.2.1 := by
  refine Met.ofW (cc := cX6_countUpTo) (maxL := 4) (ret := (some .int)) (by decide) rfl ?_
  intro p e s m args below meth c s₁ B hml hvv
  obtain ⟨rfl, hA, hI, hK, hX⟩ := hvv
  have hx := B.exec
  have hb := B.bytes
  have hr := B.returns
  have hts := atoms_spec (ws := wsX6_countUpTo) B.pre
  have hown : s.vm.findClass RX6 = some m.cls := findClass_of_methodNamed B.named
  have hlocks := B.notSynchronized
  have hS : va_S G.2.2.2.1 s.heap s.heap [] := va_S.rf
  have in6 : ∀ w ∈ wsX60, w ∈ wsX6_countUpTo := by decide +kernel
  have lk_9 := hts (.fieldLink RX6 9 "BeamLines$Row" "size" "I") (by decide +kernel)
  have lk_21 := hts (.fieldLink RX6 21 "BeamLines$Row" "firsts" "[I") (by decide +kernel)
  have hl := lv_entry ([.ref (G.2.2.1 6 o), .int (iI a0)]) (n := 4) (Nat.le_of_ble_eq_true rfl)
  rw [lg_entry_eq]
  generalize (lg_sl ([.ref (G.2.2.1 6 o), .int (iI a0)]) ++ List.replicate (4 - (lg_sl ([.ref (G.2.2.1 6 o), .int (iI a0)])).length) Slot.unset).toArray = ls at hl ⊢
  have hl : lv_has ls 4 [(0, .ref (G.2.2.1 6 o)), (1, .int (iI a0))] := hl
  have L4 : ∀ (n4 : Nat), ∀ (st : St) (v2x4 : Int) (v3x4 : Int) (H : Heap) (locs : List Loc) (ls : Array Slot), Iv vC G st H → va_S G.2.2.2.1 s.heap H locs → lv_has ls 4 [(0, .ref (G.2.2.1 6 o)), (1, .int (iI a0)), (2, .int (iI v2x4)), (3, .int (iI v3x4))] → f6_countUpTo_l4 o Q a0 n4 st v2x4 v3x4 → W p l e (headSpec wsX6_countUpTo ({ frames := 0, cells := 0, slots := 0, locals := 0 })).room s m ([.ref (G.2.2.1 6 o), .int (iI a0)] : List Value).toArray below meth c H locs 0 0 (MQ below (QiM vC G Q) ([.ref (G.2.2.1 6 o), .int (iI a0)] : List Value).toArray s 0 0 G.2.2.2.1) (F0 m 4 ls []) := by
    intro n4
    induction n4 with
    | zero =>
      intro st v2x4 v3x4 H locs ls hI hS hl h
      exact h.elim
    | succ n4 ih4 =>
      have J34 : ∀ (st : St) (v2x34 : Int) (v3x34 : Int) (H : Heap) (locs : List Loc) (ls : Array Slot), Iv vC G st H → va_S G.2.2.2.1 s.heap H locs → lv_has ls 4 [(0, .ref (G.2.2.1 6 o)), (1, .int (iI a0)), (2, .int (iI v2x34)), (3, .int (iI v3x34))] → f6_countUpTo_j34 o (fun st v2x4 v3x4 => f6_countUpTo_l4 o Q a0 n4 st v2x4 v3x4) Q a0 st v2x34 v3x34 → W p l e (headSpec wsX6_countUpTo ({ frames := 0, cells := 0, slots := 0, locals := 0 })).room s m ([.ref (G.2.2.1 6 o), .int (iI a0)] : List Value).toArray below meth c H locs 0 0 (MQ below (QiM vC G Q) ([.ref (G.2.2.1 6 o), .int (iI a0)] : List Value).toArray s 0 0 G.2.2.2.1) (F0 m 34 ls []) := by
        intro st v2x34 v3x34 H locs ls hI hS hl h
        unfold f6_countUpTo_j34 at h
        obtain ⟨x13, hx13⟩ : ∃ z : Int, z = v3x34 + 1 := ⟨_, rfl⟩
        replace h := h x13 hx13
        refine lv_iinc (v := iI x13) (lv' := [(3, .int (iI x13)), (0, .ref (G.2.2.1 6 o)), (1, .int (iI a0)), (2, .int (iI v2x34))]) hx hb dX6_countUpTo_34 hl (k := 3) rfl (by rw [hx13]; exact iI_add _ _) (by decide) rfl (fun ls hl => ?_)
        refine lv_goto (tgt := 4) hx hb dX6_countUpTo_37 (by decide) ?_
        exact ih4 st v2x34 x13 _ _ ls hI hS (lv_sub hl [1, 2, 3, 0] rfl) h
      intro st v2x4 v3x4 H locs ls hI hS hl h
      unfold f6_countUpTo_l4 at h
      refine lv_iload_n hx hb dX6_countUpTo_4 rfl (lv_at hl 3 rfl) ?_
      refine lv_aload_n hx hb dX6_countUpTo_5 rfl (lv_at hl 0 rfl) ?_
      refine gg_6_2 hx hb hts in6 hown hK hI hv_this lk_9 dX6_countUpTo_6 ?_
      obtain ⟨g1, h⟩ := h
      obtain ⟨g2, h⟩ := h
      refine r_icmp_ge (tgt := 40) hx hb dX6_countUpTo_9 (by decide) g1 g2 (fun c3 => ?_) (fun c3 => ?_)
      · replace h := h.1 c3
        refine lv_iload_n hx hb dX6_countUpTo_40 rfl (lv_at hl 2 rfl) ?_
        exact r_iret hx hb hr hlocks hK hI hS (Qp := Q) h dX6_countUpTo_41
      · replace h := h.2 c3
        refine lv_iload_n hx hb dX6_countUpTo_12 rfl (lv_at hl 3 rfl) ?_
        refine lv_aload_n hx hb dX6_countUpTo_13 rfl (lv_at hl 0 rfl) ?_
        refine gg_6_0 hx hb hts in6 hown hK hI hv_this lk_21 dX6_countUpTo_14 ?_
        refine r_alen hx hb hK hI (K := 10) (vrC_6_0 hv_this) 0 rfl rfl (rcap_pos _) dX6_countUpTo_17 ?_
        obtain ⟨g4, h⟩ := h
        obtain ⟨g5, h⟩ := h
        refine r_icmp_ge (tgt := 40) hx hb dX6_countUpTo_18 (by decide) g4 g5 (fun c6 => ?_) (fun c6 => ?_)
        · replace h := h.1 c6
          refine lv_iload_n hx hb dX6_countUpTo_40 rfl (lv_at hl 2 rfl) ?_
          exact r_iret hx hb hr hlocks hK hI hS (Qp := Q) h dX6_countUpTo_41
        · replace h := h.2 c6
          refine lv_aload_n hx hb dX6_countUpTo_21 rfl (lv_at hl 0 rfl) ?_
          refine gg_6_0 hx hb hts in6 hown hK hI hv_this lk_21 dX6_countUpTo_22 ?_
          refine lv_iload_n hx hb dX6_countUpTo_25 rfl (lv_at hl 3 rfl) ?_
          obtain ⟨g7, g8, h⟩ := h
          refine r_iald hx hb hK hI (K := 10) (vrC_6_0 hv_this) rfl (rcap_le _) dX6_countUpTo_26 g7 g8 ?_
          refine lv_iload_n hx hb dX6_countUpTo_27 rfl (lv_at hl 1 rfl) ?_
          obtain ⟨g9, h⟩ := h
          obtain ⟨g10, h⟩ := h
          refine r_icmp_gt (tgt := 34) hx hb dX6_countUpTo_28 (by decide) g9 g10 (fun c11 => ?_) (fun c11 => ?_)
          · replace h := h.1 c11
            exact J34 st v2x4 v3x4 _ _ ls hI hS (lv_sub hl [0, 1, 2, 3] rfl) h
          · replace h := h.2 c11
            obtain ⟨x12, hx12⟩ : ∃ z : Int, z = v2x4 + 1 := ⟨_, rfl⟩
            replace h := h x12 hx12
            refine lv_iinc (v := iI x12) (lv' := [(2, .int (iI x12)), (0, .ref (G.2.2.1 6 o)), (1, .int (iI a0)), (3, .int (iI v3x4))]) hx hb dX6_countUpTo_31 hl (k := 2) rfl (by rw [hx12]; exact iI_add _ _) (by decide) rfl (fun ls hl => ?_)
            exact J34 st x12 v3x4 _ _ ls hI hS (lv_sub hl [1, 2, 0, 3] rfl) h
  unfold f6_countUpTo at h
  refine r_iconst (n := 0) hx hb dX6_countUpTo_0 ?_
  refine lv_istore_n (lv' := [(2, .int (iI 0)), (0, .ref (G.2.2.1 6 o)), (1, .int (iI a0))]) hx hb dX6_countUpTo_1 rfl hl (by decide) rfl (fun ls hl => ?_)
  refine r_iconst (n := 0) hx hb dX6_countUpTo_2 ?_
  refine lv_istore_n (lv' := [(3, .int (iI 0)), (2, .int (iI 0)), (0, .ref (G.2.2.1 6 o)), (1, .int (iI a0))]) hx hb dX6_countUpTo_3 rfl hl (by decide) rfl (fun ls hl => ?_)
  obtain ⟨kk, h⟩ := h
  exact L4 kk st 0 0 _ _ ls hI hS (lv_sub hl [2, 3, 1, 0] rfl) h
theorem hd6_putAt : yX6_putAt.cls = RX6 ∧ yX6_putAt.cls ≠ "java/lang/invoke/MethodHandle" ∧ yX6_putAt.cls ≠ "java/lang/invoke/VarHandle" ∧ (parseMethodDescriptor yX6_putAt.desc).map (fun d => d.parameters.length) = some 3 := by decide +kernel
set_option maxHeartbeats 4000000 in
set_option maxRecDepth 100000 in
theorem m6_putAt (l : Launch) (G : WG)  (o : Int) (hv_this : vC 6 o) (Q : Int → St → Prop) (st : St) (a0 : Int) (a1 : Int) (a2 : Int) (h : f6_putAt o Q st a0 a1 a2) : Met l yX6_putAt wsX6_putAt ({ frames := 1, cells := 0, slots := 0, locals := 20 }) (PcM vC G st [.ref (G.2.2.1 6 o), .int (iI a0), .int (iI a1), .int (iI a2)]) (QiM vC G Q) 0 0 G.2.2.2.1 := by
  refine Met.ofW (cc := cX6_putAt) (maxL := 5) (ret := (some .int)) (by decide) rfl ?_
  intro p e s m args below meth c s₁ B hml hvv
  obtain ⟨rfl, hA, hI, hK, hX⟩ := hvv
  have hx := B.exec
  have hb := B.bytes
  have hr := B.returns
  have hts := atoms_spec (ws := wsX6_putAt) B.pre
  have hown : s.vm.findClass RX6 = some m.cls := findClass_of_methodNamed B.named
  have hlocks := B.notSynchronized
  have hS : va_S G.2.2.2.1 s.heap s.heap [] := va_S.rf
  have in6 : ∀ w ∈ wsX60, w ∈ wsX6_putAt := by decide +kernel
  have lk_9 := hts (.fieldLink RX6 9 "BeamLines$Row" "size" "I") (by decide +kernel)
  have lk_21 := hts (.fieldLink RX6 21 "BeamLines$Row" "firsts" "[I") (by decide +kernel)
  have lk_25 := hts (.fieldLink RX6 25 "BeamLines$Row" "seconds" "[I") (by decide +kernel)
  have hl := lv_entry ([.ref (G.2.2.1 6 o), .int (iI a0), .int (iI a1), .int (iI a2)]) (n := 5) (Nat.le_of_ble_eq_true rfl)
  rw [lg_entry_eq]
  generalize (lg_sl ([.ref (G.2.2.1 6 o), .int (iI a0), .int (iI a1), .int (iI a2)]) ++ List.replicate (5 - (lg_sl ([.ref (G.2.2.1 6 o), .int (iI a0), .int (iI a1), .int (iI a2)])).length) Slot.unset).toArray = ls at hl ⊢
  have hl : lv_has ls 5 [(0, .ref (G.2.2.1 6 o)), (1, .int (iI a0)), (2, .int (iI a1)), (3, .int (iI a2))] := hl
  have L27 : ∀ (n27 : Nat), ∀ (st : St) (v4x27 : Int) (H : Heap) (locs : List Loc) (ls : Array Slot), Iv vC G st H → va_S G.2.2.2.1 s.heap H locs → lv_has ls 5 [(0, .ref (G.2.2.1 6 o)), (1, .int (iI a0)), (2, .int (iI a1)), (3, .int (iI a2)), (4, .int (iI v4x27))] → f6_putAt_l27 o Q a0 a1 a2 n27 st v4x27 → W p l e (headSpec wsX6_putAt ({ frames := 1, cells := 0, slots := 0, locals := 20 })).room s m ([.ref (G.2.2.1 6 o), .int (iI a0), .int (iI a1), .int (iI a2)] : List Value).toArray below meth c H locs 0 0 (MQ below (QiM vC G Q) ([.ref (G.2.2.1 6 o), .int (iI a0), .int (iI a1), .int (iI a2)] : List Value).toArray s 0 0 G.2.2.2.1) (F0 m 27 ls []) := by
    intro n27
    induction n27 with
    | zero =>
      intro st v4x27 H locs ls hI hS hl h
      exact h.elim
    | succ n27 ih27 =>
      intro st v4x27 H locs ls hI hS hl h
      unfold f6_putAt_l27 at h
      refine lv_iload hx hb dX6_putAt_27 (lv_at hl 4 rfl) ?_
      refine lv_iload_n hx hb dX6_putAt_29 rfl (lv_at hl 1 rfl) ?_
      obtain ⟨g11, h⟩ := h
      obtain ⟨g12, h⟩ := h
      refine r_icmp_le (tgt := 71) hx hb dX6_putAt_30 (by decide) g11 g12 (fun c13 => ?_) (fun c13 => ?_)
      · replace h := h.1 c13
        refine lv_aload_n hx hb dX6_putAt_71 rfl (lv_at hl 0 rfl) ?_
        refine gg_6_0 hx hb hts in6 hown hK hI hv_this lk_21 dX6_putAt_72 ?_
        refine lv_iload_n hx hb dX6_putAt_75 rfl (lv_at hl 1 rfl) ?_
        refine lv_iload_n hx hb dX6_putAt_76 rfl (lv_at hl 2 rfl) ?_
        obtain ⟨g14, g15, h⟩ := h
        refine r_iast hx hb hK hI hS (K := 10) (vrC_6_0 hv_this) (fun _ => rfl) (rcap_le _) dX6_putAt_77 g14 g15 (fun st16 hst16 H locs hI hS => ?_)
        replace h := h st16 hst16
        refine lv_aload_n hx hb dX6_putAt_78 rfl (lv_at hl 0 rfl) ?_
        refine gg_6_1 hx hb hts in6 hown hK hI hv_this lk_25 dX6_putAt_79 ?_
        refine lv_iload_n hx hb dX6_putAt_82 rfl (lv_at hl 1 rfl) ?_
        refine lv_iload_n hx hb dX6_putAt_83 rfl (lv_at hl 3 rfl) ?_
        obtain ⟨g17, g18, h⟩ := h
        refine r_iast hx hb hK hI hS (K := 11) (vrC_6_1 hv_this) (fun _ => rfl) (rcap_le _) dX6_putAt_84 g17 g18 (fun st19 hst19 H locs hI hS => ?_)
        replace h := h st19 hst19
        refine lv_aload_n hx hb dX6_putAt_85 rfl (lv_at hl 0 rfl) ?_
        refine lv_dup hx hb dX6_putAt_86 rfl ?_
        refine gg_6_2 hx hb hts in6 hown hK hI hv_this lk_9 dX6_putAt_87 ?_
        refine r_iconst (n := 1) hx hb dX6_putAt_90 ?_
        refine r_iadd hx hb dX6_putAt_91 ?_
        refine pp_6_2 hx hb hts in6 hown hK hI hS hv_this lk_9 dX6_putAt_92 (fun st20 hst20 H locs hI hS => ?_)
        replace h := h st20 hst20
        refine lv_iload_n hx hb dX6_putAt_95 rfl (lv_at hl 1 rfl) ?_
        exact r_iret hx hb hr hlocks hK hI hS (Qp := Q) h dX6_putAt_96
      · replace h := h.2 c13
        refine lv_aload_n hx hb dX6_putAt_33 rfl (lv_at hl 0 rfl) ?_
        refine gg_6_0 hx hb hts in6 hown hK hI hv_this lk_21 dX6_putAt_34 ?_
        refine lv_iload hx hb dX6_putAt_37 (lv_at hl 4 rfl) ?_
        refine lv_aload_n hx hb dX6_putAt_39 rfl (lv_at hl 0 rfl) ?_
        refine gg_6_0 hx hb hts in6 hown hK hI hv_this lk_21 dX6_putAt_40 ?_
        refine lv_iload hx hb dX6_putAt_43 (lv_at hl 4 rfl) ?_
        refine r_iconst (n := 1) hx hb dX6_putAt_45 ?_
        refine r_isub hx hb dX6_putAt_46 ?_
        obtain ⟨g21, g22, h⟩ := h
        refine r_iald hx hb hK hI (K := 10) (vrC_6_0 hv_this) rfl (rcap_le _) dX6_putAt_47 g21 g22 ?_
        obtain ⟨g23, g24, h⟩ := h
        refine r_iast hx hb hK hI hS (K := 10) (vrC_6_0 hv_this) (fun _ => rfl) (rcap_le _) dX6_putAt_48 g23 g24 (fun st25 hst25 H locs hI hS => ?_)
        replace h := h st25 hst25
        refine lv_aload_n hx hb dX6_putAt_49 rfl (lv_at hl 0 rfl) ?_
        refine gg_6_1 hx hb hts in6 hown hK hI hv_this lk_25 dX6_putAt_50 ?_
        refine lv_iload hx hb dX6_putAt_53 (lv_at hl 4 rfl) ?_
        refine lv_aload_n hx hb dX6_putAt_55 rfl (lv_at hl 0 rfl) ?_
        refine gg_6_1 hx hb hts in6 hown hK hI hv_this lk_25 dX6_putAt_56 ?_
        refine lv_iload hx hb dX6_putAt_59 (lv_at hl 4 rfl) ?_
        refine r_iconst (n := 1) hx hb dX6_putAt_61 ?_
        refine r_isub hx hb dX6_putAt_62 ?_
        obtain ⟨g26, g27, h⟩ := h
        refine r_iald hx hb hK hI (K := 11) (vrC_6_1 hv_this) rfl (rcap_le _) dX6_putAt_63 g26 g27 ?_
        obtain ⟨g28, g29, h⟩ := h
        refine r_iast hx hb hK hI hS (K := 11) (vrC_6_1 hv_this) (fun _ => rfl) (rcap_le _) dX6_putAt_64 g28 g29 (fun st30 hst30 H locs hI hS => ?_)
        replace h := h st30 hst30
        obtain ⟨x31, hx31⟩ : ∃ z : Int, z = v4x27 + (-1) := ⟨_, rfl⟩
        replace h := h x31 hx31
        refine lv_iinc (v := iI x31) (lv' := [(4, .int (iI x31)), (0, .ref (G.2.2.1 6 o)), (1, .int (iI a0)), (2, .int (iI a1)), (3, .int (iI a2))]) hx hb dX6_putAt_65 hl (k := 4) rfl (by rw [hx31]; exact iI_add _ _) (by decide) rfl (fun ls hl => ?_)
        refine lv_goto (tgt := 27) hx hb dX6_putAt_68 (by decide) ?_
        exact ih27 st30 x31 _ _ ls hI hS (lv_sub hl [1, 2, 3, 4, 0] rfl) h
  unfold f6_putAt at h
  refine lv_aload_n hx hb dX6_putAt_0 rfl (lv_at hl 0 rfl) ?_
  refine r_calli (va_runV (As := []) (rest := []) ⟨hx, hb, hml, hown, hts⟩ (m6_isFull l G o hv_this _ st h) (cwV 0 hts gX6_putAt_X6_isFull rfl rfl rfl hd6_isFull ⟨Nat.le_of_ble_eq_true rfl, Nat.le_of_ble_eq_true rfl⟩) (pre_V hK hX hI hA hS hv_this rfl rfl []) rfl rfl hl.1 rfl (lv_room (Nat.le_of_ble_eq_true rfl)) dX6_putAt_1 ⟨Nat.le_of_ble_eq_true rfl, Nat.le_of_ble_eq_true rfl⟩) hS (fun z1 st2 h H locs hI hS => ?_)
  obtain ⟨g3, h⟩ := h
  refine r_if_ne (tgt := 19) hx hb dX6_putAt_4 (by decide) g3 (fun c4 => ?_) (fun c4 => ?_)
  · replace h := h.2 c4
    refine r_iconst (n := (-1)) hx hb dX6_putAt_19 ?_
    exact r_iret hx hb hr hlocks hK hI hS (Qp := Q) h dX6_putAt_20
  · replace h := h.1 c4
    refine lv_iload_n hx hb dX6_putAt_7 rfl (lv_at hl 1 rfl) ?_
    obtain ⟨g5, h⟩ := h
    refine r_if_lt (tgt := 19) hx hb dX6_putAt_8 (by decide) g5 (fun c6 => ?_) (fun c6 => ?_)
    · replace h := h.1 c6
      refine r_iconst (n := (-1)) hx hb dX6_putAt_19 ?_
      exact r_iret hx hb hr hlocks hK hI hS (Qp := Q) h dX6_putAt_20
    · replace h := h.2 c6
      refine lv_iload_n hx hb dX6_putAt_11 rfl (lv_at hl 1 rfl) ?_
      refine lv_aload_n hx hb dX6_putAt_12 rfl (lv_at hl 0 rfl) ?_
      refine gg_6_2 hx hb hts in6 hown hK hI hv_this lk_9 dX6_putAt_13 ?_
      obtain ⟨g7, h⟩ := h
      obtain ⟨g8, h⟩ := h
      refine r_icmp_le (tgt := 21) hx hb dX6_putAt_16 (by decide) g7 g8 (fun c9 => ?_) (fun c9 => ?_)
      · replace h := h.1 c9
        refine lv_aload_n hx hb dX6_putAt_21 rfl (lv_at hl 0 rfl) ?_
        refine gg_6_2 hx hb hts in6 hown hK hI hv_this lk_9 dX6_putAt_22 ?_
        refine r_topi (fun x10 hx10 => ?_)
        replace h := h x10 hx10
        refine lv_istore (lv' := [(4, .int (iI x10)), (0, .ref (G.2.2.1 6 o)), (1, .int (iI a0)), (2, .int (iI a1)), (3, .int (iI a2))]) hx hb dX6_putAt_25 hl (by decide) rfl (fun ls hl => ?_)
        obtain ⟨kk, h⟩ := h
        exact L27 kk st2 x10 _ _ ls hI hS (lv_sub hl [1, 2, 3, 4, 0] rfl) h
      · replace h := h.2 c9
        refine r_iconst (n := (-1)) hx hb dX6_putAt_19 ?_
        exact r_iret hx hb hr hlocks hK hI hS (Qp := Q) h dX6_putAt_20
theorem hd6_putInOrder : yX6_putInOrder.cls = RX6 ∧ yX6_putInOrder.cls ≠ "java/lang/invoke/MethodHandle" ∧ yX6_putInOrder.cls ≠ "java/lang/invoke/VarHandle" ∧ (parseMethodDescriptor yX6_putInOrder.desc).map (fun d => d.parameters.length) = some 2 := by decide +kernel
set_option maxHeartbeats 4000000 in
set_option maxRecDepth 100000 in
theorem m6_putInOrder (l : Launch) (G : WG)  (o : Int) (hv_this : vC 6 o) (Q : Int → St → Prop) (st : St) (a0 : Int) (a1 : Int) (h : f6_putInOrder o Q st a0 a1) : Met l yX6_putInOrder wsX6_putInOrder ({ frames := 2, cells := 0, slots := 0, locals := 44 }) (PcM vC G st [.ref (G.2.2.1 6 o), .int (iI a0), .int (iI a1)]) (QiM vC G Q) 0 0 G.2.2.2.1 := by
  refine Met.ofW (cc := cX6_putInOrder) (maxL := 3) (ret := (some .int)) (by decide) rfl ?_
  intro p e s m args below meth c s₁ B hml hvv
  obtain ⟨rfl, hA, hI, hK, hX⟩ := hvv
  have hx := B.exec
  have hb := B.bytes
  have hr := B.returns
  have hts := atoms_spec (ws := wsX6_putInOrder) B.pre
  have hown : s.vm.findClass RX6 = some m.cls := findClass_of_methodNamed B.named
  have hlocks := B.notSynchronized
  have hS : va_S G.2.2.2.1 s.heap s.heap [] := va_S.rf
  have hl := lv_entry ([.ref (G.2.2.1 6 o), .int (iI a0), .int (iI a1)]) (n := 3) (Nat.le_of_ble_eq_true rfl)
  rw [lg_entry_eq]
  generalize (lg_sl ([.ref (G.2.2.1 6 o), .int (iI a0), .int (iI a1)]) ++ List.replicate (3 - (lg_sl ([.ref (G.2.2.1 6 o), .int (iI a0), .int (iI a1)])).length) Slot.unset).toArray = ls at hl ⊢
  have hl : lv_has ls 3 [(0, .ref (G.2.2.1 6 o)), (1, .int (iI a0)), (2, .int (iI a1))] := hl
  unfold f6_putInOrder at h
  refine lv_aload_n hx hb dX6_putInOrder_0 rfl (lv_at hl 0 rfl) ?_
  refine lv_aload_n hx hb dX6_putInOrder_1 rfl (lv_at hl 0 rfl) ?_
  refine lv_iload_n hx hb dX6_putInOrder_2 rfl (lv_at hl 1 rfl) ?_
  refine r_calli (va_runV (As := [.int (iI a0)]) (rest := [.ref (G.2.2.1 6 o)]) ⟨hx, hb, hml, hown, hts⟩ (m6_countUpTo l G o hv_this _ st a0 h) (cwV 1 hts gX6_putInOrder_X6_countUpTo rfl rfl rfl hd6_countUpTo ⟨Nat.le_of_ble_eq_true rfl, Nat.le_of_ble_eq_true rfl⟩) (pre_V hK hX hI hA hS hv_this rfl rfl [.int (iI a0)]) rfl rfl hl.1 rfl (lv_room (Nat.le_of_ble_eq_true rfl)) dX6_putInOrder_3 ⟨Nat.le_of_ble_eq_true rfl, Nat.le_of_ble_eq_true rfl⟩) hS (fun z1 st2 h H locs hI hS => ?_)
  refine lv_iload_n hx hb dX6_putInOrder_6 rfl (lv_at hl 1 rfl) ?_
  refine lv_iload_n hx hb dX6_putInOrder_7 rfl (lv_at hl 2 rfl) ?_
  refine r_calli (va_runV (As := [.int (iI z1), .int (iI a0), .int (iI a1)]) (rest := []) ⟨hx, hb, hml, hown, hts⟩ (m6_putAt l G o hv_this _ st2 z1 a0 a1 h) (cwV 3 hts gX6_putInOrder_X6_putAt rfl rfl rfl hd6_putAt ⟨Nat.le_of_ble_eq_true rfl, Nat.le_of_ble_eq_true rfl⟩) (pre_V hK hX hI hA hS hv_this rfl rfl [.int (iI z1), .int (iI a0), .int (iI a1)]) rfl rfl hl.1 rfl (lv_room (Nat.le_of_ble_eq_true rfl)) dX6_putInOrder_8 ⟨Nat.le_of_ble_eq_true rfl, Nat.le_of_ble_eq_true rfl⟩) hS (fun z3 st4 h H locs hI hS => ?_)
  exact r_iret hx hb hr hlocks hK hI hS (Qp := Q) h dX6_putInOrder_11
theorem hd5_readSupport : yX5_readSupport.cls = RX5 ∧ yX5_readSupport.cls ≠ "java/lang/invoke/MethodHandle" ∧ yX5_readSupport.cls ≠ "java/lang/invoke/VarHandle" ∧ (parseMethodDescriptor yX5_readSupport.desc).map (fun d => d.parameters.length) = some 0 := by decide +kernel
set_option maxHeartbeats 4000000 in
set_option maxRecDepth 100000 in
theorem m5_readSupport (l : Launch) (G : WG)   (hv_this : vC 5 0) (Q : Int → St → Prop) (st : St)  (h : f5_readSupport Q st) : Met l yX5_readSupport wsX5_readSupport ({ frames := 5, cells := 0, slots := 0, locals := 113 }) (PcM vC G st [.ref (G.2.2.1 5 0)]) (QiM vC G Q) 0 0 G.2.2.2.1 := by
  refine Met.ofW (cc := cX5_readSupport) (maxL := 3) (ret := (some .boolean)) (by decide) rfl ?_
  intro p e s m args below meth c s₁ B hml hvv
  obtain ⟨rfl, hA, hI, hK, hX⟩ := hvv
  have hx := B.exec
  have hb := B.bytes
  have hr := B.returns
  have hts := atoms_spec (ws := wsX5_readSupport) B.pre
  have hown : s.vm.findClass RX5 = some m.cls := findClass_of_methodNamed B.named
  have hlocks := B.notSynchronized
  have hS : va_S G.2.2.2.1 s.heap s.heap [] := va_S.rf
  have in0 : ∀ w ∈ wsX00, w ∈ wsX5_readSupport := by decide +kernel
  have in5 : ∀ w ∈ wsX50, w ∈ wsX5_readSupport := by decide +kernel
  have lk_12 := hts (.fieldLink RX5 12 "BeamLines$Reader" "text" "LBeamLines$Text;") (by decide +kernel)
  have lk_21 := hts (.fieldLink RX5 21 "BeamLines$Reader" "beam" "LBeamLines$Beam;") (by decide +kernel)
  have lk_25 := hts (.fieldLink RX5 25 "BeamLines$Reader" "token" "I") (by decide +kernel)
  have lk_70 := hts (.fieldLink RX5 70 "BeamLines$Beam" "length" "I") (by decide +kernel)
  have lk_118 := hts (.fieldLink RX5 118 "BeamLines$Beam" "supports" "LBeamLines$Row;") (by decide +kernel)
  have kc_130 : (Jvm.Cond.constant RX5 130 (iI 99999)).before _ s = true := hts (.constant RX5 130 99999) (by decide +kernel)
  have hl := lv_entry ([.ref (G.2.2.1 5 0)]) (n := 3) (Nat.le_of_ble_eq_true rfl)
  rw [lg_entry_eq]
  generalize (lg_sl ([.ref (G.2.2.1 5 0)]) ++ List.replicate (3 - (lg_sl ([.ref (G.2.2.1 5 0)])).length) Slot.unset).toArray = ls at hl ⊢
  have hl : lv_has ls 3 [(0, .ref (G.2.2.1 5 0))] := hl
  have J79 : ∀ (st : St) (v1x79 : Int) (v2x79 : Int) (H : Heap) (locs : List Loc) (ls : Array Slot), Iv vC G st H → va_S G.2.2.2.1 s.heap H locs → lv_has ls 3 [(0, .ref (G.2.2.1 5 0)), (1, .int (iI v1x79)), (2, .int (iI v2x79))] → f5_readSupport_j79 Q st v1x79 v2x79 → W p l e (headSpec wsX5_readSupport ({ frames := 5, cells := 0, slots := 0, locals := 113 })).room s m ([.ref (G.2.2.1 5 0)] : List Value).toArray below meth c H locs 0 0 (MQ below (QiM vC G Q) ([.ref (G.2.2.1 5 0)] : List Value).toArray s 0 0 G.2.2.2.1) (F0 m 79 ls []) := by
    intro st v1x79 v2x79 H locs ls hI hS hl h
    unfold f5_readSupport_j79 at h
    refine lv_aload_n hx hb dX5_readSupport_79 rfl (lv_at hl 0 rfl) ?_
    refine gg_5_1 hx hb hts in5 hown hK hI hv_this lk_21 dX5_readSupport_80 ?_
    refine gg_0_2 hx hb hts in0 hown hK hI (vrC_5_1 hv_this) lk_118 dX5_readSupport_83 ?_
    refine lv_iload_n hx hb dX5_readSupport_86 rfl (lv_at hl 1 rfl) ?_
    refine lv_iload_n hx hb dX5_readSupport_87 rfl (lv_at hl 2 rfl) ?_
    refine r_calli (va_runV (As := [.int (iI v1x79), .int (iI v2x79)]) (rest := []) ⟨hx, hb, hml, hown, hts⟩ (m6_putInOrder l G (4 * 2) (vrC_0_2 (vrC_5_1 hv_this)) _ st v1x79 v2x79 h) (cwV 2 hts gX5_readSupport_X6_putInOrder rfl rfl rfl hd6_putInOrder ⟨Nat.le_of_ble_eq_true rfl, Nat.le_of_ble_eq_true rfl⟩) (pre_V hK hX hI hA hS (vrC_0_2 (vrC_5_1 hv_this)) rfl rfl [.int (iI v1x79), .int (iI v2x79)]) rfl rfl hl.1 rfl (lv_room (Nat.le_of_ble_eq_true rfl)) dX5_readSupport_88 ⟨Nat.le_of_ble_eq_true rfl, Nat.le_of_ble_eq_true rfl⟩) hS (fun z18 st19 h H locs hI hS => ?_)
    refine lv_pop hx hb dX5_readSupport_91 rfl ?_
    refine lv_aload_n hx hb dX5_readSupport_92 rfl (lv_at hl 0 rfl) ?_
    refine r_calli (va_runV (As := []) (rest := []) ⟨hx, hb, hml, hown, hts⟩ (m5_takeSemicolon l G hv_this _ st19 h) (cwV 0 hts gX5_readSupport_X5_takeSemicolon rfl rfl rfl hd5_takeSemicolon ⟨Nat.le_of_ble_eq_true rfl, Nat.le_of_ble_eq_true rfl⟩) (pre_V hK hX hI hA hS hv_this rfl rfl []) rfl rfl hl.1 rfl (lv_room (Nat.le_of_ble_eq_true rfl)) dX5_readSupport_93 ⟨Nat.le_of_ble_eq_true rfl, Nat.le_of_ble_eq_true rfl⟩) hS (fun z20 st21 h H locs hI hS => ?_)
    obtain ⟨g22, h⟩ := h
    exact r_zret hx hb hr hlocks hK hI hS (Qp := Q) g22 h dX5_readSupport_96
  unfold f5_readSupport at h
  refine lv_aload_n hx hb dX5_readSupport_0 rfl (lv_at hl 0 rfl) ?_
  refine lv_aload_n hx hb dX5_readSupport_1 rfl (lv_at hl 0 rfl) ?_
  refine gg_5_1 hx hb hts in5 hown hK hI hv_this lk_21 dX5_readSupport_2 ?_
  refine gg_0_2 hx hb hts in0 hown hK hI (vrC_5_1 hv_this) lk_118 dX5_readSupport_5 ?_
  refine r_calli (va_runV (As := [.ref (G.2.2.1 6 (4 * 2))]) (rest := []) ⟨hx, hb, hml, hown, hts⟩ (m5_takeNameFor l G (4 * 2) hv_this (vrC_0_2 (vrC_5_1 hv_this)) _ st h) (cwV 1 hts gX5_readSupport_X5_takeNameFor rfl rfl rfl hd5_takeNameFor ⟨Nat.le_of_ble_eq_true rfl, Nat.le_of_ble_eq_true rfl⟩) (pre_V hK hX hI hA hS hv_this rfl rfl [.ref (G.2.2.1 6 (4 * 2))]) rfl rfl hl.1 rfl (lv_room (Nat.le_of_ble_eq_true rfl)) dX5_readSupport_8 ⟨Nat.le_of_ble_eq_true rfl, Nat.le_of_ble_eq_true rfl⟩) hS (fun z1 st2 h H locs hI hS => ?_)
  obtain ⟨g3, h⟩ := h
  refine r_if_ne (tgt := 16) hx hb dX5_readSupport_11 (by decide) g3 (fun c4 => ?_) (fun c4 => ?_)
  · replace h := h.2 c4
    refine lv_aload_n hx hb dX5_readSupport_16 rfl (lv_at hl 0 rfl) ?_
    refine r_iconst (n := 0) hx hb dX5_readSupport_17 ?_
    refine lv_aload_n hx hb dX5_readSupport_18 rfl (lv_at hl 0 rfl) ?_
    refine gg_5_1 hx hb hts in5 hown hK hI hv_this lk_21 dX5_readSupport_19 ?_
    refine gg_0_0 hx hb hts in0 hown hK hI (vrC_5_1 hv_this) lk_70 dX5_readSupport_22 ?_
    refine r_calli (va_runV (As := [.int (iI 0), .int (iI (st2 0 0 2 0))]) (rest := []) ⟨hx, hb, hml, hown, hts⟩ (m5_takeFreePlace l G hv_this _ st2 0 (st2 0 0 2 0) h) (cwV 2 hts gX5_readSupport_X5_takeFreePlace rfl rfl rfl hd5_takeFreePlace ⟨Nat.le_of_ble_eq_true rfl, Nat.le_of_ble_eq_true rfl⟩) (pre_V hK hX hI hA hS hv_this rfl rfl [.int (iI 0), .int (iI (st2 0 0 2 0))]) rfl rfl hl.1 rfl (lv_room (Nat.le_of_ble_eq_true rfl)) dX5_readSupport_25 ⟨Nat.le_of_ble_eq_true rfl, Nat.le_of_ble_eq_true rfl⟩) hS (fun z5 st6 h H locs hI hS => ?_)
    refine lv_istore_n (lv' := [(1, .int (iI z5)), (0, .ref (G.2.2.1 5 0))]) hx hb dX5_readSupport_28 rfl hl (by decide) rfl (fun ls hl => ?_)
    refine lv_iload_n hx hb dX5_readSupport_29 rfl (lv_at hl 0 rfl) ?_
    refine r_iconst (n := (-1)) hx hb dX5_readSupport_30 ?_
    obtain ⟨g7, h⟩ := h
    refine r_icmp_ne (tgt := 36) hx hb dX5_readSupport_31 (by decide) g7 (inI_mk rfl) (fun c8 => ?_) (fun c8 => ?_)
    · replace h := h.2 c8
      refine r_iconst (n := (-1)) hx hb dX5_readSupport_36 ?_
      refine lv_istore_n (lv' := [(2, .int (iI (-1))), (1, .int (iI z5)), (0, .ref (G.2.2.1 5 0))]) hx hb dX5_readSupport_37 rfl hl (by decide) rfl (fun ls hl => ?_)
      refine lv_aload_n hx hb dX5_readSupport_38 rfl (lv_at hl 2 rfl) ?_
      refine gg_5_0 hx hb hts in5 hown hK hI hv_this lk_12 dX5_readSupport_39 ?_
      refine lv_aload_n hx hb dX5_readSupport_42 rfl (lv_at hl 2 rfl) ?_
      refine gg_5_2 hx hb hts in5 hown hK hI hv_this lk_25 dX5_readSupport_43 ?_
      refine va_ldcS hx hb hown (hX.2.2.2.2.2.2.1 ("BeamLines$Reader", 128, "bears", 8) (by decide)) dX5_readSupport_46 ?_
      refine r_calli (va_runV (As := [.int (iI (st6 5 2 0 0)), .ref (G.2.2.2.2.1 8)]) (rest := []) ⟨hx, hb, hml, hown, hts⟩ (m7_isWord l G 8 (vrC_5_0 hv_this) (by decide) _ st6 (st6 5 2 0 0) h) (cwV 2 hts gX5_readSupport_X7_isWord rfl rfl rfl hd7_isWord ⟨Nat.le_of_ble_eq_true rfl, Nat.le_of_ble_eq_true rfl⟩) (pre_V hK hX hI hA hS (vrC_5_0 hv_this) rfl rfl [.int (iI (st6 5 2 0 0)), .ref (G.2.2.2.2.1 8)]) rfl rfl hl.1 rfl (lv_room (Nat.le_of_ble_eq_true rfl)) dX5_readSupport_48 ⟨Nat.le_of_ble_eq_true rfl, Nat.le_of_ble_eq_true rfl⟩) hS (fun z9 st10 h H locs hI hS => ?_)
      obtain ⟨g11, h⟩ := h
      refine r_if_eq (tgt := 79) hx hb dX5_readSupport_51 (by decide) g11 (fun c12 => ?_) (fun c12 => ?_)
      · replace h := h.1 c12
        exact J79 st10 z5 (-1) _ _ ls hI hS (lv_sub hl [2, 1, 0] rfl) h
      · replace h := h.2 c12
        refine lv_aload_n hx hb dX5_readSupport_54 rfl (lv_at hl 2 rfl) ?_
        refine lv_dup hx hb dX5_readSupport_55 rfl ?_
        refine gg_5_2 hx hb hts in5 hown hK hI hv_this lk_25 dX5_readSupport_56 ?_
        refine r_iconst (n := 1) hx hb dX5_readSupport_59 ?_
        refine r_iadd hx hb dX5_readSupport_60 ?_
        refine pp_5_2 hx hb hts in5 hown hK hI hS hv_this lk_25 dX5_readSupport_61 (fun st13 hst13 H locs hI hS => ?_)
        replace h := h st13 hst13
        refine lv_aload_n hx hb dX5_readSupport_64 rfl (lv_at hl 2 rfl) ?_
        refine r_iconst (n := 1) hx hb dX5_readSupport_65 ?_
        refine lv_ldc (v := iI 99999) hx hb hown kc_130 dX5_readSupport_66 ?_
        refine r_calli (va_runV (As := [.int (iI 1), .int (iI 99999)]) (rest := []) ⟨hx, hb, hml, hown, hts⟩ (m5_takeNumber l G hv_this _ st13 1 99999 h) (cwV 2 hts gX5_readSupport_X5_takeNumber rfl rfl rfl hd5_takeNumber ⟨Nat.le_of_ble_eq_true rfl, Nat.le_of_ble_eq_true rfl⟩) (pre_V hK hX hI hA hS hv_this rfl rfl [.int (iI 1), .int (iI 99999)]) rfl rfl hl.1 rfl (lv_room (Nat.le_of_ble_eq_true rfl)) dX5_readSupport_68 ⟨Nat.le_of_ble_eq_true rfl, Nat.le_of_ble_eq_true rfl⟩) hS (fun z14 st15 h H locs hI hS => ?_)
        refine lv_istore_n (lv' := [(2, .int (iI z14)), (1, .int (iI z5)), (0, .ref (G.2.2.1 5 0))]) hx hb dX5_readSupport_71 rfl hl (by decide) rfl (fun ls hl => ?_)
        refine lv_iload_n hx hb dX5_readSupport_72 rfl (lv_at hl 0 rfl) ?_
        refine r_iconst (n := (-1)) hx hb dX5_readSupport_73 ?_
        obtain ⟨g16, h⟩ := h
        refine r_icmp_ne (tgt := 79) hx hb dX5_readSupport_74 (by decide) g16 (inI_mk rfl) (fun c17 => ?_) (fun c17 => ?_)
        · replace h := h.2 c17
          exact J79 st15 z5 z14 _ _ ls hI hS (lv_sub hl [2, 1, 0] rfl) h
        · replace h := h.1 c17
          refine r_iconst (n := 0) hx hb dX5_readSupport_77 ?_
          exact r_zret hx hb hr hlocks hK hI hS (Qp := Q) (by decide) h dX5_readSupport_78
    · replace h := h.1 c8
      refine r_iconst (n := 0) hx hb dX5_readSupport_34 ?_
      exact r_zret hx hb hr hlocks hK hI hS (Qp := Q) (by decide) h dX5_readSupport_35
  · replace h := h.1 c4
    refine r_iconst (n := 0) hx hb dX5_readSupport_14 ?_
    exact r_zret hx hb hr hlocks hK hI hS (Qp := Q) (by decide) h dX5_readSupport_15
theorem hd5_readHinge : yX5_readHinge.cls = RX5 ∧ yX5_readHinge.cls ≠ "java/lang/invoke/MethodHandle" ∧ yX5_readHinge.cls ≠ "java/lang/invoke/VarHandle" ∧ (parseMethodDescriptor yX5_readHinge.desc).map (fun d => d.parameters.length) = some 0 := by decide +kernel
set_option maxHeartbeats 4000000 in
set_option maxRecDepth 100000 in
theorem m5_readHinge (l : Launch) (G : WG)   (hv_this : vC 5 0) (Q : Int → St → Prop) (st : St)  (h : f5_readHinge Q st) : Met l yX5_readHinge wsX5_readHinge ({ frames := 3, cells := 0, slots := 0, locals := 69 }) (PcM vC G st [.ref (G.2.2.1 5 0)]) (QiM vC G Q) 0 0 G.2.2.2.1 := by
  refine Met.ofW (cc := cX5_readHinge) (maxL := 2) (ret := (some .boolean)) (by decide) rfl ?_
  intro p e s m args below meth c s₁ B hml hvv
  obtain ⟨rfl, hA, hI, hK, hX⟩ := hvv
  have hx := B.exec
  have hb := B.bytes
  have hr := B.returns
  have hts := atoms_spec (ws := wsX5_readHinge) B.pre
  have hown : s.vm.findClass RX5 = some m.cls := findClass_of_methodNamed B.named
  have hlocks := B.notSynchronized
  have hS : va_S G.2.2.2.1 s.heap s.heap [] := va_S.rf
  have in0 : ∀ w ∈ wsX00, w ∈ wsX5_readHinge := by decide +kernel
  have in5 : ∀ w ∈ wsX50, w ∈ wsX5_readHinge := by decide +kernel
  have lk_21 := hts (.fieldLink RX5 21 "BeamLines$Reader" "beam" "LBeamLines$Beam;") (by decide +kernel)
  have lk_70 := hts (.fieldLink RX5 70 "BeamLines$Beam" "length" "I") (by decide +kernel)
  have lk_136 := hts (.fieldLink RX5 136 "BeamLines$Beam" "hinges" "LBeamLines$Row;") (by decide +kernel)
  have hl := lv_entry ([.ref (G.2.2.1 5 0)]) (n := 2) (Nat.le_of_ble_eq_true rfl)
  rw [lg_entry_eq]
  generalize (lg_sl ([.ref (G.2.2.1 5 0)]) ++ List.replicate (2 - (lg_sl ([.ref (G.2.2.1 5 0)])).length) Slot.unset).toArray = ls at hl ⊢
  have hl : lv_has ls 2 [(0, .ref (G.2.2.1 5 0))] := hl
  unfold f5_readHinge at h
  refine lv_aload_n hx hb dX5_readHinge_0 rfl (lv_at hl 0 rfl) ?_
  refine lv_aload_n hx hb dX5_readHinge_1 rfl (lv_at hl 0 rfl) ?_
  refine gg_5_1 hx hb hts in5 hown hK hI hv_this lk_21 dX5_readHinge_2 ?_
  refine gg_0_3 hx hb hts in0 hown hK hI (vrC_5_1 hv_this) lk_136 dX5_readHinge_5 ?_
  refine r_calli (va_runV (As := [.ref (G.2.2.1 6 (4 * 2 + 1))]) (rest := []) ⟨hx, hb, hml, hown, hts⟩ (m5_takeNameFor l G (4 * 2 + 1) hv_this (vrC_0_3 (vrC_5_1 hv_this)) _ st h) (cwV 1 hts gX5_readHinge_X5_takeNameFor rfl rfl rfl hd5_takeNameFor ⟨Nat.le_of_ble_eq_true rfl, Nat.le_of_ble_eq_true rfl⟩) (pre_V hK hX hI hA hS hv_this rfl rfl [.ref (G.2.2.1 6 (4 * 2 + 1))]) rfl rfl hl.1 rfl (lv_room (Nat.le_of_ble_eq_true rfl)) dX5_readHinge_8 ⟨Nat.le_of_ble_eq_true rfl, Nat.le_of_ble_eq_true rfl⟩) hS (fun z1 st2 h H locs hI hS => ?_)
  obtain ⟨g3, h⟩ := h
  refine r_if_ne (tgt := 16) hx hb dX5_readHinge_11 (by decide) g3 (fun c4 => ?_) (fun c4 => ?_)
  · replace h := h.2 c4
    refine lv_aload_n hx hb dX5_readHinge_16 rfl (lv_at hl 0 rfl) ?_
    refine r_iconst (n := 1) hx hb dX5_readHinge_17 ?_
    refine lv_aload_n hx hb dX5_readHinge_18 rfl (lv_at hl 0 rfl) ?_
    refine gg_5_1 hx hb hts in5 hown hK hI hv_this lk_21 dX5_readHinge_19 ?_
    refine gg_0_0 hx hb hts in0 hown hK hI (vrC_5_1 hv_this) lk_70 dX5_readHinge_22 ?_
    refine r_iconst (n := 1) hx hb dX5_readHinge_25 ?_
    refine r_isub hx hb dX5_readHinge_26 ?_
    refine r_calli (va_runV (As := [.int (iI 1), .int (iI ((st2 0 0 2 0) - 1))]) (rest := []) ⟨hx, hb, hml, hown, hts⟩ (m5_takeFreePlace l G hv_this _ st2 1 ((st2 0 0 2 0) - 1) h) (cwV 2 hts gX5_readHinge_X5_takeFreePlace rfl rfl rfl hd5_takeFreePlace ⟨Nat.le_of_ble_eq_true rfl, Nat.le_of_ble_eq_true rfl⟩) (pre_V hK hX hI hA hS hv_this rfl rfl [.int (iI 1), .int (iI ((st2 0 0 2 0) - 1))]) rfl rfl hl.1 rfl (lv_room (Nat.le_of_ble_eq_true rfl)) dX5_readHinge_27 ⟨Nat.le_of_ble_eq_true rfl, Nat.le_of_ble_eq_true rfl⟩) hS (fun z5 st6 h H locs hI hS => ?_)
    refine lv_istore_n (lv' := [(1, .int (iI z5)), (0, .ref (G.2.2.1 5 0))]) hx hb dX5_readHinge_30 rfl hl (by decide) rfl (fun ls hl => ?_)
    refine lv_iload_n hx hb dX5_readHinge_31 rfl (lv_at hl 0 rfl) ?_
    refine r_iconst (n := (-1)) hx hb dX5_readHinge_32 ?_
    obtain ⟨g7, h⟩ := h
    refine r_icmp_ne (tgt := 38) hx hb dX5_readHinge_33 (by decide) g7 (inI_mk rfl) (fun c8 => ?_) (fun c8 => ?_)
    · replace h := h.2 c8
      refine lv_aload_n hx hb dX5_readHinge_38 rfl (lv_at hl 1 rfl) ?_
      refine gg_5_1 hx hb hts in5 hown hK hI hv_this lk_21 dX5_readHinge_39 ?_
      refine gg_0_3 hx hb hts in0 hown hK hI (vrC_5_1 hv_this) lk_136 dX5_readHinge_42 ?_
      refine lv_iload_n hx hb dX5_readHinge_45 rfl (lv_at hl 0 rfl) ?_
      refine r_iconst (n := 0) hx hb dX5_readHinge_46 ?_
      refine r_calli (va_runV (As := [.int (iI z5), .int (iI 0)]) (rest := []) ⟨hx, hb, hml, hown, hts⟩ (m6_putInOrder l G (4 * 2 + 1) (vrC_0_3 (vrC_5_1 hv_this)) _ st6 z5 0 h) (cwV 2 hts gX5_readHinge_X6_putInOrder rfl rfl rfl hd6_putInOrder ⟨Nat.le_of_ble_eq_true rfl, Nat.le_of_ble_eq_true rfl⟩) (pre_V hK hX hI hA hS (vrC_0_3 (vrC_5_1 hv_this)) rfl rfl [.int (iI z5), .int (iI 0)]) rfl rfl hl.1 rfl (lv_room (Nat.le_of_ble_eq_true rfl)) dX5_readHinge_47 ⟨Nat.le_of_ble_eq_true rfl, Nat.le_of_ble_eq_true rfl⟩) hS (fun z9 st10 h H locs hI hS => ?_)
      refine lv_pop hx hb dX5_readHinge_50 rfl ?_
      refine lv_aload_n hx hb dX5_readHinge_51 rfl (lv_at hl 1 rfl) ?_
      refine r_calli (va_runV (As := []) (rest := []) ⟨hx, hb, hml, hown, hts⟩ (m5_takeSemicolon l G hv_this _ st10 h) (cwV 0 hts gX5_readHinge_X5_takeSemicolon rfl rfl rfl hd5_takeSemicolon ⟨Nat.le_of_ble_eq_true rfl, Nat.le_of_ble_eq_true rfl⟩) (pre_V hK hX hI hA hS hv_this rfl rfl []) rfl rfl hl.1 rfl (lv_room (Nat.le_of_ble_eq_true rfl)) dX5_readHinge_52 ⟨Nat.le_of_ble_eq_true rfl, Nat.le_of_ble_eq_true rfl⟩) hS (fun z11 st12 h H locs hI hS => ?_)
      obtain ⟨g13, h⟩ := h
      exact r_zret hx hb hr hlocks hK hI hS (Qp := Q) g13 h dX5_readHinge_55
    · replace h := h.1 c8
      refine r_iconst (n := 0) hx hb dX5_readHinge_36 ?_
      exact r_zret hx hb hr hlocks hK hI hS (Qp := Q) (by decide) h dX5_readHinge_37
  · replace h := h.1 c4
    refine r_iconst (n := 0) hx hb dX5_readHinge_14 ?_
    exact r_zret hx hb hr hlocks hK hI hS (Qp := Q) (by decide) h dX5_readHinge_15
theorem hd6_putLast : yX6_putLast.cls = RX6 ∧ yX6_putLast.cls ≠ "java/lang/invoke/MethodHandle" ∧ yX6_putLast.cls ≠ "java/lang/invoke/VarHandle" ∧ (parseMethodDescriptor yX6_putLast.desc).map (fun d => d.parameters.length) = some 2 := by decide +kernel
set_option maxHeartbeats 4000000 in
set_option maxRecDepth 100000 in
theorem m6_putLast (l : Launch) (G : WG)  (o : Int) (hv_this : vC 6 o) (Q : Int → St → Prop) (st : St) (a0 : Int) (a1 : Int) (h : f6_putLast o Q st a0 a1) : Met l yX6_putLast wsX6_putLast ({ frames := 2, cells := 0, slots := 0, locals := 44 }) (PcM vC G st [.ref (G.2.2.1 6 o), .int (iI a0), .int (iI a1)]) (QiM vC G Q) 0 0 G.2.2.2.1 := by
  refine Met.ofW (cc := cX6_putLast) (maxL := 3) (ret := (some .int)) (by decide) rfl ?_
  intro p e s m args below meth c s₁ B hml hvv
  obtain ⟨rfl, hA, hI, hK, hX⟩ := hvv
  have hx := B.exec
  have hb := B.bytes
  have hr := B.returns
  have hts := atoms_spec (ws := wsX6_putLast) B.pre
  have hown : s.vm.findClass RX6 = some m.cls := findClass_of_methodNamed B.named
  have hlocks := B.notSynchronized
  have hS : va_S G.2.2.2.1 s.heap s.heap [] := va_S.rf
  have in6 : ∀ w ∈ wsX60, w ∈ wsX6_putLast := by decide +kernel
  have lk_9 := hts (.fieldLink RX6 9 "BeamLines$Row" "size" "I") (by decide +kernel)
  have hl := lv_entry ([.ref (G.2.2.1 6 o), .int (iI a0), .int (iI a1)]) (n := 3) (Nat.le_of_ble_eq_true rfl)
  rw [lg_entry_eq]
  generalize (lg_sl ([.ref (G.2.2.1 6 o), .int (iI a0), .int (iI a1)]) ++ List.replicate (3 - (lg_sl ([.ref (G.2.2.1 6 o), .int (iI a0), .int (iI a1)])).length) Slot.unset).toArray = ls at hl ⊢
  have hl : lv_has ls 3 [(0, .ref (G.2.2.1 6 o)), (1, .int (iI a0)), (2, .int (iI a1))] := hl
  unfold f6_putLast at h
  refine lv_aload_n hx hb dX6_putLast_0 rfl (lv_at hl 0 rfl) ?_
  refine lv_aload_n hx hb dX6_putLast_1 rfl (lv_at hl 0 rfl) ?_
  refine gg_6_2 hx hb hts in6 hown hK hI hv_this lk_9 dX6_putLast_2 ?_
  refine lv_iload_n hx hb dX6_putLast_5 rfl (lv_at hl 1 rfl) ?_
  refine lv_iload_n hx hb dX6_putLast_6 rfl (lv_at hl 2 rfl) ?_
  refine r_calli (va_runV (As := [.int (iI (st 6 2 o 0)), .int (iI a0), .int (iI a1)]) (rest := []) ⟨hx, hb, hml, hown, hts⟩ (m6_putAt l G o hv_this _ st (st 6 2 o 0) a0 a1 h) (cwV 3 hts gX6_putLast_X6_putAt rfl rfl rfl hd6_putAt ⟨Nat.le_of_ble_eq_true rfl, Nat.le_of_ble_eq_true rfl⟩) (pre_V hK hX hI hA hS hv_this rfl rfl [.int (iI (st 6 2 o 0)), .int (iI a0), .int (iI a1)]) rfl rfl hl.1 rfl (lv_room (Nat.le_of_ble_eq_true rfl)) dX6_putLast_7 ⟨Nat.le_of_ble_eq_true rfl, Nat.le_of_ble_eq_true rfl⟩) hS (fun z1 st2 h H locs hI hS => ?_)
  exact r_iret hx hb hr hlocks hK hI hS (Qp := Q) h dX6_putLast_10
theorem hd5_readWeight : yX5_readWeight.cls = RX5 ∧ yX5_readWeight.cls ≠ "java/lang/invoke/MethodHandle" ∧ yX5_readWeight.cls ≠ "java/lang/invoke/VarHandle" ∧ (parseMethodDescriptor yX5_readWeight.desc).map (fun d => d.parameters.length) = some 3 := by decide +kernel
set_option maxHeartbeats 4000000 in
set_option maxRecDepth 100000 in
theorem m5_readWeight (l : Launch) (G : WG)  (a0 : Int) (a1 : Nat) (hv_this : vC 5 0) (hv_a0 : vC 6 a0) (hv_a1 : a1 < 9) (Q : Int → St → Prop) (st : St) (a2 : Int) (h : f5_readWeight a0 a1 Q st a2) : Met l yX5_readWeight wsX5_readWeight ({ frames := 6, cells := 0, slots := 0, locals := 134 }) (PcM vC G st [.ref (G.2.2.1 5 0), .ref (G.2.2.1 6 a0), .ref (G.2.2.2.2.1 a1), .int (iI a2)]) (QiM vC G Q) 0 0 G.2.2.2.1 := by
  refine Met.ofW (cc := cX5_readWeight) (maxL := 6) (ret := (some .boolean)) (by decide) rfl ?_
  intro p e s m args below meth c s₁ B hml hvv
  obtain ⟨rfl, hA, hI, hK, hX⟩ := hvv
  have hx := B.exec
  have hb := B.bytes
  have hr := B.returns
  have hts := atoms_spec (ws := wsX5_readWeight) B.pre
  have hown : s.vm.findClass RX5 = some m.cls := findClass_of_methodNamed B.named
  have hlocks := B.notSynchronized
  have hS : va_S G.2.2.2.1 s.heap s.heap [] := va_S.rf
  have hl := lv_entry ([.ref (G.2.2.1 5 0), .ref (G.2.2.1 6 a0), .ref (G.2.2.2.2.1 a1), .int (iI a2)]) (n := 6) (Nat.le_of_ble_eq_true rfl)
  rw [lg_entry_eq]
  generalize (lg_sl ([.ref (G.2.2.1 5 0), .ref (G.2.2.1 6 a0), .ref (G.2.2.2.2.1 a1), .int (iI a2)]) ++ List.replicate (6 - (lg_sl ([.ref (G.2.2.1 5 0), .ref (G.2.2.1 6 a0), .ref (G.2.2.2.2.1 a1), .int (iI a2)])).length) Slot.unset).toArray = ls at hl ⊢
  have hl : lv_has ls 6 [(0, .ref (G.2.2.1 5 0)), (1, .ref (G.2.2.1 6 a0)), (2, .ref (G.2.2.2.2.1 a1)), (3, .int (iI a2))] := hl
  unfold f5_readWeight at h
  refine lv_aload_n hx hb dX5_readWeight_0 rfl (lv_at hl 0 rfl) ?_
  refine lv_aload_n hx hb dX5_readWeight_1 rfl (lv_at hl 1 rfl) ?_
  refine r_calli (va_runV (As := [.ref (G.2.2.1 6 a0)]) (rest := []) ⟨hx, hb, hml, hown, hts⟩ (m5_takeNameFor l G a0 hv_this hv_a0 _ st h) (cwV 1 hts gX5_readWeight_X5_takeNameFor rfl rfl rfl hd5_takeNameFor ⟨Nat.le_of_ble_eq_true rfl, Nat.le_of_ble_eq_true rfl⟩) (pre_V hK hX hI hA hS hv_this rfl rfl [.ref (G.2.2.1 6 a0)]) rfl rfl hl.1 rfl (lv_room (Nat.le_of_ble_eq_true rfl)) dX5_readWeight_2 ⟨Nat.le_of_ble_eq_true rfl, Nat.le_of_ble_eq_true rfl⟩) hS (fun z1 st2 h H locs hI hS => ?_)
  obtain ⟨g3, h⟩ := h
  refine r_if_ne (tgt := 10) hx hb dX5_readWeight_5 (by decide) g3 (fun c4 => ?_) (fun c4 => ?_)
  · replace h := h.2 c4
    refine lv_aload_n hx hb dX5_readWeight_10 rfl (lv_at hl 0 rfl) ?_
    refine r_iconst (n := 1) hx hb dX5_readWeight_11 ?_
    refine r_sipush (n := 999) hx hb dX5_readWeight_12 rfl ?_
    refine r_calli (va_runV (As := [.int (iI 1), .int (iI 999)]) (rest := []) ⟨hx, hb, hml, hown, hts⟩ (m5_takeNumber l G hv_this _ st2 1 999 h) (cwV 2 hts gX5_readWeight_X5_takeNumber rfl rfl rfl hd5_takeNumber ⟨Nat.le_of_ble_eq_true rfl, Nat.le_of_ble_eq_true rfl⟩) (pre_V hK hX hI hA hS hv_this rfl rfl [.int (iI 1), .int (iI 999)]) rfl rfl hl.1 rfl (lv_room (Nat.le_of_ble_eq_true rfl)) dX5_readWeight_15 ⟨Nat.le_of_ble_eq_true rfl, Nat.le_of_ble_eq_true rfl⟩) hS (fun z5 st6 h H locs hI hS => ?_)
    refine lv_istore (lv' := [(4, .int (iI z5)), (0, .ref (G.2.2.1 5 0)), (1, .ref (G.2.2.1 6 a0)), (2, .ref (G.2.2.2.2.1 a1)), (3, .int (iI a2))]) hx hb dX5_readWeight_18 hl (by decide) rfl (fun ls hl => ?_)
    refine lv_iload hx hb dX5_readWeight_20 (lv_at hl 0 rfl) ?_
    refine r_iconst (n := (-1)) hx hb dX5_readWeight_22 ?_
    obtain ⟨g7, h⟩ := h
    refine r_icmp_eq (tgt := 34) hx hb dX5_readWeight_23 (by decide) g7 (inI_mk rfl) (fun c8 => ?_) (fun c8 => ?_)
    · replace h := h.1 c8
      refine r_iconst (n := 0) hx hb dX5_readWeight_34 ?_
      exact r_zret hx hb hr hlocks hK hI hS (Qp := Q) (by decide) h dX5_readWeight_35
    · replace h := h.2 c8
      refine lv_aload_n hx hb dX5_readWeight_26 rfl (lv_at hl 1 rfl) ?_
      refine lv_aload_n hx hb dX5_readWeight_27 rfl (lv_at hl 3 rfl) ?_
      refine r_calli (va_runV (As := [.ref (G.2.2.2.2.1 a1)]) (rest := []) ⟨hx, hb, hml, hown, hts⟩ (m5_takeWord l G a1 hv_this hv_a1 _ st6 h) (cwV 1 hts gX5_readWeight_X5_takeWord rfl rfl rfl hd5_takeWord ⟨Nat.le_of_ble_eq_true rfl, Nat.le_of_ble_eq_true rfl⟩) (pre_V hK hX hI hA hS hv_this rfl rfl [.ref (G.2.2.2.2.1 a1)]) rfl rfl hl.1 rfl (lv_room (Nat.le_of_ble_eq_true rfl)) dX5_readWeight_28 ⟨Nat.le_of_ble_eq_true rfl, Nat.le_of_ble_eq_true rfl⟩) hS (fun z9 st10 h H locs hI hS => ?_)
      obtain ⟨g11, h⟩ := h
      refine r_if_ne (tgt := 36) hx hb dX5_readWeight_31 (by decide) g11 (fun c12 => ?_) (fun c12 => ?_)
      · replace h := h.2 c12
        refine lv_aload_n hx hb dX5_readWeight_36 rfl (lv_at hl 1 rfl) ?_
        refine r_iconst (n := 0) hx hb dX5_readWeight_37 ?_
        refine lv_iload_n hx hb dX5_readWeight_38 rfl (lv_at hl 4 rfl) ?_
        refine r_calli (va_runV (As := [.int (iI 0), .int (iI a2)]) (rest := []) ⟨hx, hb, hml, hown, hts⟩ (m5_takeNumber l G hv_this _ st10 0 a2 h) (cwV 2 hts gX5_readWeight_X5_takeNumber rfl rfl rfl hd5_takeNumber ⟨Nat.le_of_ble_eq_true rfl, Nat.le_of_ble_eq_true rfl⟩) (pre_V hK hX hI hA hS hv_this rfl rfl [.int (iI 0), .int (iI a2)]) rfl rfl hl.1 rfl (lv_room (Nat.le_of_ble_eq_true rfl)) dX5_readWeight_39 ⟨Nat.le_of_ble_eq_true rfl, Nat.le_of_ble_eq_true rfl⟩) hS (fun z13 st14 h H locs hI hS => ?_)
        refine lv_istore (lv' := [(5, .int (iI z13)), (4, .int (iI z5)), (0, .ref (G.2.2.1 5 0)), (1, .ref (G.2.2.1 6 a0)), (2, .ref (G.2.2.2.2.1 a1)), (3, .int (iI a2))]) hx hb dX5_readWeight_42 hl (by decide) rfl (fun ls hl => ?_)
        refine lv_iload hx hb dX5_readWeight_44 (lv_at hl 0 rfl) ?_
        refine r_iconst (n := (-1)) hx hb dX5_readWeight_46 ?_
        obtain ⟨g15, h⟩ := h
        refine r_icmp_ne (tgt := 52) hx hb dX5_readWeight_47 (by decide) g15 (inI_mk rfl) (fun c16 => ?_) (fun c16 => ?_)
        · replace h := h.2 c16
          refine lv_aload_n hx hb dX5_readWeight_52 rfl (lv_at hl 3 rfl) ?_
          refine lv_iload hx hb dX5_readWeight_53 (lv_at hl 1 rfl) ?_
          refine lv_iload hx hb dX5_readWeight_55 (lv_at hl 0 rfl) ?_
          refine r_calli (va_runV (As := [.int (iI z5), .int (iI z13)]) (rest := []) ⟨hx, hb, hml, hown, hts⟩ (m6_putLast l G a0 hv_a0 _ st14 z5 z13 h) (cwV 2 hts gX5_readWeight_X6_putLast rfl rfl rfl hd6_putLast ⟨Nat.le_of_ble_eq_true rfl, Nat.le_of_ble_eq_true rfl⟩) (pre_V hK hX hI hA hS hv_a0 rfl rfl [.int (iI z5), .int (iI z13)]) rfl rfl hl.1 rfl (lv_room (Nat.le_of_ble_eq_true rfl)) dX5_readWeight_57 ⟨Nat.le_of_ble_eq_true rfl, Nat.le_of_ble_eq_true rfl⟩) hS (fun z17 st18 h H locs hI hS => ?_)
          refine lv_pop hx hb dX5_readWeight_60 rfl ?_
          refine lv_aload_n hx hb dX5_readWeight_61 rfl (lv_at hl 2 rfl) ?_
          refine r_calli (va_runV (As := []) (rest := []) ⟨hx, hb, hml, hown, hts⟩ (m5_takeSemicolon l G hv_this _ st18 h) (cwV 0 hts gX5_readWeight_X5_takeSemicolon rfl rfl rfl hd5_takeSemicolon ⟨Nat.le_of_ble_eq_true rfl, Nat.le_of_ble_eq_true rfl⟩) (pre_V hK hX hI hA hS hv_this rfl rfl []) rfl rfl hl.1 rfl (lv_room (Nat.le_of_ble_eq_true rfl)) dX5_readWeight_62 ⟨Nat.le_of_ble_eq_true rfl, Nat.le_of_ble_eq_true rfl⟩) hS (fun z19 st20 h H locs hI hS => ?_)
          obtain ⟨g21, h⟩ := h
          exact r_zret hx hb hr hlocks hK hI hS (Qp := Q) g21 h dX5_readWeight_65
        · replace h := h.1 c16
          refine r_iconst (n := 0) hx hb dX5_readWeight_50 ?_
          exact r_zret hx hb hr hlocks hK hI hS (Qp := Q) (by decide) h dX5_readWeight_51
      · replace h := h.1 c12
        refine r_iconst (n := 0) hx hb dX5_readWeight_34 ?_
        exact r_zret hx hb hr hlocks hK hI hS (Qp := Q) (by decide) h dX5_readWeight_35
  · replace h := h.1 c4
    refine r_iconst (n := 0) hx hb dX5_readWeight_8 ?_
    exact r_zret hx hb hr hlocks hK hI hS (Qp := Q) (by decide) h dX5_readWeight_9
theorem hd5_readStatement : yX5_readStatement.cls = RX5 ∧ yX5_readStatement.cls ≠ "java/lang/invoke/MethodHandle" ∧ yX5_readStatement.cls ≠ "java/lang/invoke/VarHandle" ∧ (parseMethodDescriptor yX5_readStatement.desc).map (fun d => d.parameters.length) = some 0 := by decide +kernel
set_option maxHeartbeats 4000000 in
set_option maxRecDepth 100000 in
theorem m5_readStatement (l : Launch) (G : WG)   (hv_this : vC 5 0) (Q : Int → St → Prop) (st : St)  (h : f5_readStatement Q st) : Met l yX5_readStatement wsX5_readStatement ({ frames := 7, cells := 0, slots := 0, locals := 159 }) (PcM vC G st [.ref (G.2.2.1 5 0)]) (QiM vC G Q) 0 0 G.2.2.2.1 := by
  refine Met.ofW (cc := cX5_readStatement) (maxL := 1) (ret := (some .boolean)) (by decide) rfl ?_
  intro p e s m args below meth c s₁ B hml hvv
  obtain ⟨rfl, hA, hI, hK, hX⟩ := hvv
  have hx := B.exec
  have hb := B.bytes
  have hr := B.returns
  have hts := atoms_spec (ws := wsX5_readStatement) B.pre
  have hown : s.vm.findClass RX5 = some m.cls := findClass_of_methodNamed B.named
  have hlocks := B.notSynchronized
  have hS : va_S G.2.2.2.1 s.heap s.heap [] := va_S.rf
  have in0 : ∀ w ∈ wsX00, w ∈ wsX5_readStatement := by decide +kernel
  have in5 : ∀ w ∈ wsX50, w ∈ wsX5_readStatement := by decide +kernel
  have lk_12 := hts (.fieldLink RX5 12 "BeamLines$Reader" "text" "LBeamLines$Text;") (by decide +kernel)
  have lk_21 := hts (.fieldLink RX5 21 "BeamLines$Reader" "beam" "LBeamLines$Beam;") (by decide +kernel)
  have lk_25 := hts (.fieldLink RX5 25 "BeamLines$Reader" "token" "I") (by decide +kernel)
  have lk_70 := hts (.fieldLink RX5 70 "BeamLines$Beam" "length" "I") (by decide +kernel)
  have lk_94 := hts (.fieldLink RX5 94 "BeamLines$Beam" "loads" "LBeamLines$Row;") (by decide +kernel)
  have lk_106 := hts (.fieldLink RX5 106 "BeamLines$Beam" "axles" "LBeamLines$Row;") (by decide +kernel)
  have hl := lv_entry ([.ref (G.2.2.1 5 0)]) (n := 1) (Nat.le_of_ble_eq_true rfl)
  rw [lg_entry_eq]
  generalize (lg_sl ([.ref (G.2.2.1 5 0)]) ++ List.replicate (1 - (lg_sl ([.ref (G.2.2.1 5 0)])).length) Slot.unset).toArray = ls at hl ⊢
  have hl : lv_has ls 1 [(0, .ref (G.2.2.1 5 0))] := hl
  unfold f5_readStatement at h
  refine lv_aload_n hx hb dX5_readStatement_0 rfl (lv_at hl 0 rfl) ?_
  refine gg_5_0 hx hb hts in5 hown hK hI hv_this lk_12 dX5_readStatement_1 ?_
  refine lv_aload_n hx hb dX5_readStatement_4 rfl (lv_at hl 0 rfl) ?_
  refine gg_5_2 hx hb hts in5 hown hK hI hv_this lk_25 dX5_readStatement_5 ?_
  refine va_ldcS hx hb hown (hX.2.2.2.2.2.2.1 ("BeamLines$Reader", 78, "support", 2) (by decide)) dX5_readStatement_8 ?_
  refine r_calli (va_runV (As := [.int (iI (st 5 2 0 0)), .ref (G.2.2.2.2.1 2)]) (rest := []) ⟨hx, hb, hml, hown, hts⟩ (m7_isWord l G 2 (vrC_5_0 hv_this) (by decide) _ st (st 5 2 0 0) h) (cwV 2 hts gX5_readStatement_X7_isWord rfl rfl rfl hd7_isWord ⟨Nat.le_of_ble_eq_true rfl, Nat.le_of_ble_eq_true rfl⟩) (pre_V hK hX hI hA hS (vrC_5_0 hv_this) rfl rfl [.int (iI (st 5 2 0 0)), .ref (G.2.2.2.2.1 2)]) rfl rfl hl.1 rfl (lv_room (Nat.le_of_ble_eq_true rfl)) dX5_readStatement_10 ⟨Nat.le_of_ble_eq_true rfl, Nat.le_of_ble_eq_true rfl⟩) hS (fun z1 st2 h H locs hI hS => ?_)
  obtain ⟨g3, h⟩ := h
  refine r_if_eq (tgt := 21) hx hb dX5_readStatement_13 (by decide) g3 (fun c4 => ?_) (fun c4 => ?_)
  · replace h := h.1 c4
    refine lv_aload_n hx hb dX5_readStatement_21 rfl (lv_at hl 0 rfl) ?_
    refine gg_5_0 hx hb hts in5 hown hK hI hv_this lk_12 dX5_readStatement_22 ?_
    refine lv_aload_n hx hb dX5_readStatement_25 rfl (lv_at hl 0 rfl) ?_
    refine gg_5_2 hx hb hts in5 hown hK hI hv_this lk_25 dX5_readStatement_26 ?_
    refine va_ldcS hx hb hown (hX.2.2.2.2.2.2.1 ("BeamLines$Reader", 87, "hinge", 3) (by decide)) dX5_readStatement_29 ?_
    refine r_calli (va_runV (As := [.int (iI (st2 5 2 0 0)), .ref (G.2.2.2.2.1 3)]) (rest := []) ⟨hx, hb, hml, hown, hts⟩ (m7_isWord l G 3 (vrC_5_0 hv_this) (by decide) _ st2 (st2 5 2 0 0) h) (cwV 2 hts gX5_readStatement_X7_isWord rfl rfl rfl hd7_isWord ⟨Nat.le_of_ble_eq_true rfl, Nat.le_of_ble_eq_true rfl⟩) (pre_V hK hX hI hA hS (vrC_5_0 hv_this) rfl rfl [.int (iI (st2 5 2 0 0)), .ref (G.2.2.2.2.1 3)]) rfl rfl hl.1 rfl (lv_room (Nat.le_of_ble_eq_true rfl)) dX5_readStatement_31 ⟨Nat.le_of_ble_eq_true rfl, Nat.le_of_ble_eq_true rfl⟩) hS (fun z5 st6 h H locs hI hS => ?_)
    obtain ⟨g7, h⟩ := h
    refine r_if_eq (tgt := 42) hx hb dX5_readStatement_34 (by decide) g7 (fun c8 => ?_) (fun c8 => ?_)
    · replace h := h.1 c8
      refine lv_aload_n hx hb dX5_readStatement_42 rfl (lv_at hl 0 rfl) ?_
      refine gg_5_0 hx hb hts in5 hown hK hI hv_this lk_12 dX5_readStatement_43 ?_
      refine lv_aload_n hx hb dX5_readStatement_46 rfl (lv_at hl 0 rfl) ?_
      refine gg_5_2 hx hb hts in5 hown hK hI hv_this lk_25 dX5_readStatement_47 ?_
      refine va_ldcS hx hb hown (hX.2.2.2.2.2.2.1 ("BeamLines$Reader", 92, "load", 4) (by decide)) dX5_readStatement_50 ?_
      refine r_calli (va_runV (As := [.int (iI (st6 5 2 0 0)), .ref (G.2.2.2.2.1 4)]) (rest := []) ⟨hx, hb, hml, hown, hts⟩ (m7_isWord l G 4 (vrC_5_0 hv_this) (by decide) _ st6 (st6 5 2 0 0) h) (cwV 2 hts gX5_readStatement_X7_isWord rfl rfl rfl hd7_isWord ⟨Nat.le_of_ble_eq_true rfl, Nat.le_of_ble_eq_true rfl⟩) (pre_V hK hX hI hA hS (vrC_5_0 hv_this) rfl rfl [.int (iI (st6 5 2 0 0)), .ref (G.2.2.2.2.1 4)]) rfl rfl hl.1 rfl (lv_room (Nat.le_of_ble_eq_true rfl)) dX5_readStatement_52 ⟨Nat.le_of_ble_eq_true rfl, Nat.le_of_ble_eq_true rfl⟩) hS (fun z9 st10 h H locs hI hS => ?_)
      obtain ⟨g11, h⟩ := h
      refine r_if_eq (tgt := 79) hx hb dX5_readStatement_55 (by decide) g11 (fun c12 => ?_) (fun c12 => ?_)
      · replace h := h.1 c12
        refine lv_aload_n hx hb dX5_readStatement_79 rfl (lv_at hl 0 rfl) ?_
        refine gg_5_0 hx hb hts in5 hown hK hI hv_this lk_12 dX5_readStatement_80 ?_
        refine lv_aload_n hx hb dX5_readStatement_83 rfl (lv_at hl 0 rfl) ?_
        refine gg_5_2 hx hb hts in5 hown hK hI hv_this lk_25 dX5_readStatement_84 ?_
        refine va_ldcS hx hb hown (hX.2.2.2.2.2.2.1 ("BeamLines$Reader", 104, "axle", 5) (by decide)) dX5_readStatement_87 ?_
        refine r_calli (va_runV (As := [.int (iI (st10 5 2 0 0)), .ref (G.2.2.2.2.1 5)]) (rest := []) ⟨hx, hb, hml, hown, hts⟩ (m7_isWord l G 5 (vrC_5_0 hv_this) (by decide) _ st10 (st10 5 2 0 0) h) (cwV 2 hts gX5_readStatement_X7_isWord rfl rfl rfl hd7_isWord ⟨Nat.le_of_ble_eq_true rfl, Nat.le_of_ble_eq_true rfl⟩) (pre_V hK hX hI hA hS (vrC_5_0 hv_this) rfl rfl [.int (iI (st10 5 2 0 0)), .ref (G.2.2.2.2.1 5)]) rfl rfl hl.1 rfl (lv_room (Nat.le_of_ble_eq_true rfl)) dX5_readStatement_89 ⟨Nat.le_of_ble_eq_true rfl, Nat.le_of_ble_eq_true rfl⟩) hS (fun z13 st14 h H locs hI hS => ?_)
        obtain ⟨g15, h⟩ := h
        refine r_if_eq (tgt := 111) hx hb dX5_readStatement_92 (by decide) g15 (fun c16 => ?_) (fun c16 => ?_)
        · replace h := h.1 c16
          refine lv_aload_n hx hb dX5_readStatement_111 rfl (lv_at hl 0 rfl) ?_
          refine r_bipush (n := (-2)) hx hb dX5_readStatement_112 rfl ?_
          refine lv_aload_n hx hb dX5_readStatement_114 rfl (lv_at hl 0 rfl) ?_
          refine gg_5_0 hx hb hts in5 hown hK hI hv_this lk_12 dX5_readStatement_115 ?_
          refine lv_aload_n hx hb dX5_readStatement_118 rfl (lv_at hl 0 rfl) ?_
          refine gg_5_2 hx hb hts in5 hown hK hI hv_this lk_25 dX5_readStatement_119 ?_
          refine r_calli (va_runV (As := [.int (iI (st14 5 2 0 0))]) (rest := [.int (iI (-2)), .ref (G.2.2.1 5 0)]) ⟨hx, hb, hml, hown, hts⟩ (m7_startOf l G (vrC_5_0 hv_this) _ st14 (st14 5 2 0 0) h) (cwV 1 hts gX5_readStatement_X7_startOf rfl rfl rfl hd7_startOf ⟨Nat.le_of_ble_eq_true rfl, Nat.le_of_ble_eq_true rfl⟩) (pre_V hK hX hI hA hS (vrC_5_0 hv_this) rfl rfl [.int (iI (st14 5 2 0 0))]) rfl rfl hl.1 rfl (lv_room (Nat.le_of_ble_eq_true rfl)) dX5_readStatement_122 ⟨Nat.le_of_ble_eq_true rfl, Nat.le_of_ble_eq_true rfl⟩) hS (fun z17 st18 h H locs hI hS => ?_)
          refine r_calli (va_runV (As := [.int (iI (-2)), .int (iI z17)]) (rest := []) ⟨hx, hb, hml, hown, hts⟩ (m5_fail l G hv_this _ st18 (-2) z17 h) (cwV 2 hts gX5_readStatement_X5_fail rfl rfl rfl hd5_fail ⟨Nat.le_of_ble_eq_true rfl, Nat.le_of_ble_eq_true rfl⟩) (pre_V hK hX hI hA hS hv_this rfl rfl [.int (iI (-2)), .int (iI z17)]) rfl rfl hl.1 rfl (lv_room (Nat.le_of_ble_eq_true rfl)) dX5_readStatement_125 ⟨Nat.le_of_ble_eq_true rfl, Nat.le_of_ble_eq_true rfl⟩) hS (fun z19 st20 h H locs hI hS => ?_)
          obtain ⟨g21, h⟩ := h
          exact r_zret hx hb hr hlocks hK hI hS (Qp := Q) g21 h dX5_readStatement_128
        · replace h := h.2 c16
          refine lv_aload_n hx hb dX5_readStatement_95 rfl (lv_at hl 0 rfl) ?_
          refine lv_aload_n hx hb dX5_readStatement_96 rfl (lv_at hl 0 rfl) ?_
          refine gg_5_1 hx hb hts in5 hown hK hI hv_this lk_21 dX5_readStatement_97 ?_
          refine gg_0_5 hx hb hts in0 hown hK hI (vrC_5_1 hv_this) lk_106 dX5_readStatement_100 ?_
          refine va_ldcS hx hb hown (hX.2.2.2.2.2.2.1 ("BeamLines$Reader", 109, "behind", 7) (by decide)) dX5_readStatement_103 ?_
          refine r_bipush (n := 30) hx hb dX5_readStatement_105 rfl ?_
          refine r_calli (va_runV (As := [.ref (G.2.2.1 6 (4 * 2 + 3)), .ref (G.2.2.2.2.1 7), .int (iI 30)]) (rest := []) ⟨hx, hb, hml, hown, hts⟩ (m5_readWeight l G (4 * 2 + 3) 7 hv_this (vrC_0_5 (vrC_5_1 hv_this)) (by decide) _ st14 30 h) (cwV 3 hts gX5_readStatement_X5_readWeight rfl rfl rfl hd5_readWeight ⟨Nat.le_of_ble_eq_true rfl, Nat.le_of_ble_eq_true rfl⟩) (pre_V hK hX hI hA hS hv_this rfl rfl [.ref (G.2.2.1 6 (4 * 2 + 3)), .ref (G.2.2.2.2.1 7), .int (iI 30)]) rfl rfl hl.1 rfl (lv_room (Nat.le_of_ble_eq_true rfl)) dX5_readStatement_107 ⟨Nat.le_of_ble_eq_true rfl, Nat.le_of_ble_eq_true rfl⟩) hS (fun z22 st23 h H locs hI hS => ?_)
          obtain ⟨g24, h⟩ := h
          exact r_zret hx hb hr hlocks hK hI hS (Qp := Q) g24 h dX5_readStatement_110
      · replace h := h.2 c12
        refine lv_aload_n hx hb dX5_readStatement_58 rfl (lv_at hl 0 rfl) ?_
        refine lv_aload_n hx hb dX5_readStatement_59 rfl (lv_at hl 0 rfl) ?_
        refine gg_5_1 hx hb hts in5 hown hK hI hv_this lk_21 dX5_readStatement_60 ?_
        refine gg_0_4 hx hb hts in0 hown hK hI (vrC_5_1 hv_this) lk_94 dX5_readStatement_63 ?_
        refine va_ldcS hx hb hown (hX.2.2.2.2.2.2.1 ("BeamLines$Reader", 98, "at", 6) (by decide)) dX5_readStatement_66 ?_
        refine lv_aload_n hx hb dX5_readStatement_68 rfl (lv_at hl 0 rfl) ?_
        refine gg_5_1 hx hb hts in5 hown hK hI hv_this lk_21 dX5_readStatement_69 ?_
        refine gg_0_0 hx hb hts in0 hown hK hI (vrC_5_1 hv_this) lk_70 dX5_readStatement_72 ?_
        refine r_calli (va_runV (As := [.ref (G.2.2.1 6 (4 * 2 + 2)), .ref (G.2.2.2.2.1 6), .int (iI (st10 0 0 2 0))]) (rest := []) ⟨hx, hb, hml, hown, hts⟩ (m5_readWeight l G (4 * 2 + 2) 6 hv_this (vrC_0_4 (vrC_5_1 hv_this)) (by decide) _ st10 (st10 0 0 2 0) h) (cwV 3 hts gX5_readStatement_X5_readWeight rfl rfl rfl hd5_readWeight ⟨Nat.le_of_ble_eq_true rfl, Nat.le_of_ble_eq_true rfl⟩) (pre_V hK hX hI hA hS hv_this rfl rfl [.ref (G.2.2.1 6 (4 * 2 + 2)), .ref (G.2.2.2.2.1 6), .int (iI (st10 0 0 2 0))]) rfl rfl hl.1 rfl (lv_room (Nat.le_of_ble_eq_true rfl)) dX5_readStatement_75 ⟨Nat.le_of_ble_eq_true rfl, Nat.le_of_ble_eq_true rfl⟩) hS (fun z25 st26 h H locs hI hS => ?_)
        obtain ⟨g27, h⟩ := h
        exact r_zret hx hb hr hlocks hK hI hS (Qp := Q) g27 h dX5_readStatement_78
    · replace h := h.2 c8
      refine lv_aload_n hx hb dX5_readStatement_37 rfl (lv_at hl 0 rfl) ?_
      refine r_calli (va_runV (As := []) (rest := []) ⟨hx, hb, hml, hown, hts⟩ (m5_readHinge l G hv_this _ st6 h) (cwV 0 hts gX5_readStatement_X5_readHinge rfl rfl rfl hd5_readHinge ⟨Nat.le_of_ble_eq_true rfl, Nat.le_of_ble_eq_true rfl⟩) (pre_V hK hX hI hA hS hv_this rfl rfl []) rfl rfl hl.1 rfl (lv_room (Nat.le_of_ble_eq_true rfl)) dX5_readStatement_38 ⟨Nat.le_of_ble_eq_true rfl, Nat.le_of_ble_eq_true rfl⟩) hS (fun z28 st29 h H locs hI hS => ?_)
      obtain ⟨g30, h⟩ := h
      exact r_zret hx hb hr hlocks hK hI hS (Qp := Q) g30 h dX5_readStatement_41
  · replace h := h.2 c4
    refine lv_aload_n hx hb dX5_readStatement_16 rfl (lv_at hl 0 rfl) ?_
    refine r_calli (va_runV (As := []) (rest := []) ⟨hx, hb, hml, hown, hts⟩ (m5_readSupport l G hv_this _ st2 h) (cwV 0 hts gX5_readStatement_X5_readSupport rfl rfl rfl hd5_readSupport ⟨Nat.le_of_ble_eq_true rfl, Nat.le_of_ble_eq_true rfl⟩) (pre_V hK hX hI hA hS hv_this rfl rfl []) rfl rfl hl.1 rfl (lv_room (Nat.le_of_ble_eq_true rfl)) dX5_readStatement_17 ⟨Nat.le_of_ble_eq_true rfl, Nat.le_of_ble_eq_true rfl⟩) hS (fun z31 st32 h H locs hI hS => ?_)
    obtain ⟨g33, h⟩ := h
    exact r_zret hx hb hr hlocks hK hI hS (Qp := Q) g33 h dX5_readStatement_20
theorem hd5_checkHinges : yX5_checkHinges.cls = RX5 ∧ yX5_checkHinges.cls ≠ "java/lang/invoke/MethodHandle" ∧ yX5_checkHinges.cls ≠ "java/lang/invoke/VarHandle" ∧ (parseMethodDescriptor yX5_checkHinges.desc).map (fun d => d.parameters.length) = some 0 := by decide +kernel
set_option maxHeartbeats 4000000 in
set_option maxRecDepth 100000 in
theorem m5_checkHinges (l : Launch) (G : WG)   (hv_this : vC 5 0) (Q : Int → St → Prop) (st : St)  (h : f5_checkHinges Q st) : Met l yX5_checkHinges wsX5_checkHinges ({ frames := 1, cells := 0, slots := 0, locals := 22 }) (PcM vC G st [.ref (G.2.2.1 5 0)]) (QiM vC G Q) 0 0 G.2.2.2.1 := by
  refine Met.ofW (cc := cX5_checkHinges) (maxL := 2) (ret := (some .boolean)) (by decide) rfl ?_
  intro p e s m args below meth c s₁ B hml hvv
  obtain ⟨rfl, hA, hI, hK, hX⟩ := hvv
  have hx := B.exec
  have hb := B.bytes
  have hr := B.returns
  have hts := atoms_spec (ws := wsX5_checkHinges) B.pre
  have hown : s.vm.findClass RX5 = some m.cls := findClass_of_methodNamed B.named
  have hlocks := B.notSynchronized
  have hS : va_S G.2.2.2.1 s.heap s.heap [] := va_S.rf
  have in0 : ∀ w ∈ wsX00, w ∈ wsX5_checkHinges := by decide +kernel
  have in5 : ∀ w ∈ wsX50, w ∈ wsX5_checkHinges := by decide +kernel
  have in6 : ∀ w ∈ wsX60, w ∈ wsX5_checkHinges := by decide +kernel
  have in7 : ∀ w ∈ wsX70, w ∈ wsX5_checkHinges := by decide +kernel
  have lk_12 := hts (.fieldLink RX5 12 "BeamLines$Reader" "text" "LBeamLines$Text;") (by decide +kernel)
  have lk_21 := hts (.fieldLink RX5 21 "BeamLines$Reader" "beam" "LBeamLines$Beam;") (by decide +kernel)
  have lk_118 := hts (.fieldLink RX5 118 "BeamLines$Beam" "supports" "LBeamLines$Row;") (by decide +kernel)
  have lk_136 := hts (.fieldLink RX5 136 "BeamLines$Beam" "hinges" "LBeamLines$Row;") (by decide +kernel)
  have lk_142 := hts (.fieldLink RX5 142 "BeamLines$Row" "size" "I") (by decide +kernel)
  have lk_145 := hts (.fieldLink RX5 145 "BeamLines$Text" "length" "I") (by decide +kernel)
  have hl := lv_entry ([.ref (G.2.2.1 5 0)]) (n := 2) (Nat.le_of_ble_eq_true rfl)
  rw [lg_entry_eq]
  generalize (lg_sl ([.ref (G.2.2.1 5 0)]) ++ List.replicate (2 - (lg_sl ([.ref (G.2.2.1 5 0)])).length) Slot.unset).toArray = ls at hl ⊢
  have hl : lv_has ls 2 [(0, .ref (G.2.2.1 5 0))] := hl
  have J32 : ∀ (st : St) (H : Heap) (locs : List Loc) (ls : Array Slot), Iv vC G st H → va_S G.2.2.2.1 s.heap H locs → lv_has ls 2 [(0, .ref (G.2.2.1 5 0))] → f5_checkHinges_j32 Q st → W p l e (headSpec wsX5_checkHinges ({ frames := 1, cells := 0, slots := 0, locals := 22 })).room s m ([.ref (G.2.2.1 5 0)] : List Value).toArray below meth c H locs 0 0 (MQ below (QiM vC G Q) ([.ref (G.2.2.1 5 0)] : List Value).toArray s 0 0 G.2.2.2.1) (F0 m 32 ls []) := by
    intro st H locs ls hI hS hl h
    unfold f5_checkHinges_j32 at h
    refine lv_aload_n hx hb dX5_checkHinges_32 rfl (lv_at hl 0 rfl) ?_
    refine r_bipush (n := (-6)) hx hb dX5_checkHinges_33 rfl ?_
    refine lv_aload_n hx hb dX5_checkHinges_35 rfl (lv_at hl 0 rfl) ?_
    refine gg_5_0 hx hb hts in5 hown hK hI hv_this lk_12 dX5_checkHinges_36 ?_
    refine gg_7_1 hx hb hts in7 hown hK hI (vrC_5_0 hv_this) lk_145 dX5_checkHinges_39 ?_
    refine r_calli (va_runV (As := [.int (iI (-6)), .int (iI (st 7 1 0 0))]) (rest := []) ⟨hx, hb, hml, hown, hts⟩ (m5_fail l G hv_this _ st (-6) (st 7 1 0 0) h) (cwV 2 hts gX5_checkHinges_X5_fail rfl rfl rfl hd5_fail ⟨Nat.le_of_ble_eq_true rfl, Nat.le_of_ble_eq_true rfl⟩) (pre_V hK hX hI hA hS hv_this rfl rfl [.int (iI (-6)), .int (iI (st 7 1 0 0))]) rfl rfl hl.1 rfl (lv_room (Nat.le_of_ble_eq_true rfl)) dX5_checkHinges_42 ⟨Nat.le_of_ble_eq_true rfl, Nat.le_of_ble_eq_true rfl⟩) hS (fun z7 st8 h H locs hI hS => ?_)
    obtain ⟨g9, h⟩ := h
    exact r_zret hx hb hr hlocks hK hI hS (Qp := Q) g9 h dX5_checkHinges_45
  unfold f5_checkHinges at h
  refine lv_aload_n hx hb dX5_checkHinges_0 rfl (lv_at hl 0 rfl) ?_
  refine gg_5_1 hx hb hts in5 hown hK hI hv_this lk_21 dX5_checkHinges_1 ?_
  refine gg_0_2 hx hb hts in0 hown hK hI (vrC_5_1 hv_this) lk_118 dX5_checkHinges_4 ?_
  refine gg_6_2 hx hb hts in6 hown hK hI (vrC_0_2 (vrC_5_1 hv_this)) lk_142 dX5_checkHinges_7 ?_
  refine r_topi (fun x1 hx1 => ?_)
  replace h := h x1 hx1
  refine lv_istore_n (lv' := [(1, .int (iI x1)), (0, .ref (G.2.2.1 5 0))]) hx hb dX5_checkHinges_10 rfl hl (by decide) rfl (fun ls hl => ?_)
  refine lv_iload_n hx hb dX5_checkHinges_11 rfl (lv_at hl 0 rfl) ?_
  refine r_iconst (n := 2) hx hb dX5_checkHinges_12 ?_
  obtain ⟨g2, h⟩ := h
  refine r_icmp_lt (tgt := 32) hx hb dX5_checkHinges_13 (by decide) g2 (inI_mk rfl) (fun c3 => ?_) (fun c3 => ?_)
  · replace h := h.1 c3
    exact J32 st  _ _ ls hI hS (lv_sub hl [1] rfl) h
  · replace h := h.2 c3
    refine lv_aload_n hx hb dX5_checkHinges_16 rfl (lv_at hl 1 rfl) ?_
    refine gg_5_1 hx hb hts in5 hown hK hI hv_this lk_21 dX5_checkHinges_17 ?_
    refine gg_0_3 hx hb hts in0 hown hK hI (vrC_5_1 hv_this) lk_136 dX5_checkHinges_20 ?_
    refine gg_6_2 hx hb hts in6 hown hK hI (vrC_0_3 (vrC_5_1 hv_this)) lk_142 dX5_checkHinges_23 ?_
    refine lv_iload_n hx hb dX5_checkHinges_26 rfl (lv_at hl 0 rfl) ?_
    refine r_iconst (n := 2) hx hb dX5_checkHinges_27 ?_
    refine r_isub hx hb dX5_checkHinges_28 ?_
    obtain ⟨g4, h⟩ := h
    obtain ⟨g5, h⟩ := h
    refine r_icmp_eq (tgt := 46) hx hb dX5_checkHinges_29 (by decide) g4 g5 (fun c6 => ?_) (fun c6 => ?_)
    · replace h := h.1 c6
      refine r_iconst (n := 1) hx hb dX5_checkHinges_46 ?_
      exact r_zret hx hb hr hlocks hK hI hS (Qp := Q) (by decide) h dX5_checkHinges_47
    · replace h := h.2 c6
      exact J32 st  _ _ ls hI hS (lv_sub hl [1] rfl) h
theorem hd5_readText : yX5_readText.cls = RX5 ∧ yX5_readText.cls ≠ "java/lang/invoke/MethodHandle" ∧ yX5_readText.cls ≠ "java/lang/invoke/VarHandle" ∧ (parseMethodDescriptor yX5_readText.desc).map (fun d => d.parameters.length) = some 0 := by decide +kernel
set_option maxHeartbeats 4000000 in
set_option maxRecDepth 100000 in
theorem m5_readText (l : Launch) (G : WG)   (hv_this : vC 5 0) (Q : Int → St → Prop) (st : St)  (h : f5_readText Q st) : Met l yX5_readText wsX5_readText ({ frames := 8, cells := 0, slots := 0, locals := 179 }) (PcM vC G st [.ref (G.2.2.1 5 0)]) (QiM vC G Q) 0 0 G.2.2.2.1 := by
  refine Met.ofW (cc := cX5_readText) (maxL := 2) (ret := (some .boolean)) (by decide) rfl ?_
  intro p e s m args below meth c s₁ B hml hvv
  obtain ⟨rfl, hA, hI, hK, hX⟩ := hvv
  have hx := B.exec
  have hb := B.bytes
  have hr := B.returns
  have hts := atoms_spec (ws := wsX5_readText) B.pre
  have hown : s.vm.findClass RX5 = some m.cls := findClass_of_methodNamed B.named
  have hlocks := B.notSynchronized
  have hS : va_S G.2.2.2.1 s.heap s.heap [] := va_S.rf
  have in5 : ∀ w ∈ wsX50, w ∈ wsX5_readText := by decide +kernel
  have in7 : ∀ w ∈ wsX70, w ∈ wsX5_readText := by decide +kernel
  have lk_12 := hts (.fieldLink RX5 12 "BeamLines$Reader" "text" "LBeamLines$Text;") (by decide +kernel)
  have lk_21 := hts (.fieldLink RX5 21 "BeamLines$Reader" "beam" "LBeamLines$Beam;") (by decide +kernel)
  have lk_25 := hts (.fieldLink RX5 25 "BeamLines$Reader" "token" "I") (by decide +kernel)
  have lk_29 := hts (.fieldLink RX5 29 "BeamLines$Reader" "code" "I") (by decide +kernel)
  have lk_32 := hts (.fieldLink RX5 32 "BeamLines$Reader" "errorAt" "I") (by decide +kernel)
  have lk_45 := hts (.fieldLink RX5 45 "BeamLines$Text" "tokens" "I") (by decide +kernel)
  have hl := lv_entry ([.ref (G.2.2.1 5 0)]) (n := 2) (Nat.le_of_ble_eq_true rfl)
  rw [lg_entry_eq]
  generalize (lg_sl ([.ref (G.2.2.1 5 0)]) ++ List.replicate (2 - (lg_sl ([.ref (G.2.2.1 5 0)])).length) Slot.unset).toArray = ls at hl ⊢
  have hl : lv_has ls 2 [(0, .ref (G.2.2.1 5 0))] := hl
  have J80 : ∀ (st : St) (H : Heap) (locs : List Loc) (ls : Array Slot), Iv vC G st H → va_S G.2.2.2.1 s.heap H locs → lv_has ls 2 [(0, .ref (G.2.2.1 5 0))] → f5_readText_j80 Q st → W p l e (headSpec wsX5_readText ({ frames := 8, cells := 0, slots := 0, locals := 179 })).room s m ([.ref (G.2.2.1 5 0)] : List Value).toArray below meth c H locs 0 0 (MQ below (QiM vC G Q) ([.ref (G.2.2.1 5 0)] : List Value).toArray s 0 0 G.2.2.2.1) (F0 m 80 ls []) := by
    intro st H locs ls hI hS hl h
    unfold f5_readText_j80 at h
    refine lv_aload_n hx hb dX5_readText_80 rfl (lv_at hl 0 rfl) ?_
    refine r_calli (va_runV (As := []) (rest := []) ⟨hx, hb, hml, hown, hts⟩ (m5_checkHinges l G hv_this _ st h) (cwV 0 hts gX5_readText_X5_checkHinges rfl rfl rfl hd5_checkHinges ⟨Nat.le_of_ble_eq_true rfl, Nat.le_of_ble_eq_true rfl⟩) (pre_V hK hX hI hA hS hv_this rfl rfl []) rfl rfl hl.1 rfl (lv_room (Nat.le_of_ble_eq_true rfl)) dX5_readText_81 ⟨Nat.le_of_ble_eq_true rfl, Nat.le_of_ble_eq_true rfl⟩) hS (fun z24 st25 h H locs hI hS => ?_)
    obtain ⟨g26, h⟩ := h
    exact r_zret hx hb hr hlocks hK hI hS (Qp := Q) g26 h dX5_readText_84
  have L40 : ∀ (n40 : Nat), ∀ (st : St) (v1x40 : Int) (H : Heap) (locs : List Loc) (ls : Array Slot), Iv vC G st H → va_S G.2.2.2.1 s.heap H locs → lv_has ls 2 [(0, .ref (G.2.2.1 5 0)), (1, .int (iI v1x40))] → f5_readText_l40 Q n40 st v1x40 → W p l e (headSpec wsX5_readText ({ frames := 8, cells := 0, slots := 0, locals := 179 })).room s m ([.ref (G.2.2.1 5 0)] : List Value).toArray below meth c H locs 0 0 (MQ below (QiM vC G Q) ([.ref (G.2.2.1 5 0)] : List Value).toArray s 0 0 G.2.2.2.1) (F0 m 40 ls []) := by
    intro n40
    induction n40 with
    | zero =>
      intro st v1x40 H locs ls hI hS hl h
      exact h.elim
    | succ n40 ih40 =>
      intro st v1x40 H locs ls hI hS hl h
      unfold f5_readText_l40 at h
      refine lv_iload_n hx hb dX5_readText_40 rfl (lv_at hl 1 rfl) ?_
      refine lv_aload_n hx hb dX5_readText_41 rfl (lv_at hl 0 rfl) ?_
      refine gg_5_0 hx hb hts in5 hown hK hI hv_this lk_12 dX5_readText_42 ?_
      refine gg_7_6 hx hb hts in7 hown hK hI (vrC_5_0 hv_this) lk_45 dX5_readText_45 ?_
      obtain ⟨g12, h⟩ := h
      obtain ⟨g13, h⟩ := h
      refine r_icmp_ge (tgt := 80) hx hb dX5_readText_48 (by decide) g12 g13 (fun c14 => ?_) (fun c14 => ?_)
      · replace h := h.1 c14
        exact J80 st  _ _ ls hI hS (lv_sub hl [0] rfl) h
      · replace h := h.2 c14
        refine lv_aload_n hx hb dX5_readText_51 rfl (lv_at hl 0 rfl) ?_
        refine gg_5_0 hx hb hts in5 hown hK hI hv_this lk_12 dX5_readText_52 ?_
        refine lv_aload_n hx hb dX5_readText_55 rfl (lv_at hl 0 rfl) ?_
        refine gg_5_2 hx hb hts in5 hown hK hI hv_this lk_25 dX5_readText_56 ?_
        refine r_calli (va_runV (As := [.int (iI (st 5 2 0 0))]) (rest := []) ⟨hx, hb, hml, hown, hts⟩ (m7_kindOf l G (vrC_5_0 hv_this) _ st (st 5 2 0 0) h) (cwV 1 hts gX5_readText_X7_kindOf rfl rfl rfl hd7_kindOf ⟨Nat.le_of_ble_eq_true rfl, Nat.le_of_ble_eq_true rfl⟩) (pre_V hK hX hI hA hS (vrC_5_0 hv_this) rfl rfl [.int (iI (st 5 2 0 0))]) rfl rfl hl.1 rfl (lv_room (Nat.le_of_ble_eq_true rfl)) dX5_readText_59 ⟨Nat.le_of_ble_eq_true rfl, Nat.le_of_ble_eq_true rfl⟩) hS (fun z15 st16 h H locs hI hS => ?_)
        obtain ⟨g17, h⟩ := h
        refine r_if_eq (tgt := 80) hx hb dX5_readText_62 (by decide) g17 (fun c18 => ?_) (fun c18 => ?_)
        · replace h := h.1 c18
          exact J80 st16  _ _ ls hI hS (lv_sub hl [0] rfl) h
        · replace h := h.2 c18
          refine lv_aload_n hx hb dX5_readText_65 rfl (lv_at hl 0 rfl) ?_
          refine r_calli (va_runV (As := []) (rest := []) ⟨hx, hb, hml, hown, hts⟩ (m5_readStatement l G hv_this _ st16 h) (cwV 0 hts gX5_readText_X5_readStatement rfl rfl rfl hd5_readStatement ⟨Nat.le_of_ble_eq_true rfl, Nat.le_of_ble_eq_true rfl⟩) (pre_V hK hX hI hA hS hv_this rfl rfl []) rfl rfl hl.1 rfl (lv_room (Nat.le_of_ble_eq_true rfl)) dX5_readText_66 ⟨Nat.le_of_ble_eq_true rfl, Nat.le_of_ble_eq_true rfl⟩) hS (fun z19 st20 h H locs hI hS => ?_)
          obtain ⟨g21, h⟩ := h
          refine r_if_ne (tgt := 74) hx hb dX5_readText_69 (by decide) g21 (fun c22 => ?_) (fun c22 => ?_)
          · replace h := h.2 c22
            obtain ⟨x23, hx23⟩ : ∃ z : Int, z = v1x40 + 1 := ⟨_, rfl⟩
            replace h := h x23 hx23
            refine lv_iinc (v := iI x23) (lv' := [(1, .int (iI x23)), (0, .ref (G.2.2.1 5 0))]) hx hb dX5_readText_74 hl (k := 1) rfl (by rw [hx23]; exact iI_add _ _) (by decide) rfl (fun ls hl => ?_)
            refine lv_goto (tgt := 40) hx hb dX5_readText_77 (by decide) ?_
            exact ih40 st20 x23 _ _ ls hI hS (lv_sub hl [1, 0] rfl) h
          · replace h := h.1 c22
            refine r_iconst (n := 0) hx hb dX5_readText_72 ?_
            exact r_zret hx hb hr hlocks hK hI hS (Qp := Q) (by decide) h dX5_readText_73
  unfold f5_readText at h
  refine lv_aload_n hx hb dX5_readText_0 rfl (lv_at hl 0 rfl) ?_
  refine r_iconst (n := 0) hx hb dX5_readText_1 ?_
  refine pp_5_2 hx hb hts in5 hown hK hI hS hv_this lk_25 dX5_readText_2 (fun st1 hst1 H locs hI hS => ?_)
  replace h := h st1 hst1
  refine lv_aload_n hx hb dX5_readText_5 rfl (lv_at hl 0 rfl) ?_
  refine r_iconst (n := 0) hx hb dX5_readText_6 ?_
  refine pp_5_3 hx hb hts in5 hown hK hI hS hv_this lk_29 dX5_readText_7 (fun st2 hst2 H locs hI hS => ?_)
  replace h := h st2 hst2
  refine lv_aload_n hx hb dX5_readText_10 rfl (lv_at hl 0 rfl) ?_
  refine r_iconst (n := (-1)) hx hb dX5_readText_11 ?_
  refine pp_5_4 hx hb hts in5 hown hK hI hS hv_this lk_32 dX5_readText_12 (fun st3 hst3 H locs hI hS => ?_)
  replace h := h st3 hst3
  refine lv_aload_n hx hb dX5_readText_15 rfl (lv_at hl 0 rfl) ?_
  refine gg_5_1 hx hb hts in5 hown hK hI hv_this lk_21 dX5_readText_16 ?_
  refine r_callv (va_runV (As := []) (rest := []) ⟨hx, hb, hml, hown, hts⟩ (m0_makeBare l G 2 (vrC_5_1 hv_this) _ st3 h) (cwV 0 hts gX5_readText_X0_makeBare rfl rfl rfl hd0_makeBare ⟨Nat.le_of_ble_eq_true rfl, Nat.le_of_ble_eq_true rfl⟩) (pre_V hK hX hI hA hS (vrC_5_1 hv_this) rfl rfl []) rfl rfl hl.1 rfl (lv_room (Nat.le_of_ble_eq_true rfl)) dX5_readText_19 ⟨Nat.le_of_ble_eq_true rfl, Nat.le_of_ble_eq_true rfl⟩) hS (fun st5 h H locs hI hS => ?_)
  refine lv_aload_n hx hb dX5_readText_22 rfl (lv_at hl 0 rfl) ?_
  refine gg_5_0 hx hb hts in5 hown hK hI hv_this lk_12 dX5_readText_23 ?_
  refine r_callv (va_runV (As := []) (rest := []) ⟨hx, hb, hml, hown, hts⟩ (m7_split l G (vrC_5_0 hv_this) _ st5 h) (cwV 0 hts gX5_readText_X7_split rfl rfl rfl hd7_split ⟨Nat.le_of_ble_eq_true rfl, Nat.le_of_ble_eq_true rfl⟩) (pre_V hK hX hI hA hS (vrC_5_0 hv_this) rfl rfl []) rfl rfl hl.1 rfl (lv_room (Nat.le_of_ble_eq_true rfl)) dX5_readText_26 ⟨Nat.le_of_ble_eq_true rfl, Nat.le_of_ble_eq_true rfl⟩) hS (fun st7 h H locs hI hS => ?_)
  refine lv_aload_n hx hb dX5_readText_29 rfl (lv_at hl 0 rfl) ?_
  refine r_calli (va_runV (As := []) (rest := []) ⟨hx, hb, hml, hown, hts⟩ (m5_readHead l G hv_this _ st7 h) (cwV 0 hts gX5_readText_X5_readHead rfl rfl rfl hd5_readHead ⟨Nat.le_of_ble_eq_true rfl, Nat.le_of_ble_eq_true rfl⟩) (pre_V hK hX hI hA hS hv_this rfl rfl []) rfl rfl hl.1 rfl (lv_room (Nat.le_of_ble_eq_true rfl)) dX5_readText_30 ⟨Nat.le_of_ble_eq_true rfl, Nat.le_of_ble_eq_true rfl⟩) hS (fun z8 st9 h H locs hI hS => ?_)
  obtain ⟨g10, h⟩ := h
  refine r_if_ne (tgt := 38) hx hb dX5_readText_33 (by decide) g10 (fun c11 => ?_) (fun c11 => ?_)
  · replace h := h.2 c11
    refine r_iconst (n := 0) hx hb dX5_readText_38 ?_
    refine lv_istore_n (lv' := [(1, .int (iI 0)), (0, .ref (G.2.2.1 5 0))]) hx hb dX5_readText_39 rfl hl (by decide) rfl (fun ls hl => ?_)
    obtain ⟨kk, h⟩ := h
    exact L40 kk st9 0 _ _ ls hI hS (lv_sub hl [1, 0] rfl) h
  · replace h := h.1 c11
    refine r_iconst (n := 0) hx hb dX5_readText_36 ?_
    exact r_zret hx hb hr hlocks hK hI hS (Qp := Q) (by decide) h dX5_readText_37
theorem hd6_setSecond : yX6_setSecond.cls = RX6 ∧ yX6_setSecond.cls ≠ "java/lang/invoke/MethodHandle" ∧ yX6_setSecond.cls ≠ "java/lang/invoke/VarHandle" ∧ (parseMethodDescriptor yX6_setSecond.desc).map (fun d => d.parameters.length) = some 2 := by decide +kernel
set_option maxHeartbeats 4000000 in
set_option maxRecDepth 100000 in
theorem m6_setSecond (l : Launch) (G : WG)  (o : Int) (hv_this : vC 6 o) (Q : St → Prop) (st : St) (a0 : Int) (a1 : Int) (h : f6_setSecond o Q st a0 a1) : Met l yX6_setSecond wsX6_setSecond ({ frames := 1, cells := 0, slots := 0, locals := 21 }) (PcM vC G st [.ref (G.2.2.1 6 o), .int (iI a0), .int (iI a1)]) (QvM vC G Q) 0 0 G.2.2.2.1 := by
  refine Met.ofW (cc := cX6_setSecond) (maxL := 3) (ret := none) (by decide) rfl ?_
  intro p e s m args below meth c s₁ B hml hvv
  obtain ⟨rfl, hA, hI, hK, hX⟩ := hvv
  have hx := B.exec
  have hb := B.bytes
  have hr := B.returns
  have hts := atoms_spec (ws := wsX6_setSecond) B.pre
  have hown : s.vm.findClass RX6 = some m.cls := findClass_of_methodNamed B.named
  have hlocks := B.notSynchronized
  have hS : va_S G.2.2.2.1 s.heap s.heap [] := va_S.rf
  have in6 : ∀ w ∈ wsX60, w ∈ wsX6_setSecond := by decide +kernel
  have lk_25 := hts (.fieldLink RX6 25 "BeamLines$Row" "seconds" "[I") (by decide +kernel)
  have hl := lv_entry ([.ref (G.2.2.1 6 o), .int (iI a0), .int (iI a1)]) (n := 3) (Nat.le_of_ble_eq_true rfl)
  rw [lg_entry_eq]
  generalize (lg_sl ([.ref (G.2.2.1 6 o), .int (iI a0), .int (iI a1)]) ++ List.replicate (3 - (lg_sl ([.ref (G.2.2.1 6 o), .int (iI a0), .int (iI a1)])).length) Slot.unset).toArray = ls at hl ⊢
  have hl : lv_has ls 3 [(0, .ref (G.2.2.1 6 o)), (1, .int (iI a0)), (2, .int (iI a1))] := hl
  unfold f6_setSecond at h
  refine lv_aload_n hx hb dX6_setSecond_0 rfl (lv_at hl 0 rfl) ?_
  refine lv_iload_n hx hb dX6_setSecond_1 rfl (lv_at hl 1 rfl) ?_
  refine r_calli (va_runV (As := [.int (iI a0)]) (rest := []) ⟨hx, hb, hml, hown, hts⟩ (m6_has l G o hv_this _ st a0 h) (cwV 1 hts gX6_setSecond_X6_has rfl rfl rfl hd6_has ⟨Nat.le_of_ble_eq_true rfl, Nat.le_of_ble_eq_true rfl⟩) (pre_V hK hX hI hA hS hv_this rfl rfl [.int (iI a0)]) rfl rfl hl.1 rfl (lv_room (Nat.le_of_ble_eq_true rfl)) dX6_setSecond_2 ⟨Nat.le_of_ble_eq_true rfl, Nat.le_of_ble_eq_true rfl⟩) hS (fun z1 st2 h H locs hI hS => ?_)
  obtain ⟨g3, h⟩ := h
  refine r_if_eq (tgt := 15) hx hb dX6_setSecond_5 (by decide) g3 (fun c4 => ?_) (fun c4 => ?_)
  · replace h := h.1 c4
    exact r_vret hx hb hr hlocks hK hI hS (Qp := Q) h dX6_setSecond_15
  · replace h := h.2 c4
    refine lv_aload_n hx hb dX6_setSecond_8 rfl (lv_at hl 0 rfl) ?_
    refine gg_6_1 hx hb hts in6 hown hK hI hv_this lk_25 dX6_setSecond_9 ?_
    refine lv_iload_n hx hb dX6_setSecond_12 rfl (lv_at hl 1 rfl) ?_
    refine lv_iload_n hx hb dX6_setSecond_13 rfl (lv_at hl 2 rfl) ?_
    obtain ⟨g5, g6, h⟩ := h
    refine r_iast hx hb hK hI hS (K := 11) (vrC_6_1 hv_this) (fun _ => rfl) (rcap_le _) dX6_setSecond_14 g5 g6 (fun st7 hst7 H locs hI hS => ?_)
    replace h := h st7 hst7
    exact r_vret hx hb hr hlocks hK hI hS (Qp := Q) h dX6_setSecond_15
theorem hd6_sumOfFirsts : yX6_sumOfFirsts.cls = RX6 ∧ yX6_sumOfFirsts.cls ≠ "java/lang/invoke/MethodHandle" ∧ yX6_sumOfFirsts.cls ≠ "java/lang/invoke/VarHandle" ∧ (parseMethodDescriptor yX6_sumOfFirsts.desc).map (fun d => d.parameters.length) = some 0 := by decide +kernel
set_option maxHeartbeats 4000000 in
set_option maxRecDepth 100000 in
theorem m6_sumOfFirsts (l : Launch) (G : WG)  (o : Int) (hv_this : vC 6 o) (Q : Int → St → Prop) (st : St)  (h : f6_sumOfFirsts o Q st) : Met l yX6_sumOfFirsts wsX6_sumOfFirsts ({ frames := 2, cells := 0, slots := 0, locals := 42 }) (PcM vC G st [.ref (G.2.2.1 6 o)]) (QiM vC G Q) 0 0 G.2.2.2.1 := by
  refine Met.ofW (cc := cX6_sumOfFirsts) (maxL := 3) (ret := (some .int)) (by decide) rfl ?_
  intro p e s m args below meth c s₁ B hml hvv
  obtain ⟨rfl, hA, hI, hK, hX⟩ := hvv
  have hx := B.exec
  have hb := B.bytes
  have hr := B.returns
  have hts := atoms_spec (ws := wsX6_sumOfFirsts) B.pre
  have hown : s.vm.findClass RX6 = some m.cls := findClass_of_methodNamed B.named
  have hlocks := B.notSynchronized
  have hS : va_S G.2.2.2.1 s.heap s.heap [] := va_S.rf
  have in6 : ∀ w ∈ wsX60, w ∈ wsX6_sumOfFirsts := by decide +kernel
  have lk_9 := hts (.fieldLink RX6 9 "BeamLines$Row" "size" "I") (by decide +kernel)
  have hl := lv_entry ([.ref (G.2.2.1 6 o)]) (n := 3) (Nat.le_of_ble_eq_true rfl)
  rw [lg_entry_eq]
  generalize (lg_sl ([.ref (G.2.2.1 6 o)]) ++ List.replicate (3 - (lg_sl ([.ref (G.2.2.1 6 o)])).length) Slot.unset).toArray = ls at hl ⊢
  have hl : lv_has ls 3 [(0, .ref (G.2.2.1 6 o))] := hl
  have L4 : ∀ (n4 : Nat), ∀ (st : St) (v1x4 : Int) (v2x4 : Int) (H : Heap) (locs : List Loc) (ls : Array Slot), Iv vC G st H → va_S G.2.2.2.1 s.heap H locs → lv_has ls 3 [(0, .ref (G.2.2.1 6 o)), (1, .int (iI v1x4)), (2, .int (iI v2x4))] → f6_sumOfFirsts_l4 o Q n4 st v1x4 v2x4 → W p l e (headSpec wsX6_sumOfFirsts ({ frames := 2, cells := 0, slots := 0, locals := 42 })).room s m ([.ref (G.2.2.1 6 o)] : List Value).toArray below meth c H locs 0 0 (MQ below (QiM vC G Q) ([.ref (G.2.2.1 6 o)] : List Value).toArray s 0 0 G.2.2.2.1) (F0 m 4 ls []) := by
    intro n4
    induction n4 with
    | zero =>
      intro st v1x4 v2x4 H locs ls hI hS hl h
      exact h.elim
    | succ n4 ih4 =>
      intro st v1x4 v2x4 H locs ls hI hS hl h
      unfold f6_sumOfFirsts_l4 at h
      refine lv_iload_n hx hb dX6_sumOfFirsts_4 rfl (lv_at hl 2 rfl) ?_
      refine lv_aload_n hx hb dX6_sumOfFirsts_5 rfl (lv_at hl 0 rfl) ?_
      refine gg_6_2 hx hb hts in6 hown hK hI hv_this lk_9 dX6_sumOfFirsts_6 ?_
      obtain ⟨g1, h⟩ := h
      obtain ⟨g2, h⟩ := h
      refine r_icmp_ge (tgt := 26) hx hb dX6_sumOfFirsts_9 (by decide) g1 g2 (fun c3 => ?_) (fun c3 => ?_)
      · replace h := h.1 c3
        refine lv_iload_n hx hb dX6_sumOfFirsts_26 rfl (lv_at hl 1 rfl) ?_
        exact r_iret hx hb hr hlocks hK hI hS (Qp := Q) h dX6_sumOfFirsts_27
      · replace h := h.2 c3
        refine lv_iload_n hx hb dX6_sumOfFirsts_12 rfl (lv_at hl 1 rfl) ?_
        refine lv_aload_n hx hb dX6_sumOfFirsts_13 rfl (lv_at hl 0 rfl) ?_
        refine lv_iload_n hx hb dX6_sumOfFirsts_14 rfl (lv_at hl 2 rfl) ?_
        refine r_calli (va_runV (As := [.int (iI v2x4)]) (rest := [.int (iI v1x4)]) ⟨hx, hb, hml, hown, hts⟩ (m6_first l G o hv_this _ st v2x4 h) (cwV 1 hts gX6_sumOfFirsts_X6_first rfl rfl rfl hd6_first ⟨Nat.le_of_ble_eq_true rfl, Nat.le_of_ble_eq_true rfl⟩) (pre_V hK hX hI hA hS hv_this rfl rfl [.int (iI v2x4)]) rfl rfl hl.1 rfl (lv_room (Nat.le_of_ble_eq_true rfl)) dX6_sumOfFirsts_15 ⟨Nat.le_of_ble_eq_true rfl, Nat.le_of_ble_eq_true rfl⟩) hS (fun z4 st5 h H locs hI hS => ?_)
        refine r_iadd hx hb dX6_sumOfFirsts_18 ?_
        refine r_topi (fun x6 hx6 => ?_)
        replace h := h x6 hx6
        refine lv_istore_n (lv' := [(1, .int (iI x6)), (0, .ref (G.2.2.1 6 o)), (2, .int (iI v2x4))]) hx hb dX6_sumOfFirsts_19 rfl hl (by decide) rfl (fun ls hl => ?_)
        obtain ⟨x7, hx7⟩ : ∃ z : Int, z = v2x4 + 1 := ⟨_, rfl⟩
        replace h := h x7 hx7
        refine lv_iinc (v := iI x7) (lv' := [(2, .int (iI x7)), (1, .int (iI x6)), (0, .ref (G.2.2.1 6 o))]) hx hb dX6_sumOfFirsts_20 hl (k := 2) rfl (by rw [hx7]; exact iI_add _ _) (by decide) rfl (fun ls hl => ?_)
        refine lv_goto (tgt := 4) hx hb dX6_sumOfFirsts_23 (by decide) ?_
        exact ih4 st5 x6 x7 _ _ ls hI hS (lv_sub hl [2, 1, 0] rfl) h
  unfold f6_sumOfFirsts at h
  refine r_iconst (n := 0) hx hb dX6_sumOfFirsts_0 ?_
  refine lv_istore_n (lv' := [(1, .int (iI 0)), (0, .ref (G.2.2.1 6 o))]) hx hb dX6_sumOfFirsts_1 rfl hl (by decide) rfl (fun ls hl => ?_)
  refine r_iconst (n := 0) hx hb dX6_sumOfFirsts_2 ?_
  refine lv_istore_n (lv' := [(2, .int (iI 0)), (1, .int (iI 0)), (0, .ref (G.2.2.1 6 o))]) hx hb dX6_sumOfFirsts_3 rfl hl (by decide) rfl (fun ls hl => ?_)
  obtain ⟨kk, h⟩ := h
  exact L4 kk st 0 0 _ _ ls hI hS (lv_sub hl [2, 1, 0] rfl) h
theorem hd6_remove : yX6_remove.cls = RX6 ∧ yX6_remove.cls ≠ "java/lang/invoke/MethodHandle" ∧ yX6_remove.cls ≠ "java/lang/invoke/VarHandle" ∧ (parseMethodDescriptor yX6_remove.desc).map (fun d => d.parameters.length) = some 1 := by decide +kernel
set_option maxHeartbeats 4000000 in
set_option maxRecDepth 100000 in
theorem m6_remove (l : Launch) (G : WG)  (o : Int) (hv_this : vC 6 o) (Q : St → Prop) (st : St) (a0 : Int) (h : f6_remove o Q st a0) : Met l yX6_remove wsX6_remove ({ frames := 1, cells := 0, slots := 0, locals := 21 }) (PcM vC G st [.ref (G.2.2.1 6 o), .int (iI a0)]) (QvM vC G Q) 0 0 G.2.2.2.1 := by
  refine Met.ofW (cc := cX6_remove) (maxL := 3) (ret := none) (by decide) rfl ?_
  intro p e s m args below meth c s₁ B hml hvv
  obtain ⟨rfl, hA, hI, hK, hX⟩ := hvv
  have hx := B.exec
  have hb := B.bytes
  have hr := B.returns
  have hts := atoms_spec (ws := wsX6_remove) B.pre
  have hown : s.vm.findClass RX6 = some m.cls := findClass_of_methodNamed B.named
  have hlocks := B.notSynchronized
  have hS : va_S G.2.2.2.1 s.heap s.heap [] := va_S.rf
  have in6 : ∀ w ∈ wsX60, w ∈ wsX6_remove := by decide +kernel
  have lk_9 := hts (.fieldLink RX6 9 "BeamLines$Row" "size" "I") (by decide +kernel)
  have lk_21 := hts (.fieldLink RX6 21 "BeamLines$Row" "firsts" "[I") (by decide +kernel)
  have lk_25 := hts (.fieldLink RX6 25 "BeamLines$Row" "seconds" "[I") (by decide +kernel)
  have hl := lv_entry ([.ref (G.2.2.1 6 o), .int (iI a0)]) (n := 3) (Nat.le_of_ble_eq_true rfl)
  rw [lg_entry_eq]
  generalize (lg_sl ([.ref (G.2.2.1 6 o), .int (iI a0)]) ++ List.replicate (3 - (lg_sl ([.ref (G.2.2.1 6 o), .int (iI a0)])).length) Slot.unset).toArray = ls at hl ⊢
  have hl : lv_has ls 3 [(0, .ref (G.2.2.1 6 o)), (1, .int (iI a0))] := hl
  have L21 : ∀ (n21 : Nat), ∀ (st : St) (v2x21 : Int) (H : Heap) (locs : List Loc) (ls : Array Slot), Iv vC G st H → va_S G.2.2.2.1 s.heap H locs → lv_has ls 3 [(0, .ref (G.2.2.1 6 o)), (2, .int (iI v2x21))] → f6_remove_l21 o Q n21 st v2x21 → W p l e (headSpec wsX6_remove ({ frames := 1, cells := 0, slots := 0, locals := 21 })).room s m ([.ref (G.2.2.1 6 o), .int (iI a0)] : List Value).toArray below meth c H locs 0 0 (MQ below (QvM vC G Q) ([.ref (G.2.2.1 6 o), .int (iI a0)] : List Value).toArray s 0 0 G.2.2.2.1) (F0 m 21 ls []) := by
    intro n21
    induction n21 with
    | zero =>
      intro st v2x21 H locs ls hI hS hl h
      exact h.elim
    | succ n21 ih21 =>
      intro st v2x21 H locs ls hI hS hl h
      unfold f6_remove_l21 at h
      refine lv_iload_n hx hb dX6_remove_21 rfl (lv_at hl 1 rfl) ?_
      refine lv_aload_n hx hb dX6_remove_22 rfl (lv_at hl 0 rfl) ?_
      refine gg_6_2 hx hb hts in6 hown hK hI hv_this lk_9 dX6_remove_23 ?_
      obtain ⟨g6, h⟩ := h
      obtain ⟨g7, h⟩ := h
      refine r_icmp_ge (tgt := 63) hx hb dX6_remove_26 (by decide) g6 g7 (fun c8 => ?_) (fun c8 => ?_)
      · replace h := h.1 c8
        exact r_vret hx hb hr hlocks hK hI hS (Qp := Q) h dX6_remove_63
      · replace h := h.2 c8
        refine lv_aload_n hx hb dX6_remove_29 rfl (lv_at hl 0 rfl) ?_
        refine gg_6_0 hx hb hts in6 hown hK hI hv_this lk_21 dX6_remove_30 ?_
        refine lv_iload_n hx hb dX6_remove_33 rfl (lv_at hl 1 rfl) ?_
        refine lv_aload_n hx hb dX6_remove_34 rfl (lv_at hl 0 rfl) ?_
        refine gg_6_0 hx hb hts in6 hown hK hI hv_this lk_21 dX6_remove_35 ?_
        refine lv_iload_n hx hb dX6_remove_38 rfl (lv_at hl 1 rfl) ?_
        refine r_iconst (n := 1) hx hb dX6_remove_39 ?_
        refine r_iadd hx hb dX6_remove_40 ?_
        obtain ⟨g9, g10, h⟩ := h
        refine r_iald hx hb hK hI (K := 10) (vrC_6_0 hv_this) rfl (rcap_le _) dX6_remove_41 g9 g10 ?_
        obtain ⟨g11, g12, h⟩ := h
        refine r_iast hx hb hK hI hS (K := 10) (vrC_6_0 hv_this) (fun _ => rfl) (rcap_le _) dX6_remove_42 g11 g12 (fun st13 hst13 H locs hI hS => ?_)
        replace h := h st13 hst13
        refine lv_aload_n hx hb dX6_remove_43 rfl (lv_at hl 0 rfl) ?_
        refine gg_6_1 hx hb hts in6 hown hK hI hv_this lk_25 dX6_remove_44 ?_
        refine lv_iload_n hx hb dX6_remove_47 rfl (lv_at hl 1 rfl) ?_
        refine lv_aload_n hx hb dX6_remove_48 rfl (lv_at hl 0 rfl) ?_
        refine gg_6_1 hx hb hts in6 hown hK hI hv_this lk_25 dX6_remove_49 ?_
        refine lv_iload_n hx hb dX6_remove_52 rfl (lv_at hl 1 rfl) ?_
        refine r_iconst (n := 1) hx hb dX6_remove_53 ?_
        refine r_iadd hx hb dX6_remove_54 ?_
        obtain ⟨g14, g15, h⟩ := h
        refine r_iald hx hb hK hI (K := 11) (vrC_6_1 hv_this) rfl (rcap_le _) dX6_remove_55 g14 g15 ?_
        obtain ⟨g16, g17, h⟩ := h
        refine r_iast hx hb hK hI hS (K := 11) (vrC_6_1 hv_this) (fun _ => rfl) (rcap_le _) dX6_remove_56 g16 g17 (fun st18 hst18 H locs hI hS => ?_)
        replace h := h st18 hst18
        obtain ⟨x19, hx19⟩ : ∃ z : Int, z = v2x21 + 1 := ⟨_, rfl⟩
        replace h := h x19 hx19
        refine lv_iinc (v := iI x19) (lv' := [(2, .int (iI x19)), (0, .ref (G.2.2.1 6 o))]) hx hb dX6_remove_57 hl (k := 1) rfl (by rw [hx19]; exact iI_add _ _) (by decide) rfl (fun ls hl => ?_)
        refine lv_goto (tgt := 21) hx hb dX6_remove_60 (by decide) ?_
        exact ih21 st18 x19 _ _ ls hI hS (lv_sub hl [1, 0] rfl) h
  unfold f6_remove at h
  refine lv_aload_n hx hb dX6_remove_0 rfl (lv_at hl 0 rfl) ?_
  refine lv_iload_n hx hb dX6_remove_1 rfl (lv_at hl 1 rfl) ?_
  refine r_calli (va_runV (As := [.int (iI a0)]) (rest := []) ⟨hx, hb, hml, hown, hts⟩ (m6_has l G o hv_this _ st a0 h) (cwV 1 hts gX6_remove_X6_has rfl rfl rfl hd6_has ⟨Nat.le_of_ble_eq_true rfl, Nat.le_of_ble_eq_true rfl⟩) (pre_V hK hX hI hA hS hv_this rfl rfl [.int (iI a0)]) rfl rfl hl.1 rfl (lv_room (Nat.le_of_ble_eq_true rfl)) dX6_remove_2 ⟨Nat.le_of_ble_eq_true rfl, Nat.le_of_ble_eq_true rfl⟩) hS (fun z1 st2 h H locs hI hS => ?_)
  obtain ⟨g3, h⟩ := h
  refine r_if_ne (tgt := 9) hx hb dX6_remove_5 (by decide) g3 (fun c4 => ?_) (fun c4 => ?_)
  · replace h := h.2 c4
    refine lv_aload_n hx hb dX6_remove_9 rfl (lv_at hl 0 rfl) ?_
    refine lv_dup hx hb dX6_remove_10 rfl ?_
    refine gg_6_2 hx hb hts in6 hown hK hI hv_this lk_9 dX6_remove_11 ?_
    refine r_iconst (n := 1) hx hb dX6_remove_14 ?_
    refine r_isub hx hb dX6_remove_15 ?_
    refine pp_6_2 hx hb hts in6 hown hK hI hS hv_this lk_9 dX6_remove_16 (fun st5 hst5 H locs hI hS => ?_)
    replace h := h st5 hst5
    refine lv_iload_n hx hb dX6_remove_19 rfl (lv_at hl 1 rfl) ?_
    refine lv_istore_n (lv' := [(2, .int (iI a0)), (0, .ref (G.2.2.1 6 o)), (1, .int (iI a0))]) hx hb dX6_remove_20 rfl hl (by decide) rfl (fun ls hl => ?_)
    obtain ⟨kk, h⟩ := h
    exact L21 kk st5 a0 _ _ ls hI hS (lv_sub hl [1, 0] rfl) h
  · replace h := h.1 c4
    exact r_vret hx hb hr hlocks hK hI hS (Qp := Q) h dX6_remove_8
theorem hd7_put : yX7_put.cls = RX7 ∧ yX7_put.cls ≠ "java/lang/invoke/MethodHandle" ∧ yX7_put.cls ≠ "java/lang/invoke/VarHandle" ∧ (parseMethodDescriptor yX7_put.desc).map (fun d => d.parameters.length) = some 1 := by decide +kernel
set_option maxHeartbeats 4000000 in
set_option maxRecDepth 100000 in
theorem m7_put (l : Launch) (G : WG)   (hv_this : vC 7 0) (Q : St → Prop) (st : St) (a0 : Int) (h : f7_put Q st a0) : Met l yX7_put wsX7_put ({ frames := 0, cells := 0, slots := 0, locals := 0 }) (PcM vC G st [.ref (G.2.2.1 7 0), .int (iI a0)]) (QvM vC G Q) 0 0 G.2.2.2.1 := by
  refine Met.ofW (cc := cX7_put) (maxL := 2) (ret := none) (by decide) rfl ?_
  intro p e s m args below meth c s₁ B hml hvv
  obtain ⟨rfl, hA, hI, hK, hX⟩ := hvv
  have hx := B.exec
  have hb := B.bytes
  have hr := B.returns
  have hts := atoms_spec (ws := wsX7_put) B.pre
  have hown : s.vm.findClass RX7 = some m.cls := findClass_of_methodNamed B.named
  have hlocks := B.notSynchronized
  have hS : va_S G.2.2.2.1 s.heap s.heap [] := va_S.rf
  have in7 : ∀ w ∈ wsX70, w ∈ wsX7_put := by decide +kernel
  have lk_9 := hts (.fieldLink RX7 9 "BeamLines$Text" "bytes" "[C") (by decide +kernel)
  have lk_15 := hts (.fieldLink RX7 15 "BeamLines$Text" "length" "I") (by decide +kernel)
  have hl := lv_entry ([.ref (G.2.2.1 7 0), .int (iI a0)]) (n := 2) (Nat.le_of_ble_eq_true rfl)
  rw [lg_entry_eq]
  generalize (lg_sl ([.ref (G.2.2.1 7 0), .int (iI a0)]) ++ List.replicate (2 - (lg_sl ([.ref (G.2.2.1 7 0), .int (iI a0)])).length) Slot.unset).toArray = ls at hl ⊢
  have hl : lv_has ls 2 [(0, .ref (G.2.2.1 7 0)), (1, .int (iI a0))] := hl
  unfold f7_put at h
  refine lv_aload_n hx hb dX7_put_0 rfl (lv_at hl 0 rfl) ?_
  refine gg_7_1 hx hb hts in7 hown hK hI hv_this lk_15 dX7_put_1 ?_
  refine r_sipush (n := 500) hx hb dX7_put_4 rfl ?_
  obtain ⟨g1, h⟩ := h
  refine r_icmp_ge (tgt := 31) hx hb dX7_put_7 (by decide) g1 (inI_mk rfl) (fun c2 => ?_) (fun c2 => ?_)
  · replace h := h.1 c2
    exact r_vret hx hb hr hlocks hK hI hS (Qp := Q) h dX7_put_31
  · replace h := h.2 c2
    refine lv_aload_n hx hb dX7_put_10 rfl (lv_at hl 0 rfl) ?_
    refine gg_7_0 hx hb hts in7 hown hK hI hv_this lk_9 dX7_put_11 ?_
    refine lv_aload_n hx hb dX7_put_14 rfl (lv_at hl 0 rfl) ?_
    refine gg_7_1 hx hb hts in7 hown hK hI hv_this lk_15 dX7_put_15 ?_
    refine lv_iload_n hx hb dX7_put_18 rfl (lv_at hl 1 rfl) ?_
    obtain ⟨g3, h⟩ := h
    refine r_i2c hx hb dX7_put_19 g3.1 g3.2 ?_
    obtain ⟨g4, g5, h⟩ := h
    obtain ⟨g6, h⟩ := h
    refine r_cast hx hb hK hI hS (K := 21) (vrC_7_0 hv_this) (fun _ => rfl) (lts_mk rfl) dX7_put_20 g4 g5 (char_fit g6.1 g6.2) (fun st7 hst7 H locs hI hS => ?_)
    replace h := h st7 hst7
    refine lv_aload_n hx hb dX7_put_21 rfl (lv_at hl 0 rfl) ?_
    refine lv_dup hx hb dX7_put_22 rfl ?_
    refine gg_7_1 hx hb hts in7 hown hK hI hv_this lk_15 dX7_put_23 ?_
    refine r_iconst (n := 1) hx hb dX7_put_26 ?_
    refine r_iadd hx hb dX7_put_27 ?_
    refine pp_7_1 hx hb hts in7 hown hK hI hS hv_this lk_15 dX7_put_28 (fun st8 hst8 H locs hI hS => ?_)
    replace h := h st8 hst8
    exact r_vret hx hb hr hlocks hK hI hS (Qp := Q) h dX7_put_31
theorem hd8_bytesIn : yX8_bytesIn.cls ≠ "java/lang/invoke/MethodHandle" ∧ yX8_bytesIn.cls ≠ "java/lang/invoke/VarHandle" ∧ (parseMethodDescriptor yX8_bytesIn.desc).map (fun d => d.parameters.length) = some 1 := by decide +kernel
set_option maxHeartbeats 4000000 in
set_option maxRecDepth 100000 in
theorem m8_bytesIn (l : Launch) (G : WG)    (Q : Int → St → Prop) (st : St) (a0 : Int) (h : f8_bytesIn Q st a0) : Met l yX8_bytesIn wsX8_bytesIn ({ frames := 0, cells := 0, slots := 0, locals := 0 }) (PcM vC G st [.int (iI a0)]) (QiM vC G Q) 0 0 G.2.2.2.1 := by
  refine Met.ofW (cc := cX8_bytesIn) (maxL := 3) (ret := (some .int)) (by decide) rfl ?_
  intro p e s m args below meth c s₁ B hml hvv
  obtain ⟨rfl, hA, hI, hK, hX⟩ := hvv
  have hx := B.exec
  have hb := B.bytes
  have hr := B.returns
  have hts := atoms_spec (ws := wsX8_bytesIn) B.pre
  have hown : s.vm.findClass RX8 = some m.cls := findClass_of_methodNamed B.named
  have hlocks := B.notSynchronized
  have hS : va_S G.2.2.2.1 s.heap s.heap [] := va_S.rf
  have hl := lv_entry ([.int (iI a0)]) (n := 3) (Nat.le_of_ble_eq_true rfl)
  rw [lg_entry_eq]
  generalize (lg_sl ([.int (iI a0)]) ++ List.replicate (3 - (lg_sl ([.int (iI a0)])).length) Slot.unset).toArray = ls at hl ⊢
  have hl : lv_has ls 3 [(0, .int (iI a0))] := hl
  have L5 : ∀ (n5 : Nat), ∀ (st : St) (v1x5 : Int) (v2x5 : Int) (H : Heap) (locs : List Loc) (ls : Array Slot), Iv vC G st H → va_S G.2.2.2.1 s.heap H locs → lv_has ls 3 [(0, .int (iI a0)), (1, .int (iI v1x5)), (2, .int (iI v2x5))] → f8_bytesIn_l5 Q a0 n5 st v1x5 v2x5 → W p l e (headSpec wsX8_bytesIn ({ frames := 0, cells := 0, slots := 0, locals := 0 })).room s m ([.int (iI a0)] : List Value).toArray below meth c H locs 0 0 (MQ below (QiM vC G Q) ([.int (iI a0)] : List Value).toArray s 0 0 G.2.2.2.1) (F0 m 5 ls []) := by
    intro n5
    induction n5 with
    | zero =>
      intro st v1x5 v2x5 H locs ls hI hS hl h
      exact h.elim
    | succ n5 ih5 =>
      have J22 : ∀ (st : St) (v1x22 : Int) (v2x22 : Int) (H : Heap) (locs : List Loc) (ls : Array Slot), Iv vC G st H → va_S G.2.2.2.1 s.heap H locs → lv_has ls 3 [(0, .int (iI a0)), (1, .int (iI v1x22)), (2, .int (iI v2x22))] → f8_bytesIn_j22 (fun st v1x5 v2x5 => f8_bytesIn_l5 Q a0 n5 st v1x5 v2x5) Q a0 st v1x22 v2x22 → W p l e (headSpec wsX8_bytesIn ({ frames := 0, cells := 0, slots := 0, locals := 0 })).room s m ([.int (iI a0)] : List Value).toArray below meth c H locs 0 0 (MQ below (QiM vC G Q) ([.int (iI a0)] : List Value).toArray s 0 0 G.2.2.2.1) (F0 m 22 ls []) := by
        intro st v1x22 v2x22 H locs ls hI hS hl h
        unfold f8_bytesIn_j22 at h
        obtain ⟨x6, hx6⟩ : ∃ z : Int, z = v2x22 + (-8) := ⟨_, rfl⟩
        replace h := h x6 hx6
        refine lv_iinc (v := iI x6) (lv' := [(2, .int (iI x6)), (0, .int (iI a0)), (1, .int (iI v1x22))]) hx hb dX8_bytesIn_22 hl (k := 2) rfl (by rw [hx6]; exact iI_add _ _) (by decide) rfl (fun ls hl => ?_)
        refine lv_goto (tgt := 5) hx hb dX8_bytesIn_25 (by decide) ?_
        exact ih5 st v1x22 x6 _ _ ls hI hS (lv_sub hl [1, 2, 0] rfl) h
      intro st v1x5 v2x5 H locs ls hI hS hl h
      unfold f8_bytesIn_l5 at h
      refine lv_iload_n hx hb dX8_bytesIn_5 rfl (lv_at hl 2 rfl) ?_
      obtain ⟨g1, h⟩ := h
      refine r_if_lt (tgt := 28) hx hb dX8_bytesIn_6 (by decide) g1 (fun c2 => ?_) (fun c2 => ?_)
      · replace h := h.1 c2
        refine lv_iload_n hx hb dX8_bytesIn_28 rfl (lv_at hl 1 rfl) ?_
        exact r_iret hx hb hr hlocks hK hI hS (Qp := Q) h dX8_bytesIn_29
      · replace h := h.2 c2
        refine lv_iload_n hx hb dX8_bytesIn_9 rfl (lv_at hl 0 rfl) ?_
        refine lv_iload_n hx hb dX8_bytesIn_10 rfl (lv_at hl 2 rfl) ?_
        refine r_iushr hx hb dX8_bytesIn_11 ?_
        refine r_sipush (n := 255) hx hb dX8_bytesIn_12 rfl ?_
        refine r_iand hx hb dX8_bytesIn_15 ?_
        obtain ⟨g3, h⟩ := h
        refine r_if_eq (tgt := 22) hx hb dX8_bytesIn_16 (by decide) g3 (fun c4 => ?_) (fun c4 => ?_)
        · replace h := h.1 c4
          exact J22 st v1x5 v2x5 _ _ ls hI hS (lv_sub hl [0, 1, 2] rfl) h
        · replace h := h.2 c4
          obtain ⟨x5, hx5⟩ : ∃ z : Int, z = v1x5 + 1 := ⟨_, rfl⟩
          replace h := h x5 hx5
          refine lv_iinc (v := iI x5) (lv' := [(1, .int (iI x5)), (0, .int (iI a0)), (2, .int (iI v2x5))]) hx hb dX8_bytesIn_19 hl (k := 1) rfl (by rw [hx5]; exact iI_add _ _) (by decide) rfl (fun ls hl => ?_)
          exact J22 st x5 v2x5 _ _ ls hI hS (lv_sub hl [1, 0, 2] rfl) h
  unfold f8_bytesIn at h
  refine r_iconst (n := 0) hx hb dX8_bytesIn_0 ?_
  refine lv_istore_n (lv' := [(1, .int (iI 0)), (0, .int (iI a0))]) hx hb dX8_bytesIn_1 rfl hl (by decide) rfl (fun ls hl => ?_)
  refine r_bipush (n := 24) hx hb dX8_bytesIn_2 rfl ?_
  refine lv_istore_n (lv' := [(2, .int (iI 24)), (1, .int (iI 0)), (0, .int (iI a0))]) hx hb dX8_bytesIn_4 rfl hl (by decide) rfl (fun ls hl => ?_)
  obtain ⟨kk, h⟩ := h
  exact L5 kk st 0 24 _ _ ls hI hS (lv_sub hl [2, 1, 0] rfl) h
theorem hd8_putBytes : yX8_putBytes.cls = RX8 ∧ yX8_putBytes.cls ≠ "java/lang/invoke/MethodHandle" ∧ yX8_putBytes.cls ≠ "java/lang/invoke/VarHandle" ∧ (parseMethodDescriptor yX8_putBytes.desc).map (fun d => d.parameters.length) = some 1 := by decide +kernel
set_option maxHeartbeats 4000000 in
set_option maxRecDepth 100000 in
theorem m8_putBytes (l : Launch) (G : WG)   (hv_this : vC 8 0) (Q : St → Prop) (st : St) (a0 : Int) (h : f8_putBytes Q st a0) : Met l yX8_putBytes wsX8_putBytes ({ frames := 1, cells := 0, slots := 0, locals := 21 }) (PcM vC G st [.ref (G.2.2.1 8 0), .int (iI a0)]) (QvM vC G Q) 0 0 G.2.2.2.1 := by
  refine Met.ofW (cc := cX8_putBytes) (maxL := 4) (ret := none) (by decide) rfl ?_
  intro p e s m args below meth c s₁ B hml hvv
  obtain ⟨rfl, hA, hI, hK, hX⟩ := hvv
  have hx := B.exec
  have hb := B.bytes
  have hr := B.returns
  have hts := atoms_spec (ws := wsX8_putBytes) B.pre
  have hown : s.vm.findClass RX8 = some m.cls := findClass_of_methodNamed B.named
  have hlocks := B.notSynchronized
  have hS : va_S G.2.2.2.1 s.heap s.heap [] := va_S.rf
  have in5 : ∀ w ∈ wsX50, w ∈ wsX8_putBytes := by decide +kernel
  have in8 : ∀ w ∈ wsX80, w ∈ wsX8_putBytes := by decide +kernel
  have lk_12 := hts (.fieldLink RX8 12 "BeamLines" "reader" "LBeamLines$Reader;") (by decide +kernel)
  have lk_103 := hts (.fieldLink RX8 103 "BeamLines$Reader" "text" "LBeamLines$Text;") (by decide +kernel)
  have hl := lv_entry ([.ref (G.2.2.1 8 0), .int (iI a0)]) (n := 4) (Nat.le_of_ble_eq_true rfl)
  rw [lg_entry_eq]
  generalize (lg_sl ([.ref (G.2.2.1 8 0), .int (iI a0)]) ++ List.replicate (4 - (lg_sl ([.ref (G.2.2.1 8 0), .int (iI a0)])).length) Slot.unset).toArray = ls at hl ⊢
  have hl : lv_has ls 4 [(0, .ref (G.2.2.1 8 0)), (1, .int (iI a0))] := hl
  have L3 : ∀ (n3 : Nat), ∀ (st : St) (v2x3 : Int) (H : Heap) (locs : List Loc) (ls : Array Slot), Iv vC G st H → va_S G.2.2.2.1 s.heap H locs → lv_has ls 4 [(0, .ref (G.2.2.1 8 0)), (1, .int (iI a0)), (2, .int (iI v2x3))] → f8_putBytes_l3 Q a0 n3 st v2x3 → W p l e (headSpec wsX8_putBytes ({ frames := 1, cells := 0, slots := 0, locals := 21 })).room s m ([.ref (G.2.2.1 8 0), .int (iI a0)] : List Value).toArray below meth c H locs 0 0 (MQ below (QvM vC G Q) ([.ref (G.2.2.1 8 0), .int (iI a0)] : List Value).toArray s 0 0 G.2.2.2.1) (F0 m 3 ls []) := by
    intro n3
    induction n3 with
    | zero =>
      intro st v2x3 H locs ls hI hS hl h
      exact h.elim
    | succ n3 ih3 =>
      have J30 : ∀ (st : St) (v2x30 : Int) (H : Heap) (locs : List Loc) (ls : Array Slot), Iv vC G st H → va_S G.2.2.2.1 s.heap H locs → lv_has ls 4 [(0, .ref (G.2.2.1 8 0)), (1, .int (iI a0)), (2, .int (iI v2x30))] → f8_putBytes_j30 (fun st v2x3 => f8_putBytes_l3 Q a0 n3 st v2x3) Q a0 st v2x30 → W p l e (headSpec wsX8_putBytes ({ frames := 1, cells := 0, slots := 0, locals := 21 })).room s m ([.ref (G.2.2.1 8 0), .int (iI a0)] : List Value).toArray below meth c H locs 0 0 (MQ below (QvM vC G Q) ([.ref (G.2.2.1 8 0), .int (iI a0)] : List Value).toArray s 0 0 G.2.2.2.1) (F0 m 30 ls []) := by
        intro st v2x30 H locs ls hI hS hl h
        unfold f8_putBytes_j30 at h
        obtain ⟨x8, hx8⟩ : ∃ z : Int, z = v2x30 + (-8) := ⟨_, rfl⟩
        replace h := h x8 hx8
        refine lv_iinc (v := iI x8) (lv' := [(2, .int (iI x8)), (0, .ref (G.2.2.1 8 0)), (1, .int (iI a0))]) hx hb dX8_putBytes_30 hl (k := 2) rfl (by rw [hx8]; exact iI_add _ _) (by decide) rfl (fun ls hl => ?_)
        refine lv_goto (tgt := 3) hx hb dX8_putBytes_33 (by decide) ?_
        exact ih3 st x8 _ _ ls hI hS (lv_sub hl [1, 2, 0] rfl) h
      intro st v2x3 H locs ls hI hS hl h
      unfold f8_putBytes_l3 at h
      refine lv_iload_n hx hb dX8_putBytes_3 rfl (lv_at hl 2 rfl) ?_
      obtain ⟨g1, h⟩ := h
      refine r_if_lt (tgt := 36) hx hb dX8_putBytes_4 (by decide) g1 (fun c2 => ?_) (fun c2 => ?_)
      · replace h := h.1 c2
        exact r_vret hx hb hr hlocks hK hI hS (Qp := Q) h dX8_putBytes_36
      · replace h := h.2 c2
        refine lv_iload_n hx hb dX8_putBytes_7 rfl (lv_at hl 1 rfl) ?_
        refine lv_iload_n hx hb dX8_putBytes_8 rfl (lv_at hl 2 rfl) ?_
        refine r_iushr hx hb dX8_putBytes_9 ?_
        refine r_sipush (n := 255) hx hb dX8_putBytes_10 rfl ?_
        refine r_iand hx hb dX8_putBytes_13 ?_
        refine r_topi (fun x3 hx3 => ?_)
        replace h := h x3 hx3
        refine lv_istore_n (lv' := [(3, .int (iI x3)), (0, .ref (G.2.2.1 8 0)), (1, .int (iI a0)), (2, .int (iI v2x3))]) hx hb dX8_putBytes_14 rfl hl (by decide) rfl (fun ls hl => ?_)
        refine lv_iload_n hx hb dX8_putBytes_15 rfl (lv_at hl 0 rfl) ?_
        obtain ⟨g4, h⟩ := h
        refine r_if_eq (tgt := 30) hx hb dX8_putBytes_16 (by decide) g4 (fun c5 => ?_) (fun c5 => ?_)
        · replace h := h.1 c5
          exact J30 st v2x3 _ _ ls hI hS (lv_sub hl [1, 2, 3] rfl) h
        · replace h := h.2 c5
          refine lv_aload_n hx hb dX8_putBytes_19 rfl (lv_at hl 1 rfl) ?_
          refine gg_8_0 hx hb hts in8 hown hK hI hv_this lk_12 dX8_putBytes_20 ?_
          refine gg_5_0 hx hb hts in5 hown hK hI (vrC_8_0 hv_this) lk_103 dX8_putBytes_23 ?_
          refine lv_iload_n hx hb dX8_putBytes_26 rfl (lv_at hl 0 rfl) ?_
          refine r_callv (va_runV (As := [.int (iI x3)]) (rest := []) ⟨hx, hb, hml, hown, hts⟩ (m7_put l G (vrC_5_0 (vrC_8_0 hv_this)) _ st x3 h) (cwV 1 hts gX8_putBytes_X7_put rfl rfl rfl hd7_put ⟨Nat.le_of_ble_eq_true rfl, Nat.le_of_ble_eq_true rfl⟩) (pre_V hK hX hI hA hS (vrC_5_0 (vrC_8_0 hv_this)) rfl rfl [.int (iI x3)]) rfl rfl hl.1 rfl (lv_room (Nat.le_of_ble_eq_true rfl)) dX8_putBytes_27 ⟨Nat.le_of_ble_eq_true rfl, Nat.le_of_ble_eq_true rfl⟩) hS (fun st7 h H locs hI hS => ?_)
          exact J30 st7 v2x3 _ _ ls hI hS (lv_sub hl [1, 2, 3] rfl) h
  unfold f8_putBytes at h
  refine r_bipush (n := 24) hx hb dX8_putBytes_0 rfl ?_
  refine lv_istore_n (lv' := [(2, .int (iI 24)), (0, .ref (G.2.2.1 8 0)), (1, .int (iI a0))]) hx hb dX8_putBytes_2 rfl hl (by decide) rfl (fun ls hl => ?_)
  obtain ⟨kk, h⟩ := h
  exact L3 kk st 24 _ _ ls hI hS (lv_sub hl [1, 2, 0] rfl) h
theorem hd8_append : yX8_append.cls = RX8 ∧ yX8_append.cls ≠ "java/lang/invoke/MethodHandle" ∧ yX8_append.cls ≠ "java/lang/invoke/VarHandle" ∧ (parseMethodDescriptor yX8_append.desc).map (fun d => d.parameters.length) = some 5 := by decide +kernel
set_option maxHeartbeats 4000000 in
set_option maxRecDepth 100000 in
theorem m8_append (l : Launch) (G : WG) (hfl : l.stackTraces = false)  (hv_this : vC 8 0) (Q : Int → St → Prop) (X : String → St → Prop) (st : St) (a0 : Int) (a1 : Int) (a2 : Int) (a3 : Int) (a4 : Int) (h : f8_append Q X st a0 a1 a2 a3 a4) : vx_Met l yX8_append wsX8_append ({ frames := 6, cells := 1, slots := 6, locals := 89 }) (PcM vC G st [.ref (G.2.2.1 8 0), .int (iI a0), .int (iI a1), .int (iI a2), .int (iI a3), .int (iI a4)]) (QiM vC G Q) (XM vC G X) 1 6 G.2.2.2.1 := by
  refine vx_ofW (cc := cX8_append) (maxL := 7) (ret := (some .int)) (by decide) rfl ?_
  intro p e s m args below meth c s₁ B hml hE hvv
  obtain ⟨rfl, hA, hI, hK, hX⟩ := hvv
  have hx := B.exec
  have hb := B.bytes
  have hr := B.returns
  have hts := atoms_spec (ws := wsX8_append) B.pre
  have hown : s.vm.findClass RX8 = some m.cls := findClass_of_methodNamed B.named
  have hlocks := B.notSynchronized
  have hS : va_S G.2.2.2.1 s.heap s.heap [] := va_S.rf
  have in5 : ∀ w ∈ wsX50, w ∈ wsX8_append := by decide +kernel
  have in7 : ∀ w ∈ wsX70, w ∈ wsX8_append := by decide +kernel
  have in8 : ∀ w ∈ wsX80, w ∈ wsX8_append := by decide +kernel
  have lk_12 := hts (.fieldLink RX8 12 "BeamLines" "reader" "LBeamLines$Reader;") (by decide +kernel)
  have lk_103 := hts (.fieldLink RX8 103 "BeamLines$Reader" "text" "LBeamLines$Text;") (by decide +kernel)
  have lk_107 := hts (.fieldLink RX8 107 "BeamLines$Text" "length" "I") (by decide +kernel)
  have hl := lv_entry ([.ref (G.2.2.1 8 0), .int (iI a0), .int (iI a1), .int (iI a2), .int (iI a3), .int (iI a4)]) (n := 7) (Nat.le_of_ble_eq_true rfl)
  rw [lg_entry_eq]
  generalize (lg_sl ([.ref (G.2.2.1 8 0), .int (iI a0), .int (iI a1), .int (iI a2), .int (iI a3), .int (iI a4)]) ++ List.replicate (7 - (lg_sl ([.ref (G.2.2.1 8 0), .int (iI a0), .int (iI a1), .int (iI a2), .int (iI a3), .int (iI a4)])).length) Slot.unset).toArray = ls at hl ⊢
  have hl : lv_has ls 7 [(0, .ref (G.2.2.1 8 0)), (1, .int (iI a0)), (2, .int (iI a1)), (3, .int (iI a2)), (4, .int (iI a3)), (5, .int (iI a4))] := hl
  unfold f8_append at h
  refine lv_iload_n hx hb dX8_append_0 rfl (lv_at hl 1 rfl) ?_
  refine r_calli (va_runS (As := [.int (iI a0)]) (rest := []) ⟨hx, hb, hml, hown, hts⟩ (m8_bytesIn l G _ st a0 h) (va_cwS 1 hts gX8_append_X8_bytesIn rfl rfl rfl hd8_bytesIn ⟨Nat.le_of_ble_eq_true rfl, Nat.le_of_ble_eq_true rfl⟩) (pre_S hK hX hI hA hS [.int (iI a0)]) rfl rfl hl.1 rfl (lv_room (Nat.le_of_ble_eq_true rfl)) dX8_append_1 ⟨Nat.le_of_ble_eq_true rfl, Nat.le_of_ble_eq_true rfl⟩) hS (fun z1 st2 h H locs hI hS => ?_)
  refine lv_iload_n hx hb dX8_append_4 rfl (lv_at hl 2 rfl) ?_
  refine r_calli (va_runS (As := [.int (iI a1)]) (rest := [.int (iI z1)]) ⟨hx, hb, hml, hown, hts⟩ (m8_bytesIn l G _ st2 a1 h) (va_cwS 1 hts gX8_append_X8_bytesIn rfl rfl rfl hd8_bytesIn ⟨Nat.le_of_ble_eq_true rfl, Nat.le_of_ble_eq_true rfl⟩) (pre_S hK hX hI hA hS [.int (iI a1)]) rfl rfl hl.1 rfl (lv_room (Nat.le_of_ble_eq_true rfl)) dX8_append_5 ⟨Nat.le_of_ble_eq_true rfl, Nat.le_of_ble_eq_true rfl⟩) hS (fun z3 st4 h H locs hI hS => ?_)
  refine r_iadd hx hb dX8_append_8 ?_
  refine lv_iload_n hx hb dX8_append_9 rfl (lv_at hl 3 rfl) ?_
  refine r_calli (va_runS (As := [.int (iI a2)]) (rest := [.int (iI (z1 + z3))]) ⟨hx, hb, hml, hown, hts⟩ (m8_bytesIn l G _ st4 a2 h) (va_cwS 1 hts gX8_append_X8_bytesIn rfl rfl rfl hd8_bytesIn ⟨Nat.le_of_ble_eq_true rfl, Nat.le_of_ble_eq_true rfl⟩) (pre_S hK hX hI hA hS [.int (iI a2)]) rfl rfl hl.1 rfl (lv_room (Nat.le_of_ble_eq_true rfl)) dX8_append_10 ⟨Nat.le_of_ble_eq_true rfl, Nat.le_of_ble_eq_true rfl⟩) hS (fun z5 st6 h H locs hI hS => ?_)
  refine r_iadd hx hb dX8_append_13 ?_
  refine lv_iload hx hb dX8_append_14 (lv_at hl 4 rfl) ?_
  refine r_calli (va_runS (As := [.int (iI a3)]) (rest := [.int (iI ((z1 + z3) + z5))]) ⟨hx, hb, hml, hown, hts⟩ (m8_bytesIn l G _ st6 a3 h) (va_cwS 1 hts gX8_append_X8_bytesIn rfl rfl rfl hd8_bytesIn ⟨Nat.le_of_ble_eq_true rfl, Nat.le_of_ble_eq_true rfl⟩) (pre_S hK hX hI hA hS [.int (iI a3)]) rfl rfl hl.1 rfl (lv_room (Nat.le_of_ble_eq_true rfl)) dX8_append_16 ⟨Nat.le_of_ble_eq_true rfl, Nat.le_of_ble_eq_true rfl⟩) hS (fun z7 st8 h H locs hI hS => ?_)
  refine r_iadd hx hb dX8_append_19 ?_
  refine lv_iload hx hb dX8_append_20 (lv_at hl 5 rfl) ?_
  refine r_calli (va_runS (As := [.int (iI a4)]) (rest := [.int (iI (((z1 + z3) + z5) + z7))]) ⟨hx, hb, hml, hown, hts⟩ (m8_bytesIn l G _ st8 a4 h) (va_cwS 1 hts gX8_append_X8_bytesIn rfl rfl rfl hd8_bytesIn ⟨Nat.le_of_ble_eq_true rfl, Nat.le_of_ble_eq_true rfl⟩) (pre_S hK hX hI hA hS [.int (iI a4)]) rfl rfl hl.1 rfl (lv_room (Nat.le_of_ble_eq_true rfl)) dX8_append_22 ⟨Nat.le_of_ble_eq_true rfl, Nat.le_of_ble_eq_true rfl⟩) hS (fun z9 st10 h H locs hI hS => ?_)
  refine r_iadd hx hb dX8_append_25 ?_
  refine r_topi (fun x11 hx11 => ?_)
  replace h := h x11 hx11
  refine lv_istore (lv' := [(6, .int (iI x11)), (0, .ref (G.2.2.1 8 0)), (1, .int (iI a0)), (2, .int (iI a1)), (3, .int (iI a2)), (4, .int (iI a3)), (5, .int (iI a4))]) hx hb dX8_append_26 hl (by decide) rfl (fun ls hl => ?_)
  refine lv_aload_n hx hb dX8_append_28 rfl (lv_at hl 1 rfl) ?_
  refine gg_8_0 hx hb hts in8 hown hK hI hv_this lk_12 dX8_append_29 ?_
  refine gg_5_0 hx hb hts in5 hown hK hI (vrC_8_0 hv_this) lk_103 dX8_append_32 ?_
  refine gg_7_1 hx hb hts in7 hown hK hI (vrC_5_0 (vrC_8_0 hv_this)) lk_107 dX8_append_35 ?_
  refine lv_iload hx hb dX8_append_38 (lv_at hl 0 rfl) ?_
  refine r_iadd hx hb dX8_append_40 ?_
  refine r_sipush (n := 500) hx hb dX8_append_41 rfl ?_
  obtain ⟨g12, h⟩ := h
  refine r_icmp_le (tgt := 55) hx hb dX8_append_44 (by decide) g12 (inI_mk rfl) (fun c13 => ?_) (fun c13 => ?_)
  · replace h := h.1 c13
    refine lv_aload_n hx hb dX8_append_55 rfl (lv_at hl 1 rfl) ?_
    refine lv_iload_n hx hb dX8_append_56 rfl (lv_at hl 2 rfl) ?_
    refine r_callv (va_runV (As := [.int (iI a0)]) (rest := []) ⟨hx, hb, hml, hown, hts⟩ (m8_putBytes l G hv_this _ st10 a0 h) (cwV 1 hts gX8_append_X8_putBytes rfl rfl rfl hd8_putBytes ⟨Nat.le_of_ble_eq_true rfl, Nat.le_of_ble_eq_true rfl⟩) (pre_V hK hX hI hA hS hv_this rfl rfl [.int (iI a0)]) rfl rfl hl.1 rfl (lv_room (Nat.le_of_ble_eq_true rfl)) dX8_append_57 ⟨Nat.le_of_ble_eq_true rfl, Nat.le_of_ble_eq_true rfl⟩) hS (fun st15 h H locs hI hS => ?_)
    refine lv_aload_n hx hb dX8_append_60 rfl (lv_at hl 1 rfl) ?_
    refine lv_iload_n hx hb dX8_append_61 rfl (lv_at hl 3 rfl) ?_
    refine r_callv (va_runV (As := [.int (iI a1)]) (rest := []) ⟨hx, hb, hml, hown, hts⟩ (m8_putBytes l G hv_this _ st15 a1 h) (cwV 1 hts gX8_append_X8_putBytes rfl rfl rfl hd8_putBytes ⟨Nat.le_of_ble_eq_true rfl, Nat.le_of_ble_eq_true rfl⟩) (pre_V hK hX hI hA hS hv_this rfl rfl [.int (iI a1)]) rfl rfl hl.1 rfl (lv_room (Nat.le_of_ble_eq_true rfl)) dX8_append_62 ⟨Nat.le_of_ble_eq_true rfl, Nat.le_of_ble_eq_true rfl⟩) hS (fun st17 h H locs hI hS => ?_)
    refine lv_aload_n hx hb dX8_append_65 rfl (lv_at hl 1 rfl) ?_
    refine lv_iload_n hx hb dX8_append_66 rfl (lv_at hl 4 rfl) ?_
    refine r_callv (va_runV (As := [.int (iI a2)]) (rest := []) ⟨hx, hb, hml, hown, hts⟩ (m8_putBytes l G hv_this _ st17 a2 h) (cwV 1 hts gX8_append_X8_putBytes rfl rfl rfl hd8_putBytes ⟨Nat.le_of_ble_eq_true rfl, Nat.le_of_ble_eq_true rfl⟩) (pre_V hK hX hI hA hS hv_this rfl rfl [.int (iI a2)]) rfl rfl hl.1 rfl (lv_room (Nat.le_of_ble_eq_true rfl)) dX8_append_67 ⟨Nat.le_of_ble_eq_true rfl, Nat.le_of_ble_eq_true rfl⟩) hS (fun st19 h H locs hI hS => ?_)
    refine lv_aload_n hx hb dX8_append_70 rfl (lv_at hl 1 rfl) ?_
    refine lv_iload hx hb dX8_append_71 (lv_at hl 5 rfl) ?_
    refine r_callv (va_runV (As := [.int (iI a3)]) (rest := []) ⟨hx, hb, hml, hown, hts⟩ (m8_putBytes l G hv_this _ st19 a3 h) (cwV 1 hts gX8_append_X8_putBytes rfl rfl rfl hd8_putBytes ⟨Nat.le_of_ble_eq_true rfl, Nat.le_of_ble_eq_true rfl⟩) (pre_V hK hX hI hA hS hv_this rfl rfl [.int (iI a3)]) rfl rfl hl.1 rfl (lv_room (Nat.le_of_ble_eq_true rfl)) dX8_append_73 ⟨Nat.le_of_ble_eq_true rfl, Nat.le_of_ble_eq_true rfl⟩) hS (fun st21 h H locs hI hS => ?_)
    refine lv_aload_n hx hb dX8_append_76 rfl (lv_at hl 1 rfl) ?_
    refine lv_iload hx hb dX8_append_77 (lv_at hl 6 rfl) ?_
    refine r_callv (va_runV (As := [.int (iI a4)]) (rest := []) ⟨hx, hb, hml, hown, hts⟩ (m8_putBytes l G hv_this _ st21 a4 h) (cwV 1 hts gX8_append_X8_putBytes rfl rfl rfl hd8_putBytes ⟨Nat.le_of_ble_eq_true rfl, Nat.le_of_ble_eq_true rfl⟩) (pre_V hK hX hI hA hS hv_this rfl rfl [.int (iI a4)]) rfl rfl hl.1 rfl (lv_room (Nat.le_of_ble_eq_true rfl)) dX8_append_79 ⟨Nat.le_of_ble_eq_true rfl, Nat.le_of_ble_eq_true rfl⟩) hS (fun st23 h H locs hI hS => ?_)
    refine lv_aload_n hx hb dX8_append_82 rfl (lv_at hl 1 rfl) ?_
    refine gg_8_0 hx hb hts in8 hown hK hI hv_this lk_12 dX8_append_83 ?_
    refine gg_5_0 hx hb hts in5 hown hK hI (vrC_8_0 hv_this) lk_103 dX8_append_86 ?_
    refine gg_7_1 hx hb hts in7 hown hK hI (vrC_5_0 (vrC_8_0 hv_this)) lk_107 dX8_append_89 ?_
    refine W.widen (k := 1) (n := 6) (by decide) (by decide) ?_
    exact vx_ret (r_iret hx hb hr hlocks hK hI hS (Qp := Q) h dX8_append_92)
  · replace h := h.2 c13
    exact r_throw hx hb hfl hts hown (cls := "java/lang/IllegalStateException") (by decide) (by decide +kernel) (by decide +kernel) (by decide +kernel) (fun w h9 => by first | exact List.mem_cons_of_mem _ (List.mem_append_right _ h9) | exact List.mem_cons_of_mem _ (List.mem_append_left _ (List.mem_append_right _ h9)) | exact List.mem_cons_of_mem _ (List.mem_append_left _ (List.mem_append_left _ (List.mem_append_right _ h9)))) (by decide +kernel) (by decide +kernel) hX hS hl.1 hml dX8_append_47 dX8_append_50 dX8_append_51 dX8_append_54 hE ⟨Nat.le_of_ble_eq_true rfl, Nat.le_of_ble_eq_true rfl, Nat.le_of_ble_eq_true rfl, Nat.le_of_ble_eq_true rfl⟩ (Nat.le_of_ble_eq_true rfl) hlocks hK hI h (by decide) (by decide)
theorem hd8_takeTrial : yX8_takeTrial.cls = RX8 ∧ yX8_takeTrial.cls ≠ "java/lang/invoke/MethodHandle" ∧ yX8_takeTrial.cls ≠ "java/lang/invoke/VarHandle" ∧ (parseMethodDescriptor yX8_takeTrial.desc).map (fun d => d.parameters.length) = some 0 := by decide +kernel
set_option maxHeartbeats 4000000 in
set_option maxRecDepth 100000 in
theorem m8_takeTrial (l : Launch) (G : WG)   (hv_this : vC 8 0) (Q : St → Prop) (st : St)  (h : f8_takeTrial Q st) : Met l yX8_takeTrial wsX8_takeTrial ({ frames := 5, cells := 0, slots := 0, locals := 113 }) (PcM vC G st [.ref (G.2.2.1 8 0)]) (QvM vC G Q) 0 0 G.2.2.2.1 := by
  refine Met.ofW (cc := cX8_takeTrial) (maxL := 1) (ret := none) (by decide) rfl ?_
  intro p e s m args below meth c s₁ B hml hvv
  obtain ⟨rfl, hA, hI, hK, hX⟩ := hvv
  have hx := B.exec
  have hb := B.bytes
  have hr := B.returns
  have hts := atoms_spec (ws := wsX8_takeTrial) B.pre
  have hown : s.vm.findClass RX8 = some m.cls := findClass_of_methodNamed B.named
  have hlocks := B.notSynchronized
  have hS : va_S G.2.2.2.1 s.heap s.heap [] := va_S.rf
  have in8 : ∀ w ∈ wsX80, w ∈ wsX8_takeTrial := by decide +kernel
  have lk_23 := hts (.fieldLink RX8 23 "BeamLines" "present" "LBeamLines$Beam;") (by decide +kernel)
  have lk_30 := hts (.fieldLink RX8 30 "BeamLines" "lines" "LBeamLines$Lines;") (by decide +kernel)
  have lk_34 := hts (.fieldLink RX8 34 "BeamLines" "trial" "LBeamLines$Beam;") (by decide +kernel)
  have lk_60 := hts (.fieldLink RX8 60 "BeamLines" "history" "LBeamLines$History;") (by decide +kernel)
  have hl := lv_entry ([.ref (G.2.2.1 8 0)]) (n := 1) (Nat.le_of_ble_eq_true rfl)
  rw [lg_entry_eq]
  generalize (lg_sl ([.ref (G.2.2.1 8 0)]) ++ List.replicate (1 - (lg_sl ([.ref (G.2.2.1 8 0)])).length) Slot.unset).toArray = ls at hl ⊢
  have hl : lv_has ls 1 [(0, .ref (G.2.2.1 8 0))] := hl
  unfold f8_takeTrial at h
  refine lv_aload_n hx hb dX8_takeTrial_0 rfl (lv_at hl 0 rfl) ?_
  refine gg_8_9 hx hb hts in8 hown hK hI hv_this lk_60 dX8_takeTrial_1 ?_
  refine lv_aload_n hx hb dX8_takeTrial_4 rfl (lv_at hl 0 rfl) ?_
  refine gg_8_2 hx hb hts in8 hown hK hI hv_this lk_23 dX8_takeTrial_5 ?_
  refine r_callv (va_runV (As := [.ref (G.2.2.1 0 0)]) (rest := []) ⟨hx, hb, hml, hown, hts⟩ (m2_remember l G 0 (vrC_8_9 hv_this) (vrC_8_2 hv_this) _ st h) (cwV 1 hts gX8_takeTrial_X2_remember rfl rfl rfl hd2_remember ⟨Nat.le_of_ble_eq_true rfl, Nat.le_of_ble_eq_true rfl⟩) (pre_V hK hX hI hA hS (vrC_8_9 hv_this) rfl rfl [.ref (G.2.2.1 0 0)]) rfl rfl hl.1 rfl (lv_room (Nat.le_of_ble_eq_true rfl)) dX8_takeTrial_8 ⟨Nat.le_of_ble_eq_true rfl, Nat.le_of_ble_eq_true rfl⟩) hS (fun st2 h H locs hI hS => ?_)
  refine lv_aload_n hx hb dX8_takeTrial_11 rfl (lv_at hl 0 rfl) ?_
  refine gg_8_2 hx hb hts in8 hown hK hI hv_this lk_23 dX8_takeTrial_12 ?_
  refine lv_aload_n hx hb dX8_takeTrial_15 rfl (lv_at hl 0 rfl) ?_
  refine gg_8_4 hx hb hts in8 hown hK hI hv_this lk_34 dX8_takeTrial_16 ?_
  refine r_callv (va_runV (As := [.ref (G.2.2.1 0 1)]) (rest := []) ⟨hx, hb, hml, hown, hts⟩ (m0_copyFrom l G 0 1 (vrC_8_2 hv_this) (vrC_8_4 hv_this) _ st2 h) (cwV 1 hts gX8_takeTrial_X0_copyFrom rfl rfl rfl hd0_copyFrom ⟨Nat.le_of_ble_eq_true rfl, Nat.le_of_ble_eq_true rfl⟩) (pre_V hK hX hI hA hS (vrC_8_2 hv_this) rfl rfl [.ref (G.2.2.1 0 1)]) rfl rfl hl.1 rfl (lv_room (Nat.le_of_ble_eq_true rfl)) dX8_takeTrial_19 ⟨Nat.le_of_ble_eq_true rfl, Nat.le_of_ble_eq_true rfl⟩) hS (fun st4 h H locs hI hS => ?_)
  refine lv_aload_n hx hb dX8_takeTrial_22 rfl (lv_at hl 0 rfl) ?_
  refine gg_8_3 hx hb hts in8 hown hK hI hv_this lk_30 dX8_takeTrial_23 ?_
  refine lv_aload_n hx hb dX8_takeTrial_26 rfl (lv_at hl 0 rfl) ?_
  refine gg_8_2 hx hb hts in8 hown hK hI hv_this lk_23 dX8_takeTrial_27 ?_
  refine r_calli (va_runV (As := [.ref (G.2.2.1 0 0)]) (rest := []) ⟨hx, hb, hml, hown, hts⟩ (m3_reckon l G 0 0 (vrC_8_3 hv_this) (vrC_8_2 hv_this) _ st4 h) (cwV 1 hts gX8_takeTrial_X3_reckon rfl rfl rfl hd3_reckon ⟨Nat.le_of_ble_eq_true rfl, Nat.le_of_ble_eq_true rfl⟩) (pre_V hK hX hI hA hS (vrC_8_3 hv_this) rfl rfl [.ref (G.2.2.1 0 0)]) rfl rfl hl.1 rfl (lv_room (Nat.le_of_ble_eq_true rfl)) dX8_takeTrial_30 ⟨Nat.le_of_ble_eq_true rfl, Nat.le_of_ble_eq_true rfl⟩) hS (fun z5 st6 h H locs hI hS => ?_)
  refine lv_pop hx hb dX8_takeTrial_33 rfl ?_
  exact r_vret hx hb hr hlocks hK hI hS (Qp := Q) h dX8_takeTrial_34
