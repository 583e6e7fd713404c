/-! both sides together: the other operations -/
theorem SC.va {st : St} {a : Ab} (h : SC st a) : VA a.1.1 := h.1.1
theorem SC.n8 {st : St} {a : Ab} (h : SC st a) : 0 ≤ a.1.2.1 ∧ a.1.2.1 ≤ 8 := h.1.2.2.2.1.2.2.2.1
theorem SC.hB {st : St} {a : Ab} (h : SC st a) : ∀ k, 0 ≤ k → k < a.1.2.1 → VA (a.1.2.2.1 k) := h.1.2.2.2.2.1
theorem SC.hS {st : St} {a : Ab} (h : SC st a) : ∀ i, 0 ≤ i → i < 2 → ¬ a.1.2.2.2.1 i = 0 → VA (a.1.2.2.2.2 i) := fun i i0 i1 q => ((h.1.2.2.2.2.2 i i0 i1).2.2 q).2
theorem SC.pg {st : St} {a : Ab} (h : SC st a) : PG a := h.2.2.2.2
/-- a change that is remembered -/
theorem SC.push {st st' : St} {a : Ab} {A : Int → Int} (h : SC st a) (f : FC st st') (c : CS st' A (pushN a.1.2.1) (pushB a.1.2.1 a.1.2.2.1 a.1.1) a.1.2.2.2.1 a.1.2.2.2.2) (g : HM A) : SC st' ((A, pushN a.1.2.1, pushB a.1.2.1 a.1.2.2.1 a.1.1, a.1.2.2.2.1, a.1.2.2.2.2), a.2) :=
  h.ch f c g (pushB_G h.pg.1 h.pg.2.1 h.n8) h.pg.2.2.1
def chA (a : Ab) (A : Int → Int) : Ab := ((A, pushN a.1.2.1, pushB a.1.2.1 a.1.2.2.1 a.1.1, a.1.2.2.2.1, a.1.2.2.2.2), a.2)
theorem S_setMost {a : Ab} {st8 st9 : St} {a0 : Int} (h8 : SC st8 a) (h9 : SM st9 a) (i0 : inI a0) : ∃ c P a', one P ∧ f8_setMost (O8 c P a') (X8 mA c a') st8 a0 ∧ f9_setMost (O9 c P a') st9 a0 := by
  by_cases c : 1 ≤ a0 ∧ a0 ≤ 999999
  · have g : HM (mostA a.1.1 a0) := ⟨HG_ag h8.pg.1.1 (mostA_ne (by omega)) (mostA_ne (by omega)) (fun k k0 _ => mostA_ne (by omega)), by show 1 ≤ mostA a.1.1 a0 1; unfold mostA; rw [if_pos rfl]; exact c.1⟩
    exact ⟨0, _, chA a (mostA a.1.1 a0), one_eq (a.1.1 1), W8_setMost h8.1 i0 (fun n => absurd c n) (fun _ _ s f k => ⟨rfl, rfl, h8.push f k g⟩), W9_setMost h9.1 i0 (fun n => absurd c n) (fun _ _ s f e k => ⟨fun _ => rfl, e, h9.ch f k⟩)⟩
  · exact ⟨1, _, a, one_eq 0, W8_setMost h8.1 i0 (fun _ => ⟨by omega, mA_1, h8⟩) (fun q1 q2 => absurd ⟨q1, q2⟩ c), W9_setMost h9.1 i0 (fun _ s f e => ⟨fun z => absurd z (by omega), e, h9.q f⟩) (fun q1 q2 => absurd ⟨q1, q2⟩ c)⟩
theorem S_setBearing {a : Ab} {st8 st9 : St} {a0 a1 : Int} (h8 : SC st8 a) (h9 : SM st9 a) (i0 : inI a0) (i1 : inI a1) : ∃ c P a', one P ∧ f8_setBearing (O8 c P a') (X8 mI c a') st8 a0 a1 ∧ f9_setBearing (O9 c P a') st9 a0 a1 := by
  have n5 := h8.va.c.2.2.2.1
  by_cases c : 0 ≤ a0 ∧ a0 < a.1.1 2
  · by_cases d : a1 = -1 ∨ (1 ≤ a1 ∧ a1 ≤ 99999)
    · have g : HM (upA a.1.1 (6 + 2 * a0 + 1) a1) := ⟨HG_ag h8.pg.1.1 (upA_ne (by omega)) (upA_ne (by omega)) (fun k k0 _ => upA_ne (by omega)), by rw [upA_ne (by omega)]; exact h8.pg.1.2⟩
      exact ⟨0, _, chA a (upA a.1.1 (6 + 2 * a0 + 1) a1), one_eq (a.1.1 (6 + 2 * a0 + 1)), W8_setBearing h8.1 i0 i1 (fun n => absurd c n) (fun _ n => absurd d n) (fun _ _ s f k => ⟨rfl, rfl, h8.push f k g⟩), W9_setBearing h9.1 i0 i1 (fun n => absurd c n) (fun _ n => absurd d n) (fun _ _ s f e k => ⟨fun _ => rfl, e, h9.ch f k⟩)⟩
    · exact ⟨2, _, a, one_eq 0, W8_setBearing h8.1 i0 i1 (fun n => absurd c n) (fun _ _ => ⟨by omega, mI_2, h8⟩) (fun _ q => absurd q d), W9_setBearing h9.1 i0 i1 (fun n => absurd c n) (fun _ _ s f e => ⟨fun z => absurd z (by omega), e, h9.q f⟩) (fun _ q => absurd q d)⟩
  · exact ⟨1, _, a, one_eq 0, W8_setBearing h8.1 i0 i1 (fun _ => ⟨by omega, mI_1, h8⟩) (fun q => absurd q c) (fun q => absurd q c), W9_setBearing h9.1 i0 i1 (fun _ s f e => ⟨fun z => absurd z (by omega), e, h9.q f⟩) (fun q => absurd q c) (fun q => absurd q c)⟩
theorem S_addLoad {a : Ab} {st8 st9 : St} {a0 a1 : Int} (h8 : SC st8 a) (h9 : SM st9 a) (i0 : inI a0) (i1 : inI a1) : ∃ c P a', one P ∧ f8_addLoad (O8 c P a') (X8 mI c a') st8 a0 a1 ∧ f9_addLoad (O9 c P a') st9 a0 a1 := by
  have b4 := h8.va.1.1.2.2.2.1
  by_cases c : 0 ≤ a1 ∧ a1 ≤ a.1.1 0
  · by_cases d : 1 ≤ a0 ∧ a0 ≤ 999
    · by_cases e8 : a.1.1 4 = 8
      · exact ⟨0, _, a, one_eq (-13), W8_addLoad h8.1 i0 i1 (fun n => absurd c n) (fun _ n => absurd d n) (fun _ _ _ => ⟨rfl, rfl, h8⟩) (fun _ _ q => absurd e8 (by omega)), W9_addLoad h9.1 i0 i1 (fun n => absurd c n) (fun _ n => absurd d n) (fun _ _ _ s f e => ⟨fun _ => rfl, e, h9.q f⟩) (fun _ _ q => absurd e8 (by omega))⟩
      · have g : HM (addA a.1.1 19 4 a0 a1) := ⟨HG_ag h8.pg.1.1 (addA_ne (by omega)) (addA_ne (by omega)) (fun k k0 k1 => addA_ne (by have := h8.va.2.1; have := h8.va.c.2.2.2.1; omega)), by rw [addA_ne (by omega)]; exact h8.pg.1.2⟩
        exact ⟨0, _, chA a (addA a.1.1 19 4 a0 a1), one_eq (a.1.1 4), W8_addLoad h8.1 i0 i1 (fun n => absurd c n) (fun _ n => absurd d n) (fun _ _ q => absurd q e8) (fun _ _ _ s f k => ⟨rfl, rfl, h8.push f k g⟩), W9_addLoad h9.1 i0 i1 (fun n => absurd c n) (fun _ n => absurd d n) (fun _ _ q => absurd q e8) (fun _ _ _ s f e k => ⟨fun _ => rfl, e, h9.ch f k⟩)⟩
    · exact ⟨2, _, a, one_eq 0, W8_addLoad h8.1 i0 i1 (fun n => absurd c n) (fun _ _ => ⟨by omega, mI_2, h8⟩) (fun _ q => absurd q d) (fun _ q => absurd q d), W9_addLoad h9.1 i0 i1 (fun n => absurd c n) (fun _ _ s f e => ⟨fun z => absurd z (by omega), e, h9.q f⟩) (fun _ q => absurd q d) (fun _ q => absurd q d)⟩
  · exact ⟨1, _, a, one_eq 0, W8_addLoad h8.1 i0 i1 (fun _ => ⟨by omega, mI_1, h8⟩) (fun q => absurd q c) (fun q => absurd q c) (fun q => absurd q c), W9_addLoad h9.1 i0 i1 (fun _ s f e => ⟨fun z => absurd z (by omega), e, h9.q f⟩) (fun q => absurd q c) (fun q => absurd q c) (fun q => absurd q c)⟩
theorem S_dropLoad {a : Ab} {st8 st9 : St} {a0 : Int} (h8 : SC st8 a) (h9 : SM st9 a) (i0 : inI a0) : ∃ c P a', one P ∧ f8_dropLoad (O8 c P a') (X8 mO c a') st8 a0 ∧ f9_dropLoad (O9 c P a') st9 a0 := by
  by_cases c : 0 ≤ a0 ∧ a0 < a.1.1 4
  · have g : HM (dropA a.1.1 19 4 a0) := ⟨HG_ag h8.pg.1.1 (dropA_ne (by omega)) (dropA_ne (by omega)) (fun k k0 k1 => dropA_ne (by have := h8.va.2.1; have := h8.va.c.2.2.2.1; omega)), by rw [dropA_ne (by omega)]; exact h8.pg.1.2⟩
    exact ⟨0, _, chA a (dropA a.1.1 19 4 a0), one_eq (a.1.1 (19 + 2 * a0)), W8_dropLoad h8.1 i0 (fun n => absurd c n) (fun _ s f k => ⟨rfl, rfl, h8.push f k g⟩), W9_dropLoad h9.1 i0 (fun n => absurd c n) (fun _ s f e k => ⟨fun _ => rfl, e, h9.ch f k⟩)⟩
  · exact ⟨1, _, a, one_eq 0, W8_dropLoad h8.1 i0 (fun _ => ⟨by omega, mO_1, h8⟩) (fun q => absurd q c), W9_dropLoad h9.1 i0 (fun _ s f e => ⟨fun z => absurd z (by omega), e, h9.q f⟩) (fun q => absurd q c)⟩
theorem S_dropAxle {a : Ab} {st8 st9 : St} {a0 : Int} (h8 : SC st8 a) (h9 : SM st9 a) (i0 : inI a0) : ∃ c P a', one P ∧ f8_dropAxle (O8 c P a') (X8 mO c a') st8 a0 ∧ f9_dropAxle (O9 c P a') st9 a0 := by
  by_cases c : 0 ≤ a0 ∧ a0 < a.1.1 5
  · have g : HM (dropA a.1.1 35 5 a0) := ⟨HG_ag h8.pg.1.1 (dropA_ne (by omega)) (dropA_ne (by omega)) (fun k k0 k1 => dropA_ne (by have := h8.va.2.1; have := h8.va.c.2.2.2.1; omega)), by rw [dropA_ne (by omega)]; exact h8.pg.1.2⟩
    exact ⟨0, _, chA a (dropA a.1.1 35 5 a0), one_eq (a.1.1 (35 + 2 * a0)), W8_dropAxle h8.1 i0 (fun n => absurd c n) (fun _ s f k => ⟨rfl, rfl, h8.push f k g⟩), W9_dropAxle h9.1 i0 (fun n => absurd c n) (fun _ s f e k => ⟨fun _ => rfl, e, h9.ch f k⟩)⟩
  · exact ⟨1, _, a, one_eq 0, W8_dropAxle h8.1 i0 (fun _ => ⟨by omega, mO_1, h8⟩) (fun q => absurd q c), W9_dropAxle h9.1 i0 (fun _ s f e => ⟨fun z => absurd z (by omega), e, h9.q f⟩) (fun q => absurd q c)⟩
theorem S_tryHinge {a : Ab} {st8 st9 : St} {a0 a1 : Int} (h8 : SC st8 a) (h9 : SM st9 a) (i0 : inI a0) (i1 : inI a1) : ∃ c P a', one P ∧ f8_tryHinge (O8 c P a') (X8 mI c a') st8 a0 a1 ∧ f9_tryHinge (O9 c P a') st9 a0 a1 := by
  have g := h8.pg.1.1
  by_cases c : 0 ≤ a0 ∧ a0 < a.1.1 3
  · by_cases d : 1 ≤ a1 ∧ a1 ≤ a.1.1 0 - 1
    · by_cases t : tkA a.1.1 a0 a1
      · exact ⟨0, _, a, one_eq (-11), W8_tryHinge h8.1 g i0 i1 (fun n => absurd c n) (fun _ n => absurd d n) (fun _ _ _ s f k => ⟨rfl, rfl, h8.q f k⟩) (fun _ _ n => absurd t n) (fun _ _ n => absurd t n), W9_tryHinge h9.1 g i0 i1 (fun n => absurd c n) (fun _ n => absurd d n) (fun _ _ _ s f e => ⟨fun _ => rfl, e, h9.t f⟩) (fun _ _ n => absurd t n) (fun _ _ n => absurd t n)⟩
      · by_cases z : DA (hjA a.1.1 a0 a1) (-1) 0 = 0
        · exact ⟨0, _, a, one_eq (-12), W8_tryHinge h8.1 g i0 i1 (fun n => absurd c n) (fun _ n => absurd d n) (fun _ _ q => absurd q t) (fun _ _ _ _ s f k => ⟨rfl, rfl, h8.q f k⟩) (fun _ _ _ n => absurd z n), W9_tryHinge h9.1 g i0 i1 (fun n => absurd c n) (fun _ n => absurd d n) (fun _ _ q => absurd q t) (fun _ _ _ _ s f e => ⟨fun _ => rfl, e, h9.t f⟩) (fun _ _ _ n => absurd z n)⟩
        · exact ⟨0, _, a, one_eq 0, W8_tryHinge h8.1 g i0 i1 (fun n => absurd c n) (fun _ n => absurd d n) (fun _ _ q => absurd q t) (fun _ _ _ q => absurd q z) (fun _ _ _ _ s f k => ⟨rfl, rfl, h8.q f k⟩), W9_tryHinge h9.1 g i0 i1 (fun n => absurd c n) (fun _ n => absurd d n) (fun _ _ q => absurd q t) (fun _ _ _ q => absurd q z) (fun _ _ _ _ s f e => ⟨fun _ => rfl, e, h9.t f⟩)⟩
    · exact ⟨2, _, a, one_eq 0, W8_tryHinge h8.1 g i0 i1 (fun n => absurd c n) (fun _ _ => ⟨by omega, mI_2, h8⟩) (fun _ q => absurd q d) (fun _ q => absurd q d) (fun _ q => absurd q d), W9_tryHinge h9.1 g i0 i1 (fun n => absurd c n) (fun _ _ s f e => ⟨fun z => absurd z (by omega), e, h9.q f⟩) (fun _ q => absurd q d) (fun _ q => absurd q d) (fun _ q => absurd q d)⟩
  · exact ⟨1, _, a, one_eq 0, W8_tryHinge h8.1 g i0 i1 (fun _ => ⟨by omega, mI_1, h8⟩) (fun q => absurd q c) (fun q => absurd q c) (fun q => absurd q c) (fun q => absurd q c), W9_tryHinge h9.1 g i0 i1 (fun _ s f e => ⟨fun z => absurd z (by omega), e, h9.q f⟩) (fun q => absurd q c) (fun q => absurd q c) (fun q => absurd q c) (fun q => absurd q c)⟩
theorem S_moveHinge {a : Ab} {st8 st9 : St} {a0 a1 : Int} (h8 : SC st8 a) (h9 : SM st9 a) (i0 : inI a0) (i1 : inI a1) : ∃ c P a', one P ∧ f8_moveHinge (O8 c P a') (X8 mI c a') st8 a0 a1 ∧ f9_moveHinge (O9 c P a') st9 a0 a1 := by
  have g := h8.pg.1.1
  by_cases c : 0 ≤ a0 ∧ a0 < a.1.1 3
  · by_cases d : 1 ≤ a1 ∧ a1 ≤ a.1.1 0 - 1
    · by_cases t : tkA a.1.1 a0 a1
      · exact ⟨0, _, a, one_eq (-11), W8_moveHinge h8.1 g i0 i1 (fun n => absurd c n) (fun _ n => absurd d n) (fun _ _ _ s f k => ⟨rfl, rfl, h8.q f k⟩) (fun _ _ n => absurd t n) (fun _ _ n => absurd t n), W9_moveHinge h9.1 g i0 i1 (fun n => absurd c n) (fun _ n => absurd d n) (fun _ _ _ s f e => ⟨fun _ => rfl, e, h9.t f⟩) (fun _ _ n => absurd t n) (fun _ _ n => absurd t n)⟩
      · by_cases z : DA (hjA a.1.1 a0 a1) (-1) 0 = 0
        · exact ⟨0, _, a, one_eq (-12), W8_moveHinge h8.1 g i0 i1 (fun n => absurd c n) (fun _ n => absurd d n) (fun _ _ q => absurd q t) (fun _ _ _ _ s f k => ⟨rfl, rfl, h8.q f k⟩) (fun _ _ _ n => absurd z n), W9_moveHinge h9.1 g i0 i1 (fun n => absurd c n) (fun _ n => absurd d n) (fun _ _ q => absurd q t) (fun _ _ _ _ s f e => ⟨fun _ => rfl, e, h9.t f⟩) (fun _ _ _ n => absurd z n)⟩
        · exact ⟨0, _, chA a (hjA a.1.1 a0 a1), one_eq (hpA a.1.1 a0 a1), W8_moveHinge h8.1 g i0 i1 (fun n => absurd c n) (fun _ n => absurd d n) (fun _ _ q => absurd q t) (fun _ _ _ q => absurd q z) (fun _ _ _ _ s f k => ⟨rfl, rfl, h8.push f k ⟨hjA_HG g c.1 c.2 d.1 d.2 t, by rw [hjA_ne (by omega) c.1 (by omega)]; exact h8.pg.1.2⟩⟩), W9_moveHinge h9.1 g i0 i1 (fun n => absurd c n) (fun _ n => absurd d n) (fun _ _ q => absurd q t) (fun _ _ _ q => absurd q z) (fun _ _ _ _ s f e k => ⟨fun _ => rfl, e, h9.ch f k⟩)⟩
    · exact ⟨2, _, a, one_eq 0, W8_moveHinge h8.1 g i0 i1 (fun n => absurd c n) (fun _ _ => ⟨by omega, mI_2, h8⟩) (fun _ q => absurd q d) (fun _ q => absurd q d) (fun _ q => absurd q d), W9_moveHinge h9.1 g i0 i1 (fun n => absurd c n) (fun _ _ s f e => ⟨fun z => absurd z (by omega), e, h9.q f⟩) (fun _ q => absurd q d) (fun _ q => absurd q d) (fun _ q => absurd q d)⟩
  · exact ⟨1, _, a, one_eq 0, W8_moveHinge h8.1 g i0 i1 (fun _ => ⟨by omega, mI_1, h8⟩) (fun q => absurd q c) (fun q => absurd q c) (fun q => absurd q c) (fun q => absurd q c), W9_moveHinge h9.1 g i0 i1 (fun _ s f e => ⟨fun z => absurd z (by omega), e, h9.q f⟩) (fun q => absurd q c) (fun q => absurd q c) (fun q => absurd q c) (fun q => absurd q c)⟩
theorem S_moveSupport {a : Ab} {st8 st9 : St} {a0 a1 : Int} (h8 : SC st8 a) (h9 : SM st9 a) (i0 : inI a0) (i1 : inI a1) : ∃ c P a', one P ∧ f8_moveSupport (O8 c P a') (X8 mO c a') st8 a0 a1 ∧ f9_moveSupport (O9 c P a') st9 a0 a1 := by
  have g := h8.pg.1.1
  by_cases cd : (0 ≤ a0 ∧ a0 < a.1.1 2) ∧ 0 ≤ a1 ∧ a1 ≤ a.1.1 0
  · by_cases t : skA a.1.1 a0 a1
    · exact ⟨0, _, a, one_eq (-11), W8_moveSupport h8.1 i0 i1 (fun n => absurd cd n) (fun _ _ _ s f k => ⟨rfl, rfl, h8.q f k⟩) (fun _ _ n => absurd t n) (fun _ _ n => absurd t n), W9_moveSupport h9.1 i0 i1 (fun n => absurd cd n) (fun _ _ _ s f e => ⟨fun _ => rfl, e, h9.t f⟩) (fun _ _ n => absurd t n) (fun _ _ n => absurd t n)⟩
    · by_cases z : DA (sjA a.1.1 a0 a1) (-1) 0 = 0
      · exact ⟨0, _, a, one_eq (-12), W8_moveSupport h8.1 i0 i1 (fun n => absurd cd n) (fun _ _ q => absurd q t) (fun _ _ _ _ s f k => ⟨rfl, rfl, h8.q f k⟩) (fun _ _ _ n => absurd z n), W9_moveSupport h9.1 i0 i1 (fun n => absurd cd n) (fun _ _ q => absurd q t) (fun _ _ _ _ s f e => ⟨fun _ => rfl, e, h9.t f⟩) (fun _ _ _ n => absurd z n)⟩
      · exact ⟨0, _, chA a (sjA a.1.1 a0 a1), one_eq (spA a.1.1 a0 a1), W8_moveSupport h8.1 i0 i1 (fun n => absurd cd n) (fun _ _ q => absurd q t) (fun _ _ _ q => absurd q z) (fun _ _ _ _ s f k => ⟨rfl, rfl, h8.push f k ⟨sjA_HG g h8.va cd.1.1 cd.1.2, by rw [sjA_ne (by omega) cd.1.1 (by omega)]; exact h8.pg.1.2⟩⟩), W9_moveSupport h9.1 i0 i1 (fun n => absurd cd n) (fun _ _ q => absurd q t) (fun _ _ _ q => absurd q z) (fun _ _ _ _ s f e k => ⟨fun _ => rfl, e, h9.ch f k⟩)⟩
  · exact ⟨1, _, a, one_eq 0, W8_moveSupport h8.1 i0 i1 (fun _ => ⟨by omega, mO_1, h8⟩) (fun p q => absurd ⟨p, q⟩ cd) (fun p q => absurd ⟨p, q⟩ cd) (fun p q => absurd ⟨p, q⟩ cd), W9_moveSupport h9.1 i0 i1 (fun _ s f e => ⟨fun z => absurd z (by omega), e, h9.q f⟩) (fun p q => absurd ⟨p, q⟩ cd) (fun p q => absurd ⟨p, q⟩ cd) (fun p q => absurd ⟨p, q⟩ cd)⟩
theorem S_bestHinge {a : Ab} {st8 st9 : St} {a0 : Int} (h8 : SC st8 a) (h9 : SM st9 a) (i0 : inI a0) : ∃ c P a', one P ∧ f8_bestHinge (O8 c P a') (X8 mO c a') st8 a0 ∧ f9_bestHinge (O9 c P a') st9 a0 := by
  have g := h8.pg.1.1
  by_cases c : 0 ≤ a0 ∧ a0 < a.1.1 3
  · exact ⟨0, fun r => bhR a.1.1 a0 r 100 1 (-1) 0 1, a, fun _ _ u v => bhR_1 _ _ _ _ _ u v, W8_bestHinge h8.1 g i0 (fun n => absurd c n) (fun _ r k s f q => ⟨rfl, k, h8.q f q⟩), W9_bestHinge h9.1 g i0 (fun n => absurd c n) (fun _ r k s f e => ⟨fun _ => k, e, h9.t f⟩)⟩
  · exact ⟨1, _, a, one_eq 0, W8_bestHinge h8.1 g i0 (fun _ => ⟨by omega, mO_1, h8⟩) (fun q => absurd q c), W9_bestHinge h9.1 g i0 (fun _ s f e => ⟨fun z => absurd z (by omega), e, h9.q f⟩) (fun q => absurd q c)⟩
theorem S_strongest {a : Ab} {st8 st9 : St} (h8 : SC st8 a) (h9 : SM st9 a) : ∃ c P a', one P ∧ f8_strongest (O8 c P a') st8 ∧ f9_strongest (O9 c P a') st9 := by
  have c := h8.1.cr
  exact ⟨0, strP a.1.1, a, fun _ _ => strP_1, W8_strongest c.1 c.2.1 c.2.2 (fun v k s f => ⟨rfl, k, h8.q f.fc (h8.1.fp f)⟩), W9_strongest h9.1 (fun v k s f e => ⟨fun _ => k, e, h9.t f⟩)⟩
theorem S_undo {a : Ab} {st8 st9 : St} (h8 : SC st8 a) (h9 : SM st9 a) : ∃ c P a', one P ∧ f8_undo (O8 c P a') (X8 mS c a') st8 ∧ f9_undo (O9 c P a') st9 := by
  have hn := h8.n8
  by_cases c : a.1.2.1 = 0
  · exact ⟨1, _, a, one_eq 0, W8_undo h8.1 (fun _ => ⟨by omega, mS_1, h8⟩) (fun q => absurd c (by omega)), W9_undo h9.1 h8.hB (fun _ s f e => ⟨fun z => absurd z (by omega), e, h9.q f⟩) (fun q => absurd c (by omega))⟩
  · exact ⟨0, _, ((a.1.2.2.1 (a.1.2.1 - 1), a.1.2.1 - 1, a.1.2.2.1, a.1.2.2.2.1, a.1.2.2.2.2), a.2), one_eq (a.1.2.1 - 1), W8_undo h8.1 (fun q => absurd q c) (fun q s f k => ⟨rfl, rfl, h8.ch f k (h8.pg.2.1 _ (by omega) (by omega)) (fun k k0 k1 => h8.pg.2.1 k k0 (by omega)) h8.pg.2.2.1⟩), W9_undo h9.1 h8.hB (fun q => absurd q c) (fun q s f e k => ⟨fun _ => rfl, e, h9.ch f k⟩)⟩
theorem S_restore {a : Ab} {st8 st9 : St} {a0 : Int} (h8 : SC st8 a) (h9 : SM st9 a) (i0 : inI a0) : ∃ c P a', one P ∧ f8_restore (O8 c P a') (X8 mR c a') st8 a0 ∧ f9_restore (O9 c P a') st9 a0 := by
  by_cases c : 0 ≤ a0 ∧ a0 < 2
  · by_cases d : a.1.2.2.2.1 a0 = 0
    · exact ⟨2, _, a, one_eq 0, W8_restore h8.1 i0 (fun n => absurd c n) (fun _ _ _ => ⟨by omega, mR_2, h8⟩) (fun _ _ n => absurd d n), W9_restore h9.1 h8.hS i0 (fun n => absurd c n) (fun _ _ _ s f e => ⟨fun z => absurd z (by omega), e, h9.q f⟩) (fun _ _ n => absurd d n)⟩
    · exact ⟨0, _, chA a (a.1.2.2.2.2 a0), one_eq (a.1.2.2.2.2 a0 2), W8_restore h8.1 i0 (fun n => absurd c n) (fun _ _ q => absurd q d) (fun _ _ _ s f k => ⟨rfl, rfl, h8.push f k (h8.pg.2.2.1 a0 c.1 c.2 d)⟩), W9_restore h9.1 h8.hS i0 (fun n => absurd c n) (fun _ _ q => absurd q d) (fun _ _ _ s f e k => ⟨fun _ => rfl, e, h9.ch f k⟩)⟩
  · exact ⟨1, _, a, one_eq 0, W8_restore h8.1 i0 (fun _ => ⟨by omega, mR_1, h8⟩) (fun q1 q2 => absurd ⟨q1, q2⟩ c) (fun q1 q2 => absurd ⟨q1, q2⟩ c), W9_restore h9.1 h8.hS i0 (fun _ s f e => ⟨fun z => absurd z (by omega), e, h9.q f⟩) (fun q1 q2 => absurd ⟨q1, q2⟩ c) (fun q1 q2 => absurd ⟨q1, q2⟩ c)⟩
theorem S_save {a : Ab} {st8 st9 : St} {a0 : Int} (h8 : SC st8 a) (h9 : SM st9 a) (i0 : inI a0) : ∃ (c : Int) (a' : Ab), f8_save (fun u => c = 0 ∧ SC u a') (X8 mO c a') st8 a0 ∧ f9_save (fun u => u 9 6 0 0 = c ∧ SM u a') st9 a0 := by
  by_cases c : 0 ≤ a0 ∧ a0 < 2
  · refine ⟨0, ((a.1.1, a.1.2.1, a.1.2.2.1, svF a.1.2.2.2.1 a0, svS a.1.2.2.2.2 a0 a.1.1), a.2), W8_save h8.1 i0 (fun n => absurd c n) (fun _ _ s f k => ⟨rfl, h8.ch f k h8.pg.1 h8.pg.2.1 (fun i j0 j1 q => ?_)⟩), W9_save h9.1 i0 (fun n => absurd c n) (fun _ _ s f e k => ⟨e, h9.ch f k⟩)⟩
    unfold svF at q
    unfold svS
    by_cases e : i = a0
    · rw [if_pos e]; exact h8.pg.1
    · rw [if_neg e] at q ⊢
      exact h8.pg.2.2.1 i j0 j1 q
  · exact ⟨1, a, W8_save h8.1 i0 (fun _ => ⟨by omega, mO_1, h8⟩) (fun q1 q2 => absurd ⟨q1, q2⟩ c), W9_save h9.1 i0 (fun _ s f e => ⟨e, h9.q f⟩) (fun q1 q2 => absurd ⟨q1, q2⟩ c)⟩
