/-! a hinge tried and moved, the reference's side -/
def FN (st st' : St) : Prop := ∀ K s i j, ¬ (K = 36 ∨ (K = 30 ∧ i = 1)) → st' K s i j = st K s i j
def FT (st st' : St) : Prop := (∀ K s i j, ¬ (K = 36 ∨ K = 37 ∨ (K = 30 ∧ (i = 1 ∨ i = 5)) ∨ (K = 9 ∧ (s = 18 ∨ s = 6))) → st' K s i j = st K s i j) ∧ ∀ j, bL (st' 37 0 0 j)
theorem FT.aM {a b : St} (h : FT a b) : aM b = aM a := by funext j; exact h.1 30 0 0 j (by omega)
theorem FQ.ft {a b : St} (h : FQ a b) : FT a b := ⟨fun K s i j hK => h.1 K s i j (by omega), h.2⟩
theorem FT.trans {a b c : St} (h : FT a b) (g : FT b c) : FT a c := ⟨fun K s i j hK => (g.1 K s i j hK).trans (h.1 K s i j hK), g.2⟩
theorem FN.ft {a b : St} (h : FN a b) (hl : ∀ j, bL (a 37 0 0 j)) : FT a b := ⟨fun K s i j hK => h K s i j (by omega), fun j => by rw [h 37 0 0 j (by omega)]; exact hl j⟩
theorem FT.fd {a b : St} (h : FT a b) : FD a b := fun K s i j hK => h.1 K s i j (by omega)
theorem FQ.fd {a b : St} (h : FQ a b) : FD a b := fun K s i j hK => h.1 K s i j (by omega)
theorem MS.ft {st st' : St} {A : Int → Int} {n : Int} {B : Int → Int → Int} {F : Int → Int} {S : Int → Int → Int} (h : MS st A n B F S) (hf : FT st st') : MS st' A n B F S := by
  obtain ⟨h1, h2, h3, h4, h5, h6, h7, h8⟩ := h
  refine ⟨hf.aM.trans h1, h2, hf.2, fun j hj => (hf.1 30 0 0 j (by omega)).trans (h4 j hj), (hf.1 9 5 0 0 (by omega)).trans h5, h6, fun k a b => ?_, fun i a b => ⟨(hf.1 34 0 0 i (by omega)).trans (h8 i a b).1, (h8 i a b).2.1, fun q => ?_⟩⟩
  · rw [← h7 k a b]
    exact nA_ext (fun j _ _ => hf.1 30 0 2 _ (by omega))
  · rw [← (h8 i a b).2.2 q]
    exact nA_ext (fun j _ _ => hf.1 30 0 3 _ (by omega))
theorem FA.fd {a b : St} (h : FA a b) : FD a b := fun K s i j hK => h K s i j (by omega)
/-- the hinge a0 taken out and put in at a1, in the reference's array -/
theorem W9_hingeMoves {A : Int → Int} {Q : St → Prop} {st : St} {a0 a1 : Int} (eA : aM st = A) (hV : VA A) (hG : HG A) (c0 : 0 ≤ a0) (c1 : a0 < A 3) (v0 : 1 ≤ a1) (v1 : a1 ≤ A 0 - 1)
    (hq : ∀ s, FA st s → aM s = hjA A a0 a1 → Q s) : f9_dropsHinge (fun s => f9_addsHinge Q s a1) st a0 := by
  have h3 := hV.2.1
  have n5 := hV.c.2.2.2.1
  have l3 := hV.c.2.1
  have d3 := dropH_3 A a0
  refine W9_dropsHinge eA c0 c1 (by omega) (fun s2 f2 e2 => ?_)
  refine W9_addsHinge e2 (by omega) (by omega) (fun k k0 k1 => ?_) (inI_s (by omega) (by omega)) (fun k k0 k1 => ?_) (fun s3 f3 e3 => hq s3 (f2.trans f3) e3)
  · obtain ⟨i, i0, i1, _, e⟩ := dropH_cell c0 c1 k0 (by omega)
    have := hng_b hV i0 i1
    rw [e]
    exact inI_s (by omega) (by omega)
  · have := dropH_lt hG c0 c1 k k0 (by omega)
    omega
theorem W9_aside {A : Int → Int} {st : St} (eA : aM st = A) {s s4 : St} (es : s = cpyN st 1 0 0 0 47) (f4 : ∀ K s' i j, ¬ (K = 36 ∨ (K = 30 ∧ s' = 0 ∧ i = 0 ∧ 0 ≤ j ∧ j < 47)) → s4 K s' i j = s K s' i j) : FN st (cpyN s4 0 0 1 0 47) := by
  intro K s' i j hK
  by_cases c : K = 30 ∧ s' = 0 ∧ i = 0 ∧ 0 ≤ j ∧ j < 47
  · obtain ⟨rfl, rfl, rfl, j0, j1⟩ := c
    have t := cpyN_in (st := s4) (d := 0) (a := 0) (s := 1) (b := 0) (m := 47) j0 j1
    have t2 := cpyN_in (st := st) (d := 1) (a := 0) (s := 0) (b := 0) (m := 47) j0 j1
    rw [Int.zero_add] at t t2
    rw [t, f4 30 0 1 j (by omega), es, t2]
  · rw [cpyN_out (by omega), f4 K s' i j (by omega), es, cpyN_out (by omega)]
theorem W9_noHinge_j27 {A : Int → Int} {Q : Int → St → Prop} {st : St} {a0 a1 : Int} (eA : aM st = A) (hV : VA A) (hG : HG A) (c0 : 0 ≤ a0) (c1 : a0 < A 3) (v0 : 1 ≤ a1) (v1 : a1 ≤ A 0 - 1)
    (hz : DA (hjA A a0 a1) (-1) 0 = 0 → ∀ s, FN st s → Q 2 s) (hq : ¬ DA (hjA A a0 a1) (-1) 0 = 0 → ∀ s, FN st s → Q 0 s) : f9_noHinge_j27 Q a0 a1 st := by
  have m0 := mlen0
  have m1 := mlen1
  unfold f9_noHinge_j27
  refine W9_copies (by omega) (by omega) (by omega) (by omega) (by omega) ?_
  have eA1 : aM (cpyN st 1 0 0 0 47) = A := by
    rw [← eA]
    funext j
    exact cpyN_out (by omega)
  refine W9_hingeMoves eA1 hV hG c0 c1 v0 v1 (fun s3 f3 e3 => ?_)
  refine W9_isStanding (by rw [e3]; exact hjA_C hV.c hV.2.1 c0 c1 v0 v1) (fun s4 f4 => ?_)
  rw [e3]
  refine W9_copies (by omega) (by omega) (by omega) (by omega) (by omega) ?_
  have fin : FN st (cpyN s4 0 0 1 0 47) := W9_aside eA rfl (fun K s i j hK => (f4 K s i j (by omega)).trans (f3 K s i j (by omega)))
  by_cases D : DA (hjA A a0 a1) (-1) 0 = 0
  · rw [if_pos D]
    exact ⟨inI_0', fun _ => hz D _ fin, fun q => absurd rfl q⟩
  · rw [if_neg D]
    exact ⟨inI_1, fun q => absurd q (by omega), fun _ => hq D _ fin⟩
theorem W9_noHinge {A : Int → Int} {Q : Int → St → Prop} {st : St} {a0 a1 : Int} (eA : aM st = A) (hV : VA A) (hG : HG A) (c0 : 0 ≤ a0) (c1 : a0 < A 3) (v0 : 1 ≤ a1) (v1 : a1 ≤ A 0 - 1)
    (ht : tkA A a0 a1 → Q 1 st) (hz : ¬ tkA A a0 a1 → DA (hjA A a0 a1) (-1) 0 = 0 → ∀ s, FN st s → Q 2 s) (hq : ¬ tkA A a0 a1 → ¬ DA (hjA A a0 a1) (-1) 0 = 0 → ∀ s, FN st s → Q 0 s) : f9_noHinge Q st a0 a1 := by
  have h3 := hV.2.1
  have n2 := hV.c.2.2.1
  have n5 := hV.c.2.2.2.1
  have l3 := hV.c.2.1
  have ia : inI a1 := inI_s (by omega) (by omega)
  have J : ¬ tkA A a0 a1 → f9_noHinge_j27 Q a0 a1 st := fun t => W9_noHinge_j27 eA hV hG c0 c1 v0 v1 (hz t) (hq t)
  have iH : ∀ k, 0 ≤ k → k < A 3 → inI (A (16 + k)) := fun k k0 k1 => by
    have := hng_b hV k0 k1
    exact inI_s (by omega) (by omega)
  have iS : ∀ k, 0 ≤ k → k < A 2 → inI (A (6 + 2 * k)) := fun k k0 k1 => by
    have := hV.pl k0 k1
    exact inI_s (by omega) (by omega)
  unfold f9_noHinge
  refine W9_hingeAt eA (by omega) iH ia (fun k k0 k1 ek _ => ?_) (fun eh => ?_)
  · refine W9_supportAt eA (by omega) iS ia (fun i i0 i1 ei _ => ?_) (fun es => ?_)
    · exact ⟨inI_s (by omega) (by omega), fun z => absurd z (by omega), fun _ => ht (Or.inl ⟨i, i0, i1, ei⟩)⟩
    · refine ⟨inI_s (by omega) (by omega), fun _ => ⟨inI_s (by omega) (by omega), fun z => absurd z (by omega), fun _ => ⟨inI_s (by omega) (by omega), inI_s (by omega) (by omega), fun z => J (fun q => ?_), fun z => ht (Or.inr ⟨k, k0, k1, z, ek⟩)⟩⟩, fun z => absurd rfl z⟩
      rcases q with ⟨i, i0, i1, ei⟩ | ⟨i, i0, i1, ne, ei⟩
      · exact es i i0 i1 ei
      · exact ne (by rw [hG.inj i0 i1 k0 k1 (ei.trans ek.symm)]; exact z)
  · refine W9_supportAt eA (by omega) iS ia (fun i i0 i1 ei _ => ?_) (fun es => ?_)
    · exact ⟨inI_s (by omega) (by omega), fun z => absurd z (by omega), fun _ => ht (Or.inl ⟨i, i0, i1, ei⟩)⟩
    · refine ⟨inI_s (by omega) (by omega), fun _ => ⟨inI_s (by omega) (by omega), fun _ => J (fun q => ?_), fun z => absurd rfl z⟩, fun z => absurd rfl z⟩
      rcases q with ⟨i, i0, i1, ei⟩ | ⟨i, i0, i1, ne, ei⟩
      · exact es i i0 i1 ei
      · exact eh i i0 i1 ei
theorem W9_noPlace {A : Int → Int} {Q : Int → St → Prop} {st : St} {a0 a1 : Int} (eA : aM st = A) (hV : VA A) (h0 : inI a0) (h1 : inI a1) (q1 : ¬ (0 ≤ a0 ∧ a0 < A 3) → Q 1 st) (q2 : 0 ≤ a0 ∧ a0 < A 3 → ¬ (1 ≤ a1 ∧ a1 ≤ A 0 - 1) → Q 2 st) (q0 : 0 ≤ a0 ∧ a0 < A 3 → 1 ≤ a1 ∧ a1 ≤ A 0 - 1 → Q 0 st) : f9_noPlace Q st a0 a1 := by
  have h3 := hV.2.1
  have n2 := hV.c.2.2.1
  have n5 := hV.c.2.2.2.1
  have l2 := hV.c.1
  have l3 := hV.c.2.1
  have e0 : st 30 0 0 0 = A 0 := congrFun eA 0
  have ec : st 30 0 0 3 = A 3 := congrFun eA 3
  unfold f9_noPlace f9_isHinge
  rw [ec]
  refine W9_isIn h0 inI_0 (inI_s (by omega) (by omega)) ?_
  by_cases c : 0 ≤ a0 ∧ a0 ≤ A 3 - 1
  · rw [if_pos c]
    refine ⟨Or.inr rfl, inI_1, fun e => absurd e (by omega), fun _ => ?_⟩
    rw [e0]
    refine W9_isIn h1 inI_1 (inI_s (by omega) (by omega)) ?_
    by_cases d : 1 ≤ a1 ∧ a1 ≤ A 0 - 1
    · rw [if_pos d]
      exact ⟨inI_1, fun e => absurd e (by omega), fun _ => q0 (by omega) d⟩
    · rw [if_neg d]
      exact ⟨inI_0, fun _ => q2 (by omega) d, fun e => absurd rfl e⟩
  · rw [if_neg c]
    exact ⟨Or.inl rfl, inI_0, fun _ => q1 (by omega), fun e => absurd rfl e⟩
theorem W9_tryHinge {A : Int → Int} {n : Int} {B : Int → Int → Int} {F : Int → Int} {S : Int → Int → Int} {Q : Int → St → Prop} {st : St} {a0 a1 : Int} (h : MS st A n B F S) (hG : HG A) (h0 : inI a0) (h1 : inI a1) (hx : ¬ (0 ≤ a0 ∧ a0 < A 3) → ∀ s, FQ st s → s 9 6 0 0 = 1 → Q 0 s) (hy : 0 ≤ a0 ∧ a0 < A 3 → ¬ (1 ≤ a1 ∧ a1 ≤ A 0 - 1) → ∀ s, FQ st s → s 9 6 0 0 = 2 → Q 0 s)
    (ht : 0 ≤ a0 ∧ a0 < A 3 → 1 ≤ a1 ∧ a1 ≤ A 0 - 1 → tkA A a0 a1 → ∀ s, FT st s → s 9 6 0 0 = 0 → Q (-11) s) (hz : 0 ≤ a0 ∧ a0 < A 3 → 1 ≤ a1 ∧ a1 ≤ A 0 - 1 → ¬ tkA A a0 a1 → DA (hjA A a0 a1) (-1) 0 = 0 → ∀ s, FT st s → s 9 6 0 0 = 0 → Q (-12) s)
    (hq : 0 ≤ a0 ∧ a0 < A 3 → 1 ≤ a1 ∧ a1 ≤ A 0 - 1 → ¬ tkA A a0 a1 → ¬ DA (hjA A a0 a1) (-1) 0 = 0 → ∀ s, FT st s → s 9 6 0 0 = 0 → Q 0 s) : f9_tryHinge Q st a0 a1 := by
  have h3 := h.2.2.1
  unfold f9_tryHinge
  refine W9_noPlace h.1 h.2.1 h0 h1 (fun c => ?_) (fun c d => ?_) (fun c d => ?_)
  · exact gate (by omega) (by omega) (fun e => absurd e (by omega)) (fun _ => hx c _ (FQ.up6 h3) (by rw [up_eq, if_pos ⟨rfl, rfl, rfl, rfl⟩]))
  · exact gate (by omega) (by omega) (fun e => absurd e (by omega)) (fun _ => hy c d _ (FQ.up6 h3) (by rw [up_eq, if_pos ⟨rfl, rfl, rfl, rfl⟩]))
  · refine gate (by omega) (by omega) (fun _ => ?_) (fun e => absurd e (by omega))
    have e6 : up st 9 6 0 0 0 9 6 0 0 = 0 := by rw [up_eq, if_pos ⟨rfl, rfl, rfl, rfl⟩]
    have f6 : FQ st (up st 9 6 0 0 0) := FQ.up6 h3
    generalize up st 9 6 0 0 0 = s at e6 f6
    refine W9_noHinge (f6.aM.trans h.1) h.2.1 hG c.1 c.2 d.1 d.2 (fun t => ?_) (fun t D s2 f2 => ?_) (fun t D s2 f2 => ?_)
    · exact ⟨inI_1, fun e => absurd e (by omega), fun _ => ht c d t s f6.ft e6⟩
    · exact ⟨inI_s (by omega) (by omega), fun e => absurd e (by omega), fun _ => hz c d t D s2 (f6.ft.trans (f2.ft f6.2)) ((f2 9 6 0 0 (by omega)).trans e6)⟩
    · exact ⟨inI_0', fun _ => hq c d t D s2 (f6.ft.trans (f2.ft f6.2)) ((f2 9 6 0 0 (by omega)).trans e6), fun e => absurd (by omega) e⟩
theorem W9_moveHinge {A : Int → Int} {n : Int} {B : Int → Int → Int} {F : Int → Int} {S : Int → Int → Int} {Q : Int → St → Prop} {st : St} {a0 a1 : Int} (h : MS st A n B F S) (hG : HG A) (h0 : inI a0) (h1 : inI a1) (hx : ¬ (0 ≤ a0 ∧ a0 < A 3) → ∀ s, FQ st s → s 9 6 0 0 = 1 → Q 0 s) (hy : 0 ≤ a0 ∧ a0 < A 3 → ¬ (1 ≤ a1 ∧ a1 ≤ A 0 - 1) → ∀ s, FQ st s → s 9 6 0 0 = 2 → Q 0 s)
    (ht : 0 ≤ a0 ∧ a0 < A 3 → 1 ≤ a1 ∧ a1 ≤ A 0 - 1 → tkA A a0 a1 → ∀ s, FT st s → s 9 6 0 0 = 0 → Q (-11) s) (hz : 0 ≤ a0 ∧ a0 < A 3 → 1 ≤ a1 ∧ a1 ≤ A 0 - 1 → ¬ tkA A a0 a1 → DA (hjA A a0 a1) (-1) 0 = 0 → ∀ s, FT st s → s 9 6 0 0 = 0 → Q (-12) s)
    (hq : 0 ≤ a0 ∧ a0 < A 3 → 1 ≤ a1 ∧ a1 ≤ A 0 - 1 → ¬ tkA A a0 a1 → ¬ DA (hjA A a0 a1) (-1) 0 = 0 → ∀ s, FD st s → s 9 6 0 0 = 0 → MS s (hjA A a0 a1) (pushN n) (pushB n B A) F S → Q (hpA A a0 a1) s) : f9_moveHinge Q st a0 a1 := by
  have h3 := h.2.2.1
  have n2 := h.2.1.c.2.2.1
  have n5 := h.2.1.c.2.2.2.1
  have l3 := h.2.1.c.2.1
  have a3 := h.2.1.2.1
  unfold f9_moveHinge
  refine W9_noPlace h.1 h.2.1 h0 h1 (fun c => ?_) (fun c d => ?_) (fun c d => ?_)
  · exact gate (by omega) (by omega) (fun e => absurd e (by omega)) (fun _ => hx c _ (FQ.up6 h3) (by rw [up_eq, if_pos ⟨rfl, rfl, rfl, rfl⟩]))
  · exact gate (by omega) (by omega) (fun e => absurd e (by omega)) (fun _ => hy c d _ (FQ.up6 h3) (by rw [up_eq, if_pos ⟨rfl, rfl, rfl, rfl⟩]))
  · refine gate (by omega) (by omega) (fun _ => ?_) (fun e => absurd e (by omega))
    have e6 : up st 9 6 0 0 0 9 6 0 0 = 0 := by rw [up_eq, if_pos ⟨rfl, rfl, rfl, rfl⟩]
    have f6 : FQ st (up st 9 6 0 0 0) := FQ.up6 h3
    generalize up st 9 6 0 0 0 = s at e6 f6
    refine W9_noHinge (f6.aM.trans h.1) h.2.1 hG c.1 c.2 d.1 d.2 (fun t => ?_) (fun t D s2 f2 => ?_) (fun t D s2 f2 => ?_)
    · exact ⟨inI_1, fun e => absurd e (by omega), fun _ => ht c d t s f6.ft e6⟩
    · exact ⟨inI_s (by omega) (by omega), fun e => absurd e (by omega), fun _ => hz c d t D s2 (f6.ft.trans (f2.ft f6.2)) ((f2 9 6 0 0 (by omega)).trans e6)⟩
    · refine ⟨inI_0', fun _ => ?_, fun e => absurd (by omega) e⟩
      have f2' := f6.ft.trans (f2.ft f6.2)
      have hV' := hjA_V h.2.1 c.1 c.2 d.1 d.2 D
      have hG' := hjA_HG hG c.1 c.2 d.1 d.2 t
      have hb := hpA_b a0 a1 (show 0 < A 3 by omega)
      have e3 := hjA_3 A a0 a1
      refine W9_keeps0 (h.ft f2') (fun s4 f4 k4 => ?_)
      refine W9_hingeMoves k4.1 h.2.1 hG c.1 c.2 d.1 d.2 (fun s5 f5 e5 => ?_)
      have k5 := k4.to (st' := s5) f5 e5 hV'
      have fin : FD st s5 := (f2'.fd.trans f4.fd).trans f5.fd
      have fin6 : s5 9 6 0 0 = 0 := (f5 9 6 0 0 (by omega)).trans ((f4 9 6 0 0 (by omega)).trans ((f2 9 6 0 0 (by omega)).trans e6))
      have ep : hjA A a0 a1 (16 + hpA A a0 a1) = a1 := by rw [hjA_in hb.1, if_pos rfl]
      refine W9_hingeAt e5 (by omega) (fun k k0 k1 => ?_) h1 (fun k k0 k1 ek _ => ?_) (fun en => absurd ep (en _ hb.1 (by omega)))
      · have := hng_b hV' k0 k1
        exact inI_s (by omega) (by omega)
      · rw [hG'.inj k0 k1 hb.1 (by omega) (ek.trans ep.symm)]
        exact hq c d t D s5 fin fin6 k5
