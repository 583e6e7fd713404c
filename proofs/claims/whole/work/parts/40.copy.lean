/-! a beam copied -/
theorem cpyR_keep {st : St} {o a : Int} {K k : Nat} {i j : Int} (h : ¬ ((K = 6 ∨ K = 10 ∨ K = 11) ∧ i = o)) : cpyR st o a K k i j = st K k i j := by
  unfold cpyR cpR
  rw [if_neg (fun q => h ⟨Or.inr q.1, q.2.2.1⟩), up_ne (fun q => h ⟨Or.inl q.1, q.2.2.1⟩)]
theorem cpyR_6 (st : St) (o a : Int) : cpyR st o a 6 2 o 0 = st 6 2 a 0 := by
  unfold cpyR cpR
  rw [if_neg (by omega), up_eq, if_pos ⟨rfl, rfl, rfl, rfl⟩]
theorem cpyR_10 {st : St} {o a j : Int} (h0 : 0 ≤ j) (h1 : j < st 6 2 a 0) : cpyR st o a 10 0 o j = st 10 0 a j := by
  unfold cpyR cpR
  rw [if_pos ⟨Or.inl rfl, rfl, rfl, h0, h1⟩]
theorem cpyR_11 {st : St} {o a j : Int} (h0 : 0 ≤ j) (h1 : j < st 6 2 a 0) : cpyR st o a 11 0 o j = st 11 0 a j := by
  unfold cpyR cpR
  rw [if_pos ⟨Or.inr rfl, rfl, rfl, h0, h1⟩]
/-- a row holds n pairs -/
def RH (st : St) (r n : Int) (f g : Int → Int) : Prop := RW st r ∧ st 6 2 r 0 = n ∧ ∀ k, 0 ≤ k → k < n → st 10 0 r k = f k ∧ st 11 0 r k = g k
theorem RH.fr {st st' : St} {r n : Int} {f g : Int → Int} (h : RH st r n f g) (hf : ∀ K s j, K = 6 ∨ K = 10 ∨ K = 11 → st' K s r j = st K s r j) : RH st' r n f g := by
  refine ⟨?_, (hf 6 2 0 (by omega)).trans h.2.1, fun k a b => ⟨(hf 10 0 k (by omega)).trans (h.2.2 k a b).1, (hf 11 0 k (by omega)).trans (h.2.2 k a b).2⟩⟩
  unfold RW
  rw [hf 6 2 0 (by omega)]
  exact h.1
theorem RH.cpy {st : St} {o a n : Int} {f g : Int → Int} (h : RH st a n f g) (hc : rcap a = rcap o) : RH (cpyR st o a) o n f g := by
  refine ⟨?_, (cpyR_6 st o a).trans h.2.1, fun k k0 k1 => ?_⟩
  · unfold RW
    rw [cpyR_6, ← hc]
    exact h.1
  · have h9 := h.2.1
    rw [cpyR_10 k0 (by omega), cpyR_11 k0 (by omega)]
    exact h.2.2 k k0 k1
def FB0 (o : Int) (st st' : St) : Prop := ∀ K s i j, ¬ ((K = 0 ∧ i = o) ∨ ((K = 6 ∨ K = 10 ∨ K = 11) ∧ 4 * o ≤ i ∧ i < 4 * o + 4)) → st' K s i j = st K s i j
/-- the beam's rows, each a list of pairs -/
def BH (st : St) (b : Int) (A : Int → Int) : Prop := st 0 0 b 0 = A 0 ∧ st 0 1 b 0 = A 1 ∧ RH st (4 * b) (A 2) (fun k => A (6 + 2 * k)) (fun k => A (6 + 2 * k + 1)) ∧ (RW st (4 * b + 1) ∧ st 6 2 (4 * b + 1) 0 = A 3 ∧ ∀ k, 0 ≤ k → k < A 3 → st 10 0 (4 * b + 1) k = A (16 + k)) ∧ RH st (4 * b + 2) (A 4) (fun k => A (19 + 2 * k)) (fun k => A (19 + 2 * k + 1)) ∧ RH st (4 * b + 3) (A 5) (fun k => A (35 + 2 * k)) (fun k => A (35 + 2 * k + 1))
theorem BH.bf {st : St} {b : Int} {A : Int → Int} (h : BH st b A) (h3 : A 3 = A 2 - 2) : BF st b A := by
  obtain ⟨h0, h1, h2, ⟨i1, i2, i3⟩, h4, h5⟩ := h
  exact ⟨⟨h0, h2.1, i1, h2.2.1, i2.trans h3, fun k a c => (h2.2.2 k a c).1, fun k a c => i3 k a (by omega)⟩, h1, h4.1, h5.1, h4.2.1, h5.2.1, fun k a c => (h2.2.2 k a c).2, fun k a c => h4.2.2 k a c, fun k a c => h5.2.2 k a c⟩
theorem BH.fr {st st' : St} {b : Int} {A : Int → Int} (h : BH st b A) (hf : ∀ K s i j, (K = 0 ∧ i = b) ∨ ((K = 6 ∨ K = 10 ∨ K = 11) ∧ 4 * b ≤ i ∧ i < 4 * b + 4) → st' K s i j = st K s i j) : BH st' b A := by
  obtain ⟨h0, h1, h2, ⟨i1, i2, i3⟩, h4, h5⟩ := h
  refine ⟨(hf 0 0 b 0 (by omega)).trans h0, (hf 0 1 b 0 (by omega)).trans h1, h2.fr (fun K s j hK => hf K s _ j (by omega)), ⟨?_, (hf 6 2 _ 0 (by omega)).trans i2, fun k a c => (hf 10 0 _ k (by omega)).trans (i3 k a c)⟩, h4.fr (fun K s j hK => hf K s _ j (by omega)), h5.fr (fun K s j hK => hf K s _ j (by omega))⟩
  unfold RW
  rw [hf 6 2 _ 0 (by omega)]
  exact i1
theorem rcap4 (o a i : Int) (h0 : 0 ≤ i) (h1 : i < 4) : rcap (4 * a + i) = rcap (4 * o + i) := by
  unfold rcap
  rw [show (4 * a + i) % 4 = i by omega, show (4 * o + i) % 4 = i by omega]
theorem W0_copyFrom {o a : Int} {A : Int → Int} {Q : St → Prop} {st : St} (hne : ¬ o = a) (hB : BH st a A) (h : ∀ s, FB0 o st s → BH s o A → Q s) : f0_copyFrom o a Q st := by
  obtain ⟨h0, h1, h2, ⟨i1, i2, i3⟩, h4, h5⟩ := hB
  unfold f0_copyFrom
  rintro _ rfl _ rfl
  have c0 : rcap (4 * a) = rcap (4 * o) := by
    have := rcap4 o a 0 (by omega) (by omega)
    rw [Int.add_zero, Int.add_zero] at this
    exact this
  have c1 := rcap4 o a 1 (by omega) (by omega)
  have c2 := rcap4 o a 2 (by omega) (by omega)
  have c3 := rcap4 o a 3 (by omega) (by omega)
  have hs : RH st (4 * a + 1) (A 3) (fun k => A (16 + k)) (fun k => st 11 0 (4 * a + 1) k) := ⟨i1, i2, fun k a1 c => ⟨i3 k a1 c, rfl⟩⟩
  generalize e2 : up (up st 0 0 o 0 (st 0 0 a 0)) 0 1 o 0 (up st 0 0 o 0 (st 0 0 a 0) 0 1 a 0) = s2
  have f2 : ∀ K s i j, ¬ (K = 0 ∧ i = o) → s2 K s i j = st K s i j := fun K s i j hK => by rw [← e2, up_ne (by omega), up_ne (by omega)]
  have v0 : s2 0 0 o 0 = A 0 := by rw [← e2, up_ne (by omega), up_eq, if_pos ⟨rfl, rfl, rfl, rfl⟩]; exact h0
  have v1 : s2 0 1 o 0 = A 1 := by rw [← e2, up_eq, if_pos ⟨rfl, rfl, rfl, rfl⟩, up_ne (by omega)]; exact h1
  have k2 := h2.fr (st' := s2) (fun K s j hK => f2 K s _ j (by omega))
  have ks := hs.fr (st' := s2) (fun K s j hK => f2 K s _ j (by omega))
  have k4 := h4.fr (st' := s2) (fun K s j hK => f2 K s _ j (by omega))
  have k5 := h5.fr (st' := s2) (fun K s j hK => f2 K s _ j (by omega))
  refine W6_copyFrom k2.1 (by omega) c0 ?_
  have f3 : ∀ K s i j, ¬ ((K = 6 ∨ K = 10 ∨ K = 11) ∧ i = 4 * o) → cpyR s2 (4 * o) (4 * a) K s i j = s2 K s i j := fun K s i j hK => cpyR_keep hK
  have n2 := k2.cpy c0
  generalize cpyR s2 (4 * o) (4 * a) = s3 at f3 n2
  replace ks := ks.fr (st' := s3) (fun K s j hK => f3 K s _ j (by omega))
  replace k4 := k4.fr (st' := s3) (fun K s j hK => f3 K s _ j (by omega))
  replace k5 := k5.fr (st' := s3) (fun K s j hK => f3 K s _ j (by omega))
  refine W6_copyFrom ks.1 (by omega) c1 ?_
  have f4 : ∀ K s i j, ¬ ((K = 6 ∨ K = 10 ∨ K = 11) ∧ i = 4 * o + 1) → cpyR s3 (4 * o + 1) (4 * a + 1) K s i j = s3 K s i j := fun K s i j hK => cpyR_keep hK
  have ns := ks.cpy c1
  generalize cpyR s3 (4 * o + 1) (4 * a + 1) = s4 at f4 ns
  replace n2 := n2.fr (st' := s4) (fun K s j hK => f4 K s _ j (by omega))
  replace k4 := k4.fr (st' := s4) (fun K s j hK => f4 K s _ j (by omega))
  replace k5 := k5.fr (st' := s4) (fun K s j hK => f4 K s _ j (by omega))
  refine W6_copyFrom k4.1 (by omega) c2 ?_
  have f5 : ∀ K s i j, ¬ ((K = 6 ∨ K = 10 ∨ K = 11) ∧ i = 4 * o + 2) → cpyR s4 (4 * o + 2) (4 * a + 2) K s i j = s4 K s i j := fun K s i j hK => cpyR_keep hK
  have n4 := k4.cpy c2
  generalize cpyR s4 (4 * o + 2) (4 * a + 2) = s5 at f5 n4
  replace n2 := n2.fr (st' := s5) (fun K s j hK => f5 K s _ j (by omega))
  replace ns := ns.fr (st' := s5) (fun K s j hK => f5 K s _ j (by omega))
  replace k5 := k5.fr (st' := s5) (fun K s j hK => f5 K s _ j (by omega))
  refine W6_copyFrom k5.1 (by omega) c3 ?_
  have f6 : ∀ K s i j, ¬ ((K = 6 ∨ K = 10 ∨ K = 11) ∧ i = 4 * o + 3) → cpyR s5 (4 * o + 3) (4 * a + 3) K s i j = s5 K s i j := fun K s i j hK => cpyR_keep hK
  have n5 := k5.cpy c3
  generalize cpyR s5 (4 * o + 3) (4 * a + 3) = s6 at f6 n5
  replace n2 := n2.fr (st' := s6) (fun K s j hK => f6 K s _ j (by omega))
  replace ns := ns.fr (st' := s6) (fun K s j hK => f6 K s _ j (by omega))
  replace n4 := n4.fr (st' := s6) (fun K s j hK => f6 K s _ j (by omega))
  have ff : ∀ K s i j, ¬ ((K = 6 ∨ K = 10 ∨ K = 11) ∧ 4 * o ≤ i ∧ i < 4 * o + 4) → s6 K s i j = s2 K s i j := fun K s i j hK => by
    rw [f6 K s i j (by omega), f5 K s i j (by omega), f4 K s i j (by omega), f3 K s i j (by omega)]
  refine h s6 (fun K s i j hK => (ff K s i j (by omega)).trans (f2 K s i j (by omega))) ⟨(ff 0 0 o 0 (by omega)).trans v0, (ff 0 1 o 0 (by omega)).trans v1, n2, ⟨ns.1, ns.2.1, fun k a1 c => (ns.2.2 k a1 c).1⟩, n4, n5⟩
