/-! the best hinge, on both sides -/
theorem mxN_nn {f : Int → Int} : ∀ m : Nat, 0 ≤ mxN f m
  | 0 => Int.le_refl _
  | m + 1 => by
    have := mxN_nn (f := f) m
    unfold mxN imax
    split <;> omega
theorem mxN_ge {f : Int → Int} : ∀ (m : Nat) (k : Int), 0 ≤ k → k < m → f k ≤ mxN f m := by
  intro m
  induction m with
  | zero => intro k a b; omega
  | succ m ih =>
    intro k a b
    unfold mxN imax
    by_cases e : k = (m : Int)
    · rw [e]; split <;> omega
    · have := ih k a (by omega)
      split <;> omega
theorem mxN_le {f : Int → Int} {B : Int} (hB : 0 ≤ B) : ∀ m : Nat, (∀ k : Int, 0 ≤ k → k < m → f k ≤ B) → mxN f m ≤ B := by
  intro m
  induction m with
  | zero => intro _; exact hB
  | succ m ih =>
    intro h
    have h1 := ih (fun k a b => h k a (by omega))
    have h2 := h m (by omega) (by omega)
    unfold mxN imax
    split <;> omega
/-- the greatest moment of all -/
def pkF (A : Int → Int) : Int := mxN (fun q => mxN (fun h => gPk A q h) (lhA A + 1).toNat) (A 0 + 1).toNat
theorem pkF_ge {A : Int → Int} {q h : Int} (s : sPk A q h) : gPk A q h ≤ pkF A := by
  obtain ⟨q0, q1, h0, h1⟩ := s
  have a := mxN_ge (f := fun h => gPk A q h) (lhA A + 1).toNat h h0 (by omega)
  have b := mxN_ge (f := fun q => mxN (fun h => gPk A q h) (lhA A + 1).toNat) (A 0 + 1).toNat q q0 (by omega)
  unfold pkF
  exact Int.le_trans a b
theorem pkF_le {A : Int → Int} {B : Int} (hB : 0 ≤ B) (h : ∀ q h, sPk A q h → gPk A q h ≤ B) : pkF A ≤ B := by
  unfold pkF
  refine mxN_le hB _ (fun q q0 q1 => mxN_le hB _ (fun hd d0 d1 => h q hd ⟨q0, by omega, d0, by omega⟩))
theorem pkF_nn (A : Int → Int) : 0 ≤ pkF A := mxN_nn _
theorem pkF_1 {A : Int → Int} {B p : Int} (h : PkI (gPk A) (sPk A) B p) : B = pkF A := by
  obtain ⟨b0, h1, h2, h3⟩ := h
  have u := pkF_le b0 h1
  rcases h3 with ⟨hd, s, e⟩ | ⟨e, _⟩
  · have := pkF_ge s
    omega
  · have := pkF_nn A
    omega
theorem pkF_s {A : Int → Int} (hA : VF A) (hS : HS A) : 0 ≤ pkF A ∧ pkF A ≤ 1700000000000 := ⟨pkF_nn A, pkF_le (by omega) (fun q h s => (gPk_s hA hS h s.1 s.2.1).2)⟩
def okH (A : Int → Int) (a0 v : Int) : Prop := ¬ tkA A a0 v ∧ ¬ DA (hjA A a0 v) (-1) 0 = 0
/-- r is what the search from v7 on gives -/
def bhR (A : Int → Int) (a0 r : Int) : Nat → Int → Int → Int → Int → Prop
  | 0, _, v2, _, _ => r = v2
  | m + 1, v7, v2, v3, v5 => (A 0 ≤ v7 → r = v2) ∧ (¬ A 0 ≤ v7 → ((okH A a0 v7 ∧ (v2 = -1 ∨ pkF (hjA A a0 v7) * v5 < v3 * unitA (hjA A a0 v7))) → bhR A a0 r m (v7 + 1) v7 (pkF (hjA A a0 v7)) (unitA (hjA A a0 v7))) ∧ (¬ (okH A a0 v7 ∧ (v2 = -1 ∨ pkF (hjA A a0 v7) * v5 < v3 * unitA (hjA A a0 v7))) → bhR A a0 r m (v7 + 1) v2 v3 v5))
theorem bhR_1 {A : Int → Int} {a0 r s : Int} : ∀ (m : Nat) (v7 v2 v3 v5 : Int), bhR A a0 r m v7 v2 v3 v5 → bhR A a0 s m v7 v2 v3 v5 → r = s := by
  intro m
  induction m with
  | zero => intro v7 v2 v3 v5 h g; exact h.trans g.symm
  | succ m ih =>
    intro v7 v2 v3 v5 h g
    unfold bhR at h g
    by_cases c : A 0 ≤ v7
    · rw [h.1 c, g.1 c]
    · by_cases d : okH A a0 v7 ∧ (v2 = -1 ∨ pkF (hjA A a0 v7) * v5 < v3 * unitA (hjA A a0 v7))
      · exact ih _ _ _ _ ((h.2 c).1 d) ((g.2 c).1 d)
      · exact ih _ _ _ _ ((h.2 c).2 d) ((g.2 c).2 d)
theorem W8_isLess {Q : Int → St → Prop} {st : St} {a0 a1 a2 a3 : Int} (h0 : 0 ≤ a0 ∧ a0 ≤ 1700000000000) (h1 : 1 ≤ a1 ∧ a1 ≤ 648000) (h2 : 0 ≤ a2 ∧ a2 ≤ 1700000000000) (h3 : 1 ≤ a3 ∧ a3 ≤ 648000) (hq1 : a0 * a3 < a2 * a1 → Q 1 st) (hq0 : ¬ a0 * a3 < a2 * a1 → Q 0 st) : f8_isLess Q st a0 a1 a2 a3 := by
  have i0 : inL a0 := inL_s (by omega) (by omega)
  have i1 : inL a1 := inL_s (by omega) (by omega)
  have i2 : inL a2 := inL_s (by omega) (by omega)
  have i3 : inL a3 := inL_s (by omega) (by omega)
  have d0 : a1 * Int.tdiv a0 a1 + Int.tmod a0 a1 = a0 := by rw [Int.tmod_def]; omega
  have d2 : a3 * Int.tdiv a2 a3 + Int.tmod a2 a3 = a2 := by rw [Int.tmod_def]; omega
  have r0 := Int.tmod_nonneg a1 h0.1
  have r1 := Int.tmod_lt_of_pos a0 (show 0 < a1 by omega)
  have r2 := Int.tmod_nonneg a3 h2.1
  have r3 := Int.tmod_lt_of_pos a2 (show 0 < a3 by omega)
  have q0 := Int.tdiv_nonneg h0.1 (show 0 ≤ a1 by omega)
  have q2 := Int.tdiv_nonneg h2.1 (show 0 ≤ a3 by omega)
  have q1 := tdiv_B (d := a1) (show -1700000000000 ≤ a0 by omega) h0.2
  have q3 := tdiv_B (d := a3) (show -1700000000000 ≤ a2 by omega) h2.2
  unfold f8_isLess
  generalize Int.tdiv a0 a1 = x at d0 q0 q1
  generalize Int.tdiv a2 a3 = y at d2 q2 q3
  generalize Int.tmod a0 a1 = r at d0 r0 r1
  generalize Int.tmod a2 a3 = s at d2 r2 r3
  have m1 := mulB (show -648000 ≤ r by omega) (show r ≤ 648000 by omega) (show -648000 ≤ a3 by omega) h3.2
  have m2 := mulB (show -648000 ≤ s by omega) (show s ≤ 648000 by omega) (show -648000 ≤ a1 by omega) h1.2
  have p := Int.mul_pos (show 0 < a1 by omega) (show 0 < a3 by omega)
  have e0 : a0 * a3 = x * (a1 * a3) + r * a3 := by rw [← d0]; grind
  have e2 : a2 * a1 = y * (a1 * a3) + s * a1 := by rw [← d2]; grind
  have b0 : 0 ≤ r * a3 := Int.mul_nonneg r0 (by omega)
  have b1 : 0 ≤ s * a1 := Int.mul_nonneg r2 (by omega)
  have b2 : r * a3 < a1 * a3 := Int.mul_lt_mul_of_pos_right r1 (by omega)
  have b3 : s * a1 < a1 * a3 := by rw [Int.mul_comm a1 a3]; exact Int.mul_lt_mul_of_pos_right r3 (by omega)
  refine ⟨i1, fun c => absurd c (by omega), fun _ => ⟨i3, fun _ => ⟨i0, i1, by omega, ?_⟩, fun c => absurd (by omega) c⟩⟩
  intro x8 e8
  rw [e8]
  refine ⟨i2, i3, by omega, ?_⟩
  intro x12 e12
  rw [e12]
  refine ⟨inL_s (by omega) (by omega), inL_s (by omega) (by omega), fun c => ⟨i0, i1, by omega, i2, i3, by omega, inL_s (by omega) (by omega), inL_s (by omega) (by omega), fun c2 => hq0 ?_, fun c2 => hq1 ?_⟩, fun c => ⟨inL_s (by omega) (by omega), inL_s (by omega) (by omega), fun c2 => hq0 ?_, fun c2 => hq1 ?_⟩⟩
  · rw [e0, e2, c]; omega
  · rw [e0, e2, c]; omega
  · have := Int.mul_le_mul_of_nonneg_right (show y + 1 ≤ x by omega) (Int.le_of_lt p)
    rw [Int.add_mul, Int.one_mul] at this
    omega
  · have := Int.mul_le_mul_of_nonneg_right (show x + 1 ≤ y by omega) (Int.le_of_lt p)
    rw [Int.add_mul, Int.one_mul] at this
    omega
theorem HG.hs {A : Int → Int} (h : HG A) (h3 : A 3 = A 2 - 2) : HS A := fun k k0 k1 => by
  have := h.2 k k0 (by omega)
  omega
theorem hjA_HS {A : Int → Int} {n v : Int} (hV : VA A) (h : HG A) (n0 : 0 ≤ n) (n1 : n < A 3) (v0 : 1 ≤ v) (v1 : v ≤ A 0 - 1) (ht : ¬ tkA A n v) : HS (hjA A n v) := by
  have e3 := hjA_3 A n v
  have e2 : hjA A n v 2 = A 2 := hjA_ne (by omega) n0 (by omega)
  have h3 := hV.2.1
  exact (hjA_HG h n0 n1 v0 v1 ht).hs (by omega)
/-- a search in the class changes no more than this -/
def FX (st st' : St) : Prop := ∀ K s i j, ¬ (K = 18 ∨ (K = 0 ∧ i = 1) ∨ (K = 3 ∧ i = 1) ∨ ((K = 6 ∨ K = 10 ∨ K = 11) ∧ 4 ≤ i ∧ i < 8) ∨ (K = 20 ∧ 5 ≤ i ∧ i < 10) ∨ K = 4 ∨ K = 12 ∨ K = 13 ∨ K = 14 ∨ K = 15 ∨ K = 1) → st' K s i j = st K s i j
theorem FX.rf {a : St} : FX a a := fun _ _ _ _ _ => rfl
theorem FX.fc {a b : St} (h : FX a b) : FC a b := fun K s i j hK => h K s i j (by omega)
theorem FX.y {a b c : St} (h : FX a b) (g : FY b c) : FX a c := fun K s i j hK => (g K s i j (by omega)).trans (h K s i j hK)
theorem FX.f14 {a b c : St} (h : FX a b) (g : F14 b c) : FX a c := fun K s i j hK => (g K s i j (by omega)).trans (h K s i j hK)
theorem CS.fx {st st' : St} {A : Int → Int} {n : Int} {B : Int → Int → Int} {F : Int → Int} {S : Int → Int → Int} (h : CS st A n B F S) (hf : FX st st') : CS st' A n B F S := h.fr (fun K s i j hK => hf K s i j (by omega))
theorem W8_bestHinge {A : Int → Int} {n : Int} {B : Int → Int → Int} {F : Int → Int} {S : Int → Int → Int} {Q : Int → St → Prop} {X : String → St → Prop} {st : St} {a0 : Int} (h : CS st A n B F S) (hG : HG A) (h0 : inI a0) (hx : ¬ (0 ≤ a0 ∧ a0 < A 3) → X "java/lang/IndexOutOfBoundsException" st)
    (hq : 0 ≤ a0 ∧ a0 < A 3 → ∀ r, bhR A a0 r 100 1 (-1) 0 1 → ∀ s, FC st s → CS s A n B F S → Q r s) : f8_bestHinge Q X st a0 := by
  have b := h.2.1.2.2.2.1
  have hV := h.1
  have l2 := hV.c.1
  have l3 := hV.c.2.1
  unfold f8_bestHinge
  refine W8_needNumber b.1 b.2.1 h0 (fun c0 c1 => ?_) hx
  have p3 : 0 < A 3 := by omega
  have hpb : ∀ v, 0 ≤ hpA A a0 v ∧ hpA A a0 v ≤ A 3 - 1 := fun v => hpA_b a0 v p3
  have n5 := hV.c.2.2.2.1
  have h3 := hV.2.1
  have L : ∀ (m : Nat) (v7 v2 v3 v5 : Int) (s : St), 1 ≤ v7 → v7 ≤ A 0 → (-1 ≤ v2 ∧ v2 ≤ 30) → (0 ≤ v3 ∧ v3 ≤ 1700000000000) → (1 ≤ v5 ∧ v5 ≤ 648000) → FX st s → (∀ r, bhR A a0 r m v7 v2 v3 v5 → bhR A a0 r 100 1 (-1) 0 1) → A 0 - v7 < m → f8_bestHinge_l22 Q X a0 m s v2 v3 v5 v7 := by
    intro m
    induction m with
    | zero => intro v7 v2 v3 v5 s a1 a2 a3 a4 a5 a6 a7 a8; omega
    | succ m ih =>
      intro v7 v2 v3 v5 s a1 a2 a3 a4 a5 a6 a7 a8
      have hs := h.fx a6
      have iv : inI v2 := inI_s (by omega) (by omega)
      unfold f8_bestHinge_l22
      rw [hs.2.1.1]
      refine ⟨inI_s (by omega) (by omega), inI_s (by omega) (by omega), fun c => ?_, fun c => ?_⟩
      · exact hq ⟨c0, c1⟩ v2 (a7 v2 ⟨fun _ => rfl, fun e => absurd c e⟩) s a6.fc hs
      · have nx : ¬ (okH A a0 v7 ∧ (v2 = -1 ∨ pkF (hjA A a0 v7) * v5 < v3 * unitA (hjA A a0 v7))) → ∀ s', FX st s' → f8_bestHinge_j114 (fun st v2x22 v3x22 v5x22 v7x22 => f8_bestHinge_l22 Q X a0 m st v2x22 v3x22 v5x22 v7x22) Q X a0 s' v2 v3 v5 v7 := fun no s' f' => by
          unfold f8_bestHinge_j114
          rintro _ rfl
          exact ih (v7 + 1) v2 v3 v5 s' (by omega) (by omega) a3 a4 a5 f' (fun r k => a7 r ⟨fun e => absurd e c, fun _ => ⟨fun y => absurd y no, fun _ => k⟩⟩) (by omega)
        refine W8_tryHingeAt hs hG c0 c1 a1 (by omega) (fun t s' f' => ⟨inI_s (by omega) (by omega), fun z => absurd z (by omega), fun _ => nx (fun k => k.1.1 t) s' (a6.y f')⟩) (fun t D s' f' => ⟨inI_s (by omega) (by omega), fun z => absurd z (by omega), fun _ => nx (fun k => k.1.2 D) s' (a6.y f')⟩) (fun t D s' f' bh l => ?_)
        have hp := hpb v7
        refine ⟨inI_s (by omega) (by omega), fun _ => ?_, fun z => absurd hp.1 z⟩
        have hV' := hjA_V hV c0 c1 a1 (show v7 ≤ A 0 - 1 by omega) D
        have hS' := hjA_HS hV hG c0 c1 a1 (show v7 ≤ A 0 - 1 by omega) t
        have f1 := a6.y f'
        refine W4_find hV'.1.1 (bh.bf hV'.2.1) l (fun s2 f2 pk => ?_)
        have epk : s2 4 0 0 0 = pkF (hjA A a0 v7) := pkF_1 pk.1
        have eu : s2 3 4 1 0 = unitA (hjA A a0 v7) := (f2 3 4 1 0 (by omega)).trans l.2.2.1
        have bp := pkF_s hV'.1.1 hS'
        have bu := unitA_s hV'.c hS'
        have bu1 := unitA_pos hV'.c D
        have f3 := f1.f14 f2
        have yes : (v2 = -1 ∨ pkF (hjA A a0 v7) * v5 < v3 * unitA (hjA A a0 v7)) → ∀ s', s' = s2 → f8_bestHinge_j94 (fun st v2x22 v3x22 v5x22 v7x22 => f8_bestHinge_l22 Q X a0 m st v2x22 v3x22 v5x22 v7x22) Q X a0 s' v7 := fun y s' es => by
          subst es
          unfold f8_bestHinge_j94 f8_bestHinge_j114
          rw [epk, eu]
          rintro _ rfl _ rfl _ rfl
          exact ih (v7 + 1) v7 _ _ s' (by omega) (by omega) (by omega) bp ⟨bu1, bu.2⟩ f3 (fun r k => a7 r ⟨fun e => absurd e c, fun _ => ⟨fun _ => k, fun no => absurd ⟨⟨t, D⟩, y⟩ no⟩⟩) (by omega)
        refine ⟨iv, fun e => yes (Or.inl e) s2 rfl, fun e => ?_⟩
        rw [epk, eu]
        refine W8_isLess bp ⟨bu1, bu.2⟩ a4 a5 (fun y => ⟨inI_1, fun z => absurd z (by omega), fun _ => yes (Or.inr y) s2 rfl⟩) (fun y => ⟨inI_0', fun _ => nx (fun k => ?_) s2 f3, fun z => absurd rfl z⟩)
        rcases k.2 with k | k
        · exact e k
        · exact y k
  exact ⟨100, L 100 1 (-1) 0 1 st (by omega) (by omega) (by omega) (by omega) (by omega) FX.rf (fun _ k => k) (by omega)⟩
theorem W9_aside5 {A : Int → Int} {st : St} (eA : aM st = A) {s s4 : St} (es : s = cpyN st 5 0 0 0 47) (f4 : ∀ K s' i j, ¬ (K = 36 ∨ K = 37 ∨ (K = 9 ∧ s' = 18) ∨ (K = 30 ∧ s' = 0 ∧ i = 0 ∧ 0 ≤ j ∧ j < 47)) → s4 K s' i j = s K s' i j) (hl : ∀ j, bL (s4 37 0 0 j)) : FT st (cpyN s4 0 0 5 0 47) := by
  refine ⟨fun K s' i j hK => ?_, fun j => by rw [cpyN_out (by omega)]; exact hl j⟩
  by_cases c : K = 30 ∧ s' = 0 ∧ i = 0 ∧ 0 ≤ j ∧ j < 47
  · obtain ⟨rfl, rfl, rfl, j0, j1⟩ := c
    have t := cpyN_in (st := s4) (d := 0) (a := 0) (s := 5) (b := 0) (m := 47) j0 j1
    have t2 := cpyN_in (st := st) (d := 5) (a := 0) (s := 0) (b := 0) (m := 47) j0 j1
    rw [Int.zero_add] at t t2
    rw [t, f4 30 0 5 j (by omega), es, t2]
  · rw [cpyN_out (by omega), f4 K s' i j (by omega), es, cpyN_out (by omega)]
theorem W9_bestHinge {A : Int → Int} {n : Int} {B : Int → Int → Int} {F : Int → Int} {S : Int → Int → Int} {Q : Int → St → Prop} {st : St} {a0 : Int} (h : MS st A n B F S) (hG : HG A) (h0 : inI a0) (hx : ¬ (0 ≤ a0 ∧ a0 < A 3) → ∀ s, FQ st s → s 9 6 0 0 = 1 → Q 0 s)
    (hq : 0 ≤ a0 ∧ a0 < A 3 → ∀ r, bhR A a0 r 100 1 (-1) 0 1 → ∀ s, FT st s → s 9 6 0 0 = 0 → Q r s) : f9_bestHinge Q st a0 := by
  have h3' := h.2.2.1
  have hV := h.2.1
  have l2 := hV.c.1
  have l3 := hV.c.2.1
  have n2 := hV.c.2.2.1
  have n5 := hV.c.2.2.2.1
  have h3 := hV.2.1
  have m0 := mlen0
  have m5 := mlen5
  have ec : st 30 0 0 3 = A 3 := congrFun h.1 3
  unfold f9_bestHinge f9_isHinge
  rw [ec]
  refine W9_isIn h0 inI_0 (inI_s (by omega) (by omega)) ?_
  by_cases c : 0 ≤ a0 ∧ a0 ≤ A 3 - 1
  · rw [if_pos c]
    refine ⟨Or.inr rfl, inI_1, fun e => absurd e (by omega), fun _ => ?_⟩
    unfold f9_bestHinge_j14
    refine gate (by omega) (by omega) (fun _ => ?_) (fun e => absurd e (by omega))
    have e6 : up st 9 6 0 0 0 9 6 0 0 = 0 := by rw [up_eq, if_pos ⟨rfl, rfl, rfl, rfl⟩]
    have f6 : FT st (up st 9 6 0 0 0) := (FQ.up6 h3').ft
    generalize up st 9 6 0 0 0 = s0 at e6 f6
    have c0 := c.1
    have c1 : a0 < A 3 := by omega
    have L : ∀ (m : Nat) (v7 v2 v3 v5 : Int) (s : St), 1 ≤ v7 → v7 ≤ A 0 → (-1 ≤ v2 ∧ v2 ≤ 30) → (0 ≤ v3 ∧ v3 ≤ 1700000000000) → (1 ≤ v5 ∧ v5 ≤ 648000) → FT st s → s 9 6 0 0 = 0 → (∀ r, bhR A a0 r m v7 v2 v3 v5 → bhR A a0 r 100 1 (-1) 0 1) → A 0 - v7 < m → f9_bestHinge_l36 Q a0 m s v2 v3 v5 v7 := by
      intro m
      induction m with
      | zero => intro v7 v2 v3 v5 s a1 a2 a3 a4 a5 a6 a6' a7 a8; omega
      | succ m ih =>
        intro v7 v2 v3 v5 s a1 a2 a3 a4 a5 a6 a6' a7 a8
        have eA : aM s = A := a6.aM.trans h.1
        have e0 : s 30 0 0 0 = A 0 := congrFun eA 0
        have iv : inI v2 := inI_s (by omega) (by omega)
        unfold f9_bestHinge_l36
        rw [e0]
        refine ⟨inI_s (by omega) (by omega), inI_s (by omega) (by omega), fun d => ?_, fun d => ?_⟩
        · exact hq ⟨c0, c1⟩ v2 (a7 v2 ⟨fun _ => rfl, fun e => absurd d e⟩) s a6 a6'
        · have nx : ¬ (okH A a0 v7 ∧ (v2 = -1 ∨ pkF (hjA A a0 v7) * v5 < v3 * unitA (hjA A a0 v7))) → ∀ s', FT st s' → s' 9 6 0 0 = 0 → f9_bestHinge_j146 (fun st v2x36 v3x36 v5x36 v7x36 => f9_bestHinge_l36 Q a0 m st v2x36 v3x36 v5x36 v7x36) Q a0 s' v2 v3 v5 v7 := fun no s' f' g' => by
            unfold f9_bestHinge_j146
            rintro _ rfl
            exact ih (v7 + 1) v2 v3 v5 s' (by omega) (by omega) a3 a4 a5 f' g' (fun r k => a7 r ⟨fun e => absurd e d, fun _ => ⟨fun y => absurd y no, fun _ => k⟩⟩) (by omega)
          refine W9_noHinge eA hV hG c0 c1 a1 (by omega) (fun t => ?_) (fun t D s' f' => ?_) (fun t D s' f' => ?_)
          · exact ⟨inI_1, fun z => absurd z (by omega), fun _ => nx (fun k => k.1.1 t) s a6 a6'⟩
          · exact ⟨inI_s (by omega) (by omega), fun z => absurd z (by omega), fun _ => nx (fun k => k.1.2 D) s' (a6.trans (f'.ft a6.2)) ((f' 9 6 0 0 (by omega)).trans a6')⟩
          · refine ⟨inI_0', fun _ => ?_, fun z => absurd (by omega) z⟩
            have v1 : v7 ≤ A 0 - 1 := by omega
            have hV' := hjA_V hV c0 c1 a1 v1 D
            have hS' := hjA_HS hV hG c0 c1 a1 v1 t
            have f1 := a6.trans (f'.ft a6.2)
            have g1 : s' 9 6 0 0 = 0 := (f' 9 6 0 0 (by omega)).trans a6'
            have eA1 : aM s' = A := f1.aM.trans h.1
            have hl1 := f1.2
            refine W9_copies (by omega) (by omega) (by omega) (by omega) (by omega) ?_
            generalize es : cpyN s' 5 0 0 0 47 = s1
            have g5 : ∀ K s2 i j, ¬ (K = 30 ∧ i = 5) → s1 K s2 i j = s' K s2 i j := fun K s2 i j hK => by rw [← es]; exact cpyN_out (by omega)
            have eA2 : aM s1 = A := by
              rw [← eA1]
              funext j
              exact g5 30 0 0 j (by omega)
            refine W9_hingeMoves eA2 hV hG c0 c1 a1 v1 (fun s3 f3 e3 => ?_)
            refine W9_lays (by rw [e3]; exact hV'.c) (by rw [e3]; exact D) (fun j => by rw [f3 37 0 0 j (by omega), g5 37 0 0 j (by omega)]; exact hl1 j) (fun s4 f4 u4 w4 => ?_)
            have e4 : aM s4 = hjA A a0 v7 := by
              rw [← e3]
              funext j
              exact f4.1 30 0 0 j (by omega)
            have z0 : s4 30 0 0 0 = s3 30 0 0 0 := f4.1 30 0 0 0 (by omega)
            have z2 : s4 30 0 0 2 = s3 30 0 0 2 := f4.1 30 0 0 2 (by omega)
            rw [e3] at u4 w4
            rw [← z0, ← z2] at w4
            have hlw : LW s4 := ⟨by rw [e4]; exact u4, by rw [e4]; exact w4⟩
            refine W9_worstPlace (by rw [e4]; exact hV'.1.1) hlw (fun p p0 p1 pk => ?_)
            refine W9_greatestAt (by rw [e4]; exact hV'.1.1) hlw p0 p1 (fun z zz0 zz1 zg za => ?_)
            rw [e4] at pk zg za
            obtain ⟨B9, pk⟩ := pk
            have eB := pkF_1 pk
            have ez : z = pkF (hjA A a0 v7) := by
              have x0 : s4 30 0 0 0 = hjA A a0 v7 0 := congrFun e4 0
              obtain ⟨b0, k1, k2, k3⟩ := pk
              have le : z ≤ B9 := by
                rcases za with ⟨hd, d0, d1, d2⟩ | za
                · rw [← d2]; exact k1 p hd ⟨p0, by omega, d0, d1⟩
                · omega
              have ge : B9 ≤ z := by
                rcases k3 with ⟨hd, s9, e9⟩ | ⟨k3, _⟩
                · rw [← e9]; exact zg hd s9.2.2.1 s9.2.2.2
                · omega
              omega
            rw [ez]
            refine W9_copies (by omega) (by omega) (by omega) (by omega) (by omega) ?_
            have fin : FT s' (cpyN s4 0 0 5 0 47) := W9_aside5 eA1 es.symm (fun K s2 i j hK => (f4.1 K s2 i j (by omega)).trans (f3 K s2 i j (by omega))) f4.2
            have fin6 : cpyN s4 0 0 5 0 47 9 6 0 0 = 0 := by rw [cpyN_out (by omega), f4.1 9 6 0 0 (by omega), f3 9 6 0 0 (by omega), g5 9 6 0 0 (by omega)]; exact g1
            have eu : cpyN s4 0 0 5 0 47 9 18 0 0 = unitA (hjA A a0 v7) := by rw [cpyN_out (by omega)]; exact u4
            have ff := f1.trans fin
            generalize cpyN s4 0 0 5 0 47 = s5 at fin fin6 eu ff
            have bp := pkF_s hV'.1.1 hS'
            have bu := unitA_s hV'.c hS'
            have bu1 := unitA_pos hV'.c D
            have yes : (v2 = -1 ∨ pkF (hjA A a0 v7) * v5 < v3 * unitA (hjA A a0 v7)) → f9_bestHinge_j134 (fun st v2x36 v3x36 v5x36 v7x36 => f9_bestHinge_l36 Q a0 m st v2x36 v3x36 v5x36 v7x36) Q a0 s5 v7 (pkF (hjA A a0 v7)) := fun y => by
              unfold f9_bestHinge_j134 f9_bestHinge_j146
              rw [eu]
              rintro _ rfl _ rfl
              exact ih (v7 + 1) v7 _ _ s5 (by omega) (by omega) (by omega) bp ⟨bu1, bu.2⟩ ff fin6 (fun r k => a7 r ⟨fun e => absurd e d, fun _ => ⟨fun _ => k, fun no => absurd ⟨⟨t, D⟩, y⟩ no⟩⟩) (by omega)
            refine ⟨iv, fun e => yes (Or.inl e), fun e => ?_⟩
            rw [eu]
            have q1 := mulB (show -1700000000000 ≤ pkF (hjA A a0 v7) by omega) bp.2 (show -648000 ≤ v5 by omega) a5.2
            have q2 := mulB (show -1700000000000 ≤ v3 by omega) a4.2 bu.1 bu.2
            refine ⟨⟨by omega, by omega⟩, ⟨by omega, by omega⟩, fun y => yes (Or.inr y), fun y => nx (fun k => ?_) s5 ff fin6⟩
            rcases k.2 with k | k
            · exact e k
            · exact y k
    exact ⟨100, L 100 1 (-1) 0 1 s0 (by omega) (by omega) (by omega) (by omega) (by omega) f6 e6 (fun _ k => k) (by omega)⟩
  · rw [if_neg c]
    refine ⟨Or.inl rfl, inI_0, fun _ => ?_, fun e => absurd rfl e⟩
    unfold f9_bestHinge_j14
    exact gate (by omega) (by omega) (fun e => absurd e (by omega)) (fun _ => hx (by omega) _ (FQ.up6 h3') (by rw [up_eq, if_pos ⟨rfl, rfl, rfl, rfl⟩]))
