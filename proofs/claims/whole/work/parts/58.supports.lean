/-! a support moved, on both sides -/
def spA (A : Int → Int) (n v : Int) : Int := cuN (fun k => dropA A 6 2 n (6 + 2 * k)) v (dropA A 6 2 n 2).toNat
def sjA (A : Int → Int) (n v : Int) : Int → Int := addS (dropA A 6 2 n) (spA A n v) v (A (6 + 2 * n + 1))
def skA (A : Int → Int) (n v : Int) : Prop := (∃ k, 0 ≤ k ∧ k < A 2 ∧ ¬ k = n ∧ A (6 + 2 * k) = v) ∨ ∃ k, 0 ≤ k ∧ k < A 3 ∧ A (16 + k) = v
def SG (A : Int → Int) : Prop := ∀ k, 0 ≤ k → k + 1 < A 2 → A (6 + 2 * k) < A (6 + 2 * (k + 1))
theorem SG.lt {A : Int → Int} (h : SG A) {i j : Int} (i0 : 0 ≤ i) (ij : i < j) (jn : j < A 2) : A (6 + 2 * i) < A (6 + 2 * j) := srt_lt (f := fun k => A (6 + 2 * k)) h i0 ij jn
theorem SG.inj {A : Int → Int} (h : SG A) {i j : Int} (i0 : 0 ≤ i) (i1 : i < A 2) (j0 : 0 ≤ j) (j1 : j < A 2) (e : A (6 + 2 * i) = A (6 + 2 * j)) : i = j := by
  by_cases c : i < j
  · have := h.lt i0 c j1; omega
  · by_cases d : j < i
    · have := h.lt j0 d i1; omega
    · omega
theorem VA.sg {A : Int → Int} (h : VA A) : SG A := h.1.1.2.2.1
theorem spA_b {A : Int → Int} (n v : Int) (h : 0 < A 2) : 0 ≤ spA A n v ∧ spA A n v ≤ A 2 - 1 := by
  have := cuN_b (fun k => dropA A 6 2 n (6 + 2 * k)) v (dropA A 6 2 n 2).toNat
  unfold spA
  rw [dropA_c] at this ⊢
  omega
theorem sjA_2 (A : Int → Int) (n v : Int) : sjA A n v 2 = A 2 := by
  unfold sjA
  rw [addS_2, dropA_c]
  omega
theorem sjA_ne {A : Int → Int} {n v j : Int} (h : 0 < A 2) (n0 : 0 ≤ n) (hj : ¬ j = 2 ∧ ¬ (6 ≤ j ∧ j < 6 + 2 * A 2)) : sjA A n v j = A j := by
  have hb := spA_b n v h
  have e3 := dropA_c A 6 2 n
  unfold sjA
  rw [addS_ne (by omega) (by omega), dropA_ne (by omega)]
theorem dropS_cell {A : Int → Int} {n k : Int} (n0 : 0 ≤ n) (n1 : n < A 2) (k0 : 0 ≤ k) (k1 : k < A 2 - 1) : ∃ i, 0 ≤ i ∧ i < A 2 ∧ ¬ i = n ∧ dropA A 6 2 n (6 + 2 * k) = A (6 + 2 * i) ∧ dropA A 6 2 n (6 + 2 * k + 1) = A (6 + 2 * i + 1) := by
  rw [dropS_f k0, dropS_g k0]
  by_cases c : n ≤ k ∧ k < A 2 - 1
  · rw [if_pos c, if_pos c]; exact ⟨k + 1, by omega, by omega, by omega, rfl, rfl⟩
  · rw [if_neg c, if_neg c]; exact ⟨k, by omega, by omega, by omega, rfl, rfl⟩
theorem dropS_has {A : Int → Int} {n i : Int} (n1 : n < A 2) (i0 : 0 ≤ i) (n0 : 0 ≤ n) (i1 : i < A 2) (ne : ¬ i = n) : ∃ k, 0 ≤ k ∧ k < A 2 - 1 ∧ dropA A 6 2 n (6 + 2 * k) = A (6 + 2 * i) := by
  by_cases c : i < n
  · refine ⟨i, i0, by omega, ?_⟩
    rw [dropS_f i0, if_neg (by omega)]
  · refine ⟨i - 1, by omega, by omega, ?_⟩
    rw [dropS_f (by omega), if_pos (by omega), show 6 + 2 * (i - 1 + 1) = 6 + 2 * i by omega]
theorem dropS_lt {A : Int → Int} {n : Int} (h : SG A) (n0 : 0 ≤ n) (n1 : n < A 2) : ∀ k, 0 ≤ k → k + 1 < A 2 - 1 → dropA A 6 2 n (6 + 2 * k) < dropA A 6 2 n (6 + 2 * (k + 1)) := by
  intro k k0 k1
  rw [dropS_f k0, dropS_f (show 0 ≤ k + 1 by omega)]
  by_cases c : n ≤ k ∧ k < A 2 - 1
  · rw [if_pos c, if_pos (by omega)]
    exact h (k + 1) (by omega) (by omega)
  · rw [if_neg c]
    by_cases d : n ≤ k + 1 ∧ k + 1 < A 2 - 1
    · rw [if_pos d]
      exact h.lt k0 (by omega) (by omega)
    · rw [if_neg d]
      exact h k k0 (by omega)
theorem sjA_f {A : Int → Int} {n v k : Int} (k0 : 0 ≤ k) : sjA A n v (6 + 2 * k) = if k = spA A n v then v else if spA A n v < k ∧ k ≤ A 2 - 1 then dropA A 6 2 n (6 + 2 * (k - 1)) else dropA A 6 2 n (6 + 2 * k) := by
  unfold sjA
  rw [addS_f k0, dropA_c]
theorem sjA_g {A : Int → Int} {n v k : Int} (k0 : 0 ≤ k) : sjA A n v (6 + 2 * k + 1) = if k = spA A n v then A (6 + 2 * n + 1) else if spA A n v < k ∧ k ≤ A 2 - 1 then dropA A 6 2 n (6 + 2 * (k - 1) + 1) else dropA A 6 2 n (6 + 2 * k + 1) := by
  unfold sjA
  rw [addS_g k0, dropA_c]
theorem sjA_cell {A : Int → Int} {n v k : Int} (n0 : 0 ≤ n) (n1 : n < A 2) (k0 : 0 ≤ k) (k1 : k < A 2) : (sjA A n v (6 + 2 * k) = v ∧ sjA A n v (6 + 2 * k + 1) = A (6 + 2 * n + 1)) ∨ ∃ i, 0 ≤ i ∧ i < A 2 ∧ ¬ i = n ∧ sjA A n v (6 + 2 * k) = A (6 + 2 * i) ∧ sjA A n v (6 + 2 * k + 1) = A (6 + 2 * i + 1) := by
  have hb := spA_b n v (show 0 < A 2 by omega)
  rw [sjA_f k0, sjA_g k0]
  by_cases c : k = spA A n v
  · rw [if_pos c, if_pos c]; exact Or.inl ⟨rfl, rfl⟩
  · rw [if_neg c, if_neg c]
    by_cases d : spA A n v < k ∧ k ≤ A 2 - 1
    · rw [if_pos d, if_pos d]; exact Or.inr (dropS_cell n0 n1 (by omega) (by omega))
    · rw [if_neg d, if_neg d]; exact Or.inr (dropS_cell n0 n1 k0 (by omega))
theorem spA_pos {A : Int → Int} {n v : Int} (h : SG A) (n0 : 0 ≤ n) (n1 : n < A 2) : (∀ k, 0 ≤ k → k < spA A n v → dropA A 6 2 n (6 + 2 * k) ≤ v) ∧ ∀ k, spA A n v ≤ k → k < A 2 - 1 → v < dropA A 6 2 n (6 + 2 * k) := by
  have h3 := dropA_c A 6 2 n
  have hl := dropS_lt h n0 n1
  have := cuN_pos (f := fun k => dropA A 6 2 n (6 + 2 * k)) (a := v) (dropA A 6 2 n 2).toNat (fun k k0 k1 => by have := hl k k0 (by omega); omega)
  exact ⟨this.1, fun k k0 k1 => this.2 k k0 (by omega)⟩
theorem sjA_SG {A : Int → Int} {n v : Int} (h : SG A) (n0 : 0 ≤ n) (n1 : n < A 2) (ht : ¬ skA A n v) : SG (sjA A n v) := by
  have e3 := sjA_2 A n v
  have hb := spA_b n v (show 0 < A 2 by omega)
  have hp := spA_pos (v := v) h n0 n1
  have hl := dropS_lt h n0 n1
  have hne : ∀ k, 0 ≤ k → k < A 2 - 1 → ¬ dropA A 6 2 n (6 + 2 * k) = v := fun k k0 k1 e => by
    obtain ⟨i, i0, i1, ne, ei, _⟩ := dropS_cell n0 n1 k0 k1
    exact ht (Or.inl ⟨i, i0, i1, ne, by rw [← ei]; exact e⟩)
  intro k k0 k1
  rw [e3] at k1
  rw [sjA_f k0, sjA_f (show 0 ≤ k + 1 by omega)]
  by_cases c : k = spA A n v
  · rw [if_pos c, if_neg (by omega), if_pos (by omega), show k + 1 - 1 = k by omega]
    exact hp.2 k (by omega) (by omega)
  · rw [if_neg c]
    by_cases d : k + 1 = spA A n v
    · rw [if_pos d, if_neg (by omega)]
      have := hp.1 k k0 (by omega)
      have := hne k k0 (by omega)
      omega
    · rw [if_neg d]
      by_cases g : spA A n v < k ∧ k ≤ A 2 - 1
      · rw [if_pos g, if_pos (by omega)]
        have := hl (k - 1) (by omega) (by omega)
        rw [show k - 1 + 1 = k by omega] at this
        rw [show k + 1 - 1 = k by omega]
        exact this
      · rw [if_neg g, if_neg (by omega)]
        exact hl k k0 (by omega)
theorem sjA_C {A : Int → Int} {n v : Int} (h : VC A) (n0 : 0 ≤ n) (n1 : n < A 2) (v0 : 0 ≤ v) (v1 : v ≤ A 0) : VC (sjA A n v) := by
  obtain ⟨a1, a2, a3, a4, a5, a6⟩ := h
  have p3 : 0 < A 2 := by omega
  have e0 : sjA A n v 0 = A 0 := sjA_ne p3 n0 (by omega)
  have e2 := sjA_2 A n v
  refine ⟨by omega, by omega, by omega, by omega, fun t t0 t1 => ?_, fun t t0 t1 => ?_⟩
  · rw [e2] at t1
    rcases sjA_cell (v := v) n0 n1 t0 t1 with e | ⟨i, i0, i1, _, e, _⟩
    · rw [e.1]; omega
    · rw [e]; exact a5 i i0 i1
  · rw [e2] at t1
    rw [sjA_ne p3 n0 (by omega)]
    exact a6 t t0 t1
theorem sjA_V {A : Int → Int} {n v : Int} (h : VA A) (n0 : 0 ≤ n) (n1 : n < A 2) (v0 : 0 ≤ v) (v1 : v ≤ A 0) (ht : ¬ skA A n v) (hD : ¬ DA (sjA A n v) (-1) 0 = 0) : VA (sjA A n v) := by
  have hs := sjA_SG h.sg n0 n1 ht
  obtain ⟨⟨⟨hC, f1, f2, f3, f4, f5, f6⟩, d1, d2⟩, g1, g2⟩ := h
  have n5 := hC.2.2.2.1
  have p3 : 0 < A 2 := by omega
  have e0 : sjA A n v 0 = A 0 := sjA_ne p3 n0 (by omega)
  have e1 : sjA A n v 1 = A 1 := sjA_ne p3 n0 (by omega)
  have e2 := sjA_2 A n v
  have e3 : sjA A n v 3 = A 3 := sjA_ne p3 n0 (by omega)
  have e4 : sjA A n v 4 = A 4 := sjA_ne p3 n0 (by omega)
  have e5 : sjA A n v 5 = A 5 := sjA_ne p3 n0 (by omega)
  refine ⟨⟨⟨sjA_C hC n0 n1 v0 v1, fun k k0 k1 => ?_, hs, by omega, by omega, fun k k0 k1 => ?_, fun k k0 k1 => ?_⟩, by omega, fun k k0 k1 => ?_⟩, by omega, hD⟩
  · rw [e2] at k1
    rw [e0]
    rcases sjA_cell (v := v) n0 n1 k0 k1 with e | ⟨i, i0, i1, _, e, _⟩
    · rw [e.1]; exact v1
    · rw [e]; exact f1 i i0 i1
  · rw [sjA_ne p3 n0 (by omega), sjA_ne p3 n0 (by omega), e0]; exact f5 k k0 (by omega)
  · rw [sjA_ne p3 n0 (by omega), sjA_ne p3 n0 (by omega)]; exact f6 k k0 (by omega)
  · rw [e2] at k1
    rcases sjA_cell (v := v) n0 n1 k0 k1 with e | ⟨i, i0, i1, _, _, e⟩
    · rw [e.2]; exact d2 n n0 n1
    · rw [e]; exact d2 i i0 i1
theorem HG_ag {A A' : Int → Int} (h : HG A) (e0 : A' 0 = A 0) (e3 : A' 3 = A 3) (ec : ∀ k, 0 ≤ k → k < A 3 → A' (16 + k) = A (16 + k)) : HG A' := by
  refine ⟨fun k k0 k1 => ?_, fun k k0 k1 => ?_⟩
  · rw [ec k k0 (by omega), e0]; exact h.1 k k0 (by omega)
  · rw [ec k k0 (by omega), ec (k + 1) (by omega) (by omega)]; exact h.2 k k0 (by omega)
theorem sjA_HG {A : Int → Int} {n v : Int} (h : HG A) (hV : VA A) (n0 : 0 ≤ n) (n1 : n < A 2) : HG (sjA A n v) := by
  have n5 := hV.c.2.2.2.1
  exact HG_ag h (sjA_ne (by omega) n0 (by omega)) (sjA_ne (by omega) n0 (by omega)) (fun k k0 k1 => sjA_ne (by omega) n0 (by omega))
theorem W8_moveSupport {A : Int → Int} {n : Int} {B : Int → Int → Int} {F : Int → Int} {S : Int → Int → Int} {Q : Int → St → Prop} {X : String → St → Prop} {st : St} {a0 a1 : Int} (h : CS st A n B F S) (h0 : inI a0) (h1 : inI a1) (hx : ¬ ((0 ≤ a0 ∧ a0 < A 2) ∧ 0 ≤ a1 ∧ a1 ≤ A 0) → X "java/lang/IndexOutOfBoundsException" st)
    (ht : 0 ≤ a0 ∧ a0 < A 2 → 0 ≤ a1 ∧ a1 ≤ A 0 → skA A a0 a1 → ∀ s, FC st s → CS s A n B F S → Q (-11) s) (hz : 0 ≤ a0 ∧ a0 < A 2 → 0 ≤ a1 ∧ a1 ≤ A 0 → ¬ skA A a0 a1 → DA (sjA A a0 a1) (-1) 0 = 0 → ∀ s, FC st s → CS s A n B F S → Q (-12) s)
    (hq : 0 ≤ a0 ∧ a0 < A 2 → 0 ≤ a1 ∧ a1 ≤ A 0 → ¬ skA A a0 a1 → ¬ DA (sjA A a0 a1) (-1) 0 = 0 → ∀ s, FC st s → CS s (sjA A a0 a1) (pushN n) (pushB n B A) F S → Q (spA A a0 a1) s) : f8_moveSupport Q X st a0 a1 := by
  have hV := h.1
  have h3 := hV.2.1
  have n2 := hV.c.2.2.1
  have n5 := hV.c.2.2.2.1
  have l3 := hV.c.2.1
  have p3 : 0 < A 2 := by omega
  unfold f8_moveSupport
  refine W8_needNumber h.2.1.2.2.1.1 h.2.1.2.2.1.2.1 h0 (fun c0 c1 => ?_) (fun c => hx (fun q => c q.1))
  refine W8_needPlace h.cr.2.1.1 hV.c h1 (fun v0 v1 => ?_) (fun c => hx (fun q => c q.2))
  have hb := spA_b a0 a1 p3
  have d2 := dropA_c A 6 2 a0
  have d3 : dropA A 6 2 a0 3 = A 3 := dropA_ne (by omega)
  refine W0_copyFrom (by omega) h.2.1 (fun s1 f1 b1 => ?_)
  refine W6_second b1.2.2.1.1 h0 (fun _ _ => ?_) (fun q => absurd ⟨c0, by rw [b1.2.2.1.2.1]; exact c1⟩ q)
  rw [(b1.2.2.1.2.2 a0 c0 c1).2]
  refine W6_remove b1.2.2.1.1 c0 (by rw [b1.2.2.1.2.1]; exact c1) ?_
  have b2 := b1.dS c0 c1 n5
  have f2 : FY st (remS s1 (4 * 1) a0) := fun K s i j hK => (remS_keep (by omega)).trans (f1 K s i j (by omega))
  generalize remS s1 (4 * 1) a0 = s2 at b2 f2
  have hin : ∀ k, 0 ≤ k → k < dropA A 6 2 a0 2 → inI (dropA A 6 2 a0 (6 + 2 * k)) := fun k k0 k1 => by
    obtain ⟨i, i0, i1, _, e, _⟩ := dropS_cell c0 c1 k0 (by omega)
    have := hV.pl i0 i1
    rw [e]
    exact inI_s (by omega) (by omega)
  have hs : ∀ k, 0 ≤ k → k < A 3 → dropA A 6 2 a0 (16 + k) = A (16 + k) := fun k k0 k1 => dropA_ne (by omega)
  refine W0_isTaken b2 hin (fun k k0 k1 => ?_) h1 (fun c => ?_) (fun c c' => ?_)
  · rw [hs k k0 (by omega)]
    have := hng_b hV k0 (show k < A 3 by omega)
    exact inI_s (by omega) (by omega)
  · refine ⟨inI_1, fun z => absurd z (by omega), fun _ => ht ⟨c0, c1⟩ ⟨v0, v1⟩ ?_ s2 f2.fc (h.fy f2)⟩
    rcases c with ⟨k, k0, k1, e⟩ | ⟨k, k0, k1, e⟩
    · obtain ⟨i, i0, i1, ne, ei, _⟩ := dropS_cell c0 c1 k0 (by omega)
      exact Or.inl ⟨i, i0, i1, ne, by rw [← ei]; exact e⟩
    · exact Or.inr ⟨k, k0, by omega, by rw [← hs k k0 (by omega)]; exact e⟩
  · have hn : ¬ skA A a0 a1 := fun q => by
      rcases q with ⟨i, i0, i1, ne, e⟩ | ⟨k, k0, k1, e⟩
      · obtain ⟨k, k0, k1, ek⟩ := dropS_has c1 i0 c0 i1 ne
        exact c k k0 (by omega) (by rw [ek]; exact e)
      · exact c' k k0 (by omega) (by rw [hs k k0 k1]; exact e)
    refine ⟨inI_0', fun _ => ?_, fun z => absurd rfl z⟩
    have i2 := b2.2.2.1.2.1
    have i3 := b2.2.2.1.2.2
    have rc := rcap_0 1
    refine W6_putInOrder b2.2.2.1.1 (fun k k0 k1 => by rw [i2] at k1; rw [(i3 k k0 k1).1]; exact hin k k0 k1) h1 (by rw [i2, rc]; omega) ?_
    have eP : cuN (s2 10 0 (4 * 1)) a1 (s2 6 2 (4 * 1) 0).toNat = spA A a0 a1 := by
      rw [i2]
      exact cuN_ext _ (fun k k0 k1 => (i3 k k0 (by omega)).1)
    rw [eP]
    have b4 := b2.aS (v := a1) (w := A (6 + 2 * a0 + 1)) hb.1 (show spA A a0 a1 ≤ dropA A 6 2 a0 2 by omega) (by omega)
    have f4 : FY st (insS s2 (4 * 1) (spA A a0 a1) a1 (A (6 + 2 * a0 + 1))) := fun K s i j hK => (insG_keep (by omega)).trans (f2 K s i j hK)
    generalize insS s2 (4 * 1) (spA A a0 a1) a1 (A (6 + 2 * a0 + 1)) = s4 at b4 f4
    have b5 : BH s4 1 (sjA A a0 a1) := b4
    have e2 := sjA_2 A a0 a1
    have e3 : sjA A a0 a1 3 = A 3 := sjA_ne p3 c0 (by omega)
    refine W3_reckon (b5.bf (by omega)).1 (sjA_C hV.c c0 c1 v0 v1) (fun s5 f5 z => ?_) (fun s5 f5 z l => ⟨inI_1, fun e => absurd e (by omega), fun _ => ?_⟩)
    · have f6 : FY st s5 := fun K s i j hK => (f5 K s i j (by omega)).trans (f4 K s i j hK)
      exact ⟨inI_0', fun _ => hz ⟨c0, c1⟩ ⟨v0, v1⟩ hn z s5 f6.fc (h.fy f6), fun e => absurd rfl e⟩
    · have f6 : FY st s5 := fun K s i j hK => (f5 K s i j (by omega)).trans (f4 K s i j hK)
      exact W8_takeTrial (h.fy f6) (b5.fr (fun K s i j hK => f5 K s i j (by omega))) (sjA_V hV c0 c1 v0 v1 hn z) (fun s' g' cs => hq ⟨c0, c1⟩ ⟨v0, v1⟩ hn z s' (f6.fc.trans g') cs)
theorem W9_moveSupport {A : Int → Int} {n : Int} {B : Int → Int → Int} {F : Int → Int} {S : Int → Int → Int} {Q : Int → St → Prop} {st : St} {a0 a1 : Int} (h : MS st A n B F S) (h0 : inI a0) (h1 : inI a1) (hx : ¬ ((0 ≤ a0 ∧ a0 < A 2) ∧ 0 ≤ a1 ∧ a1 ≤ A 0) → ∀ s, FQ st s → s 9 6 0 0 = 1 → Q 0 s)
    (ht : 0 ≤ a0 ∧ a0 < A 2 → 0 ≤ a1 ∧ a1 ≤ A 0 → skA A a0 a1 → ∀ s, FT st s → s 9 6 0 0 = 0 → Q (-11) s) (hz : 0 ≤ a0 ∧ a0 < A 2 → 0 ≤ a1 ∧ a1 ≤ A 0 → ¬ skA A a0 a1 → DA (sjA A a0 a1) (-1) 0 = 0 → ∀ s, FT st s → s 9 6 0 0 = 0 → Q (-12) s)
    (hq : 0 ≤ a0 ∧ a0 < A 2 → 0 ≤ a1 ∧ a1 ≤ A 0 → ¬ skA A a0 a1 → ¬ DA (sjA A a0 a1) (-1) 0 = 0 → ∀ s, FD st s → s 9 6 0 0 = 0 → MS s (sjA A a0 a1) (pushN n) (pushB n B A) F S → Q (spA A a0 a1) s) : f9_moveSupport Q st a0 a1 := by
  have hm := h
  have h3 := h.2.2.1
  have hV := h.2.1
  have hC := h.mr.1.1.1
  have n2 := hV.c.2.2.1
  have n5 := hV.c.2.2.2.1
  have l3 := hV.c.2.1
  have a3 := hV.2.1
  have m0 := mlen0
  have m1 := mlen1
  have e0 : st 30 0 0 0 = A 0 := congrFun h.1 0
  have e2 : st 30 0 0 2 = A 2 := congrFun h.1 2
  have bad : ¬ ((0 ≤ a0 ∧ a0 < A 2) ∧ 0 ≤ a1 ∧ a1 ≤ A 0) → f9_moveSupport_j21 Q a0 a1 st := fun c => by
    unfold f9_moveSupport_j21 f9_moveSupport_j22
    exact gate (by omega) (by omega) (fun e => absurd e (by omega)) (fun _ => hx c _ (FQ.up6 h3) (by rw [up_eq, if_pos ⟨rfl, rfl, rfl, rfl⟩]))
  have iH : ∀ k, 0 ≤ k → k < A 3 → inI (A (16 + k)) := fun k k0 k1 => by
    have := hng_b hV k0 k1
    exact inI_s (by omega) (by omega)
  have iS : ∀ k, 0 ≤ k → k < A 2 → inI (A (6 + 2 * k)) := fun k k0 k1 => by
    have := hV.pl k0 k1
    exact inI_s (by omega) (by omega)
  have go : (0 ≤ a0 ∧ a0 < A 2) → (0 ≤ a1 ∧ a1 ≤ A 0) → f9_moveSupport_j22 Q a0 a1 st 0 := fun c d => by
    unfold f9_moveSupport_j22
    refine gate (by omega) (by omega) (fun _ => ?_) (fun e => absurd e (by omega))
    have e6 : up st 9 6 0 0 0 9 6 0 0 = 0 := by rw [up_eq, if_pos ⟨rfl, rfl, rfl, rfl⟩]
    have f6 : FQ st (up st 9 6 0 0 0) := FQ.up6 h3
    generalize up st 9 6 0 0 0 = s at e6 f6
    have eA : aM s = A := f6.aM.trans h.1
    have hs := h.fq f6
    have J : ¬ skA A a0 a1 → f9_moveSupport_j62 Q a0 a1 s := fun t => by
      unfold f9_moveSupport_j62
      refine W9_copies (by omega) (by omega) (by omega) (by omega) (by omega) ?_
      have k1 : ∀ j, 0 ≤ j → j < 47 → cpyN s 1 0 0 0 47 30 0 1 j = A j := fun j j0 j1 => by
        have t2 := cpyN_in (st := s) (d := 1) (a := 0) (s := 0) (b := 0) (m := 47) j0 j1
        rw [Int.zero_add] at t2
        exact t2.trans (congrFun eA j)
      generalize es : cpyN s 1 0 0 0 47 = s1 at k1
      have g1 : ∀ K s' i j, ¬ (K = 30 ∧ i = 1) → s1 K s' i j = s K s' i j := fun K s' i j hK => by rw [← es]; exact cpyN_out (by omega)
      have eA1 : aM s1 = A := by
        rw [← eA]
        funext j
        exact g1 30 0 0 j (by omega)
      have m1s : MS s1 A n B F S := hs.ft ⟨fun K s' i j hK => g1 K s' i j (by omega), fun j => by rw [g1 37 0 0 j (by omega)]; exact f6.2 j⟩
      unfold f9_bearsOf
      have eb : s1 30 0 0 (6 + 2 * a0 + 1) = A (6 + 2 * a0 + 1) := congrFun eA1 _
      rw [eb]
      refine ⟨by omega, by omega, ?_⟩
      have dc := dropA_c A 6 2 a0
      refine W9_dropsSupport eA1 c.1 c.2 n5 (fun s2 f2 x2 => ?_)
      refine W9_addsSupport x2 (by omega) (by omega) (fun k k0 k1' => ?_) h1 (fun k k0 k1' => ?_) (fun s3 f3 x3 => ?_)
      · obtain ⟨i, i0, i1, _, e, _⟩ := dropS_cell c.1 c.2 k0 (by omega)
        rw [e]
        exact iS i i0 i1
      · have := dropS_lt hV.sg c.1 c.2 k k0 (by omega)
        omega
      · have x3' : aM s3 = sjA A a0 a1 := x3
        refine W9_isStanding (by rw [x3']; exact sjA_C hV.c c.1 c.2 d.1 d.2) (fun s4 f4 => ?_)
        rw [x3']
        have f34 : ∀ K s' i j, ¬ (K = 36 ∨ (K = 30 ∧ s' = 0 ∧ i = 0 ∧ 0 ≤ j ∧ j < 47)) → s4 K s' i j = s1 K s' i j := fun K s' i j hK => (f4 K s' i j (by omega)).trans ((f3 K s' i j (by omega)).trans (f2 K s' i j (by omega)))
        by_cases D : DA (sjA A a0 a1) (-1) 0 = 0
        · rw [if_pos D]
          refine ⟨inI_0', fun _ => ?_, fun q => absurd rfl q⟩
          refine W9_copies (by omega) (by omega) (by omega) (by omega) (by omega) ?_
          have fin : FN s (cpyN s4 0 0 1 0 47) := W9_aside eA es.symm f34
          exact hz c d t D _ (f6.ft.trans (fin.ft f6.2)) ((fin 9 6 0 0 (by omega)).trans e6)
        · rw [if_neg D]
          refine ⟨inI_1, fun q => absurd q (by omega), fun _ => ?_⟩
          have hV' := sjA_V hV c.1 c.2 d.1 d.2 t D
          have m3 : MS s3 (sjA A a0 a1) n B F S := m1s.to (fun K s' i j hK => (f3 K s' i j hK).trans (f2 K s' i j hK)) x3' hV'
          have m4 : MS s4 (sjA A a0 a1) n B F S := m3.ft ⟨fun K s' i j hK => f4 K s' i j (by omega), fun j => by rw [f4 37 0 0 j (by omega)]; exact m3.2.2.1 j⟩
          obtain ⟨w1, w2, w3, w4, w5, w6, w7, w8⟩ := m4
          have eN : nA (fun j => s4 30 0 1 j) = A := by
            rw [← nA_id hm.1 hm.2.2.2.1]
            refine nA_ext (fun j j0 j1 => ?_)
            rw [f34 30 0 1 j (by omega), k1 j j0 j1]
            exact (congrFun hm.1 j).symm
          refine W9_keeps (by omega) mlen1 w5 w6.1 w6.2 w7 (fun s5 f5 c5 k5 => ?_)
          rw [eN] at k5
          have x5 : aM s5 = sjA A a0 a1 := by
            rw [← w1]
            funext j
            exact f5 30 0 0 j (by omega)
          have m5 : MS s5 (sjA A a0 a1) (pushN n) (pushB n B A) F S := ⟨x5, w2, fun j => by rw [f5 37 0 0 j (by omega)]; exact w3 j, fun j hj => (f5 30 0 0 j (by omega)).trans (w4 j hj), c5, pushN_b w6, k5, fun i a b => ⟨(f5 34 0 0 i (by omega)).trans (w8 i a b).1, (w8 i a b).2.1, fun q => by rw [← (w8 i a b).2.2 q]; exact nA_ext (fun j _ _ => f5 30 0 3 _ (by omega))⟩⟩
          have fin : FD st s5 := fun K s' i j hK => (f5 K s' i j (by omega)).trans ((f34 K s' i j (by omega)).trans ((g1 K s' i j (by omega)).trans (f6.1 K s' i j (by omega))))
          have fin6 : s5 9 6 0 0 = 0 := (f5 9 6 0 0 (by omega)).trans ((f34 9 6 0 0 (by omega)).trans ((g1 9 6 0 0 (by omega)).trans e6))
          have hb := spA_b a0 a1 (show 0 < A 2 by omega)
          have z2 := sjA_2 A a0 a1
          have ep : sjA A a0 a1 (6 + 2 * spA A a0 a1) = a1 := by rw [sjA_f hb.1, if_pos rfl]
          refine W9_supportAt x5 (by omega) (fun k k0 k1' => ?_) h1 (fun k k0 k1' ek _ => ?_) (fun en => absurd ep (en _ hb.1 (by omega)))
          · have := hV'.pl k0 k1'
            exact inI_s (by omega) (by omega)
          · rw [hV'.sg.inj k0 k1' hb.1 (by omega) (ek.trans ep.symm)]
            exact hq c d t D s5 fin fin6 m5
    refine W9_supportAt eA (by omega) iS h1 (fun k k0 k1 ek _ => ?_) (fun es => ?_)
    · refine W9_hingeAt eA (by omega) iH h1 (fun i i0 i1 ei _ => ?_) (fun eh => ?_)
      · exact ⟨inI_s (by omega) (by omega), fun z => absurd z (by omega), fun _ => ht c d (Or.inr ⟨i, i0, i1, ei⟩) s f6.ft e6⟩
      · refine ⟨inI_s (by omega) (by omega), fun _ => ⟨inI_s (by omega) (by omega), fun z => absurd z (by omega), fun _ => ⟨inI_s (by omega) (by omega), h0, fun z => J (fun q => ?_), fun z => ht c d (Or.inl ⟨k, k0, k1, z, ek⟩) s f6.ft e6⟩⟩, fun z => absurd rfl z⟩
        rcases q with ⟨i, i0, i1, ne, ei⟩ | ⟨i, i0, i1, ei⟩
        · exact ne (by rw [hV.sg.inj i0 i1 k0 k1 (ei.trans ek.symm)]; exact z)
        · exact eh i i0 i1 ei
    · refine W9_hingeAt eA (by omega) iH h1 (fun i i0 i1 ei _ => ?_) (fun eh => ?_)
      · exact ⟨inI_s (by omega) (by omega), fun z => absurd z (by omega), fun _ => ht c d (Or.inr ⟨i, i0, i1, ei⟩) s f6.ft e6⟩
      · refine ⟨inI_s (by omega) (by omega), fun _ => ⟨inI_s (by omega) (by omega), fun _ => J (fun q => ?_), fun z => absurd rfl z⟩, fun z => absurd rfl z⟩
        rcases q with ⟨i, i0, i1, ne, ei⟩ | ⟨i, i0, i1, ei⟩
        · exact es i i0 i1 ei
        · exact eh i i0 i1 ei
  unfold f9_moveSupport
  refine W9_isSupport hC h0 ?_
  rw [e2]
  by_cases c : 0 ≤ a0 ∧ a0 < A 2
  · rw [if_pos c]
    refine ⟨inI_1, fun e => absurd e (by omega), fun _ => ?_⟩
    refine W9_isPlace hC h1 ?_
    rw [e0]
    by_cases d : 0 ≤ a1 ∧ a1 ≤ A 0
    · rw [if_pos d]
      exact ⟨inI_1, fun e => absurd e (by omega), fun _ => go c d⟩
    · rw [if_neg d]
      exact ⟨inI_0, fun _ => bad (fun q => d q.2), fun e => absurd rfl e⟩
  · rw [if_neg c]
    exact ⟨inI_0, fun _ => bad (fun q => c q.1), fun e => absurd rfl e⟩
