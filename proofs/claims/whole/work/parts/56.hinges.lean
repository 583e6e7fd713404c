/-! a hinge moved: the new beam -/
theorem srt_lt {f : Int → Int} {n : Int} (h : ∀ k, 0 ≤ k → k + 1 < n → f k < f (k + 1)) {i j : Int} (i0 : 0 ≤ i) (ij : i < j) (jn : j < n) : f i < f j := by
  have e1 := h i i0 (by omega)
  have e2 := srt_le (f := f) (n := n) (fun k k0 k1 => by have := h k k0 k1; omega) (j - (i + 1)).toNat (i + 1) (by omega) (by omega)
  rw [show i + 1 + ((j - (i + 1)).toNat : Int) = j by omega] at e2
  omega
theorem cuN_pos {f : Int → Int} {a : Int} : ∀ m : Nat, (∀ k : Int, 0 ≤ k → k + 1 < m → f k ≤ f (k + 1)) → (∀ k : Int, 0 ≤ k → k < cuN f a m → f k ≤ a) ∧ ∀ k : Int, cuN f a m ≤ k → k < m → a < f k := by
  intro m
  induction m with
  | zero => intro _; refine ⟨fun k k0 k1 => ?_, fun k k0 k1 => ?_⟩ <;> (have : cuN f a 0 = 0 := rfl; omega)
  | succ m ih =>
    intro h
    by_cases c : f m ≤ a
    · have al : ∀ k : Int, 0 ≤ k → k < ((m + 1 : Nat) : Int) → f k ≤ a := fun k k0 k1 => by
        have := srt_le (f := f) (n := ((m + 1 : Nat) : Int)) h ((m : Int) - k).toNat k k0 (by omega)
        rw [show k + (((m : Int) - k).toNat : Int) = (m : Int) by omega] at this
        omega
      have e := cuN_cut (f := f) (a := a) (m + 1) ((m + 1 : Nat) : Int) (by omega) (by omega) al (fun k k0 k1 => absurd k0 (by omega))
      rw [e]
      exact ⟨al, fun k k0 k1 => absurd k0 (by omega)⟩
    · have ih' := ih (fun k k0 k1 => h k k0 (by omega))
      unfold cuN
      rw [if_neg c, Int.add_zero]
      refine ⟨ih'.1, fun k k0 k1 => ?_⟩
      by_cases d : k = (m : Int)
      · rw [d]; omega
      · exact ih'.2 k k0 (by omega)
def HG (A : Int → Int) : Prop := (∀ k, 0 ≤ k → k < A 3 → 1 ≤ A (16 + k) ∧ A (16 + k) ≤ A 0 - 1) ∧ ∀ k, 0 ≤ k → k + 1 < A 3 → A (16 + k) < A (16 + (k + 1))
theorem HG.lt {A : Int → Int} (h : HG A) {i j : Int} (i0 : 0 ≤ i) (ij : i < j) (jn : j < A 3) : A (16 + i) < A (16 + j) := srt_lt (f := fun k => A (16 + k)) h.2 i0 ij jn
theorem HG.inj {A : Int → Int} (h : HG A) {i j : Int} (i0 : 0 ≤ i) (i1 : i < A 3) (j0 : 0 ≤ j) (j1 : j < A 3) (e : A (16 + i) = A (16 + j)) : i = j := by
  by_cases c : i < j
  · have := h.lt i0 c j1; omega
  · by_cases d : j < i
    · have := h.lt j0 d i1; omega
    · omega
def hpA (A : Int → Int) (n v : Int) : Int := cuN (fun k => dropH A n (16 + k)) v (dropH A n 3).toNat
def hjA (A : Int → Int) (n v : Int) : Int → Int := addH (dropH A n) (hpA A n v) v
/-- another support or hinge stands at v -/
def tkA (A : Int → Int) (n v : Int) : Prop := (∃ k, 0 ≤ k ∧ k < A 2 ∧ A (6 + 2 * k) = v) ∨ ∃ k, 0 ≤ k ∧ k < A 3 ∧ ¬ k = n ∧ A (16 + k) = v
theorem hpA_b {A : Int → Int} (n v : Int) (h : 0 < A 3) : 0 ≤ hpA A n v ∧ hpA A n v ≤ A 3 - 1 := by
  have := cuN_b (fun k => dropH A n (16 + k)) v (dropH A n 3).toNat
  unfold hpA
  rw [dropH_3] at this ⊢
  omega
theorem hjA_3 (A : Int → Int) (n v : Int) : hjA A n v 3 = A 3 := by
  unfold hjA
  rw [addH_3, dropH_3]
  omega
theorem hjA_ne {A : Int → Int} {n v j : Int} (h : 0 < A 3) (n0 : 0 ≤ n) (hj : ¬ j = 3 ∧ ¬ (16 ≤ j ∧ j < 16 + A 3)) : hjA A n v j = A j := by
  have hb := hpA_b n v h
  have e3 := dropH_3 A n
  unfold hjA
  rw [addH_ne (by omega) (by omega), dropH_ne (by omega)]
theorem dropH_cell {A : Int → Int} {n k : Int} (n0 : 0 ≤ n) (n1 : n < A 3) (k0 : 0 ≤ k) (k1 : k < A 3 - 1) : ∃ i, 0 ≤ i ∧ i < A 3 ∧ ¬ i = n ∧ dropH A n (16 + k) = A (16 + i) := by
  rw [dropH_in k0]
  by_cases c : n ≤ k ∧ k < A 3 - 1
  · rw [if_pos c]; exact ⟨k + 1, by omega, by omega, by omega, rfl⟩
  · rw [if_neg c]; exact ⟨k, by omega, by omega, by omega, rfl⟩
theorem dropH_has {A : Int → Int} {n i : Int} (n1 : n < A 3) (i0 : 0 ≤ i) (n0 : 0 ≤ n) (i1 : i < A 3) (ne : ¬ i = n) : ∃ k, 0 ≤ k ∧ k < A 3 - 1 ∧ dropH A n (16 + k) = A (16 + i) := by
  by_cases c : i < n
  · refine ⟨i, i0, by omega, ?_⟩
    rw [dropH_in i0, if_neg (by omega)]
  · refine ⟨i - 1, by omega, by omega, ?_⟩
    rw [dropH_in (by omega), if_pos (by omega), show 16 + (i - 1 + 1) = 16 + i by omega]
theorem dropH_lt {A : Int → Int} {n : Int} (h : HG A) (n0 : 0 ≤ n) (n1 : n < A 3) : ∀ k, 0 ≤ k → k + 1 < A 3 - 1 → dropH A n (16 + k) < dropH A n (16 + (k + 1)) := by
  intro k k0 k1
  rw [dropH_in k0, dropH_in (show 0 ≤ k + 1 by omega)]
  by_cases c : n ≤ k ∧ k < A 3 - 1
  · rw [if_pos c, if_pos (by omega)]
    exact h.2 (k + 1) (by omega) (by omega)
  · rw [if_neg c]
    by_cases d : n ≤ k + 1 ∧ k + 1 < A 3 - 1
    · rw [if_pos d]
      exact h.lt k0 (by omega) (by omega)
    · rw [if_neg d]
      exact h.2 k k0 (by omega)
theorem hjA_in {A : Int → Int} {n v k : Int} (k0 : 0 ≤ k) : hjA A n v (16 + k) = if k = hpA A n v then v else if hpA A n v < k ∧ k ≤ A 3 - 1 then dropH A n (16 + (k - 1)) else dropH A n (16 + k) := by
  unfold hjA
  rw [addH_in k0, dropH_3]
theorem hjA_cell {A : Int → Int} {n v k : Int} (n0 : 0 ≤ n) (n1 : n < A 3) (k0 : 0 ≤ k) (k1 : k < A 3) : hjA A n v (16 + k) = v ∨ ∃ i, 0 ≤ i ∧ i < A 3 ∧ ¬ i = n ∧ hjA A n v (16 + k) = A (16 + i) := by
  have hb := hpA_b n v (show 0 < A 3 by omega)
  rw [hjA_in k0]
  by_cases c : k = hpA A n v
  · rw [if_pos c]; exact Or.inl rfl
  · rw [if_neg c]
    by_cases d : hpA A n v < k ∧ k ≤ A 3 - 1
    · rw [if_pos d]; exact Or.inr (dropH_cell n0 n1 (by omega) (by omega))
    · rw [if_neg d]; exact Or.inr (dropH_cell n0 n1 k0 (by omega))
theorem hpA_pos {A : Int → Int} {n v : Int} (h : HG A) (n0 : 0 ≤ n) (n1 : n < A 3) : (∀ k, 0 ≤ k → k < hpA A n v → dropH A n (16 + k) ≤ v) ∧ ∀ k, hpA A n v ≤ k → k < A 3 - 1 → v < dropH A n (16 + k) := by
  have h3 := dropH_3 A n
  have hl := dropH_lt h n0 n1
  have := cuN_pos (f := fun k => dropH A n (16 + k)) (a := v) (dropH A n 3).toNat (fun k k0 k1 => by have := hl k k0 (by omega); omega)
  exact ⟨this.1, fun k k0 k1 => this.2 k k0 (by omega)⟩
theorem hjA_HG {A : Int → Int} {n v : Int} (h : HG A) (n0 : 0 ≤ n) (n1 : n < A 3) (v0 : 1 ≤ v) (v1 : v ≤ A 0 - 1) (ht : ¬ tkA A n v) : HG (hjA A n v) := by
  have e3 := hjA_3 A n v
  have e0 : hjA A n v 0 = A 0 := hjA_ne (by omega) n0 (by omega)
  have hb := hpA_b n v (show 0 < A 3 by omega)
  have hp := hpA_pos (v := v) h n0 n1
  have hl := dropH_lt h n0 n1
  have hne : ∀ k, 0 ≤ k → k < A 3 - 1 → ¬ dropH A n (16 + k) = v := fun k k0 k1 e => by
    obtain ⟨i, i0, i1, ne, ei⟩ := dropH_cell n0 n1 k0 k1
    exact ht (Or.inr ⟨i, i0, i1, ne, by rw [← ei]; exact e⟩)
  refine ⟨fun k k0 k1 => ?_, fun k k0 k1 => ?_⟩
  · rw [e3] at k1
    rw [e0]
    rcases hjA_cell (v := v) n0 n1 k0 k1 with e | ⟨i, i0, i1, _, e⟩
    · rw [e]; exact ⟨v0, v1⟩
    · rw [e]; exact h.1 i i0 i1
  · rw [e3] at k1
    rw [hjA_in k0, hjA_in (show 0 ≤ k + 1 by omega)]
    by_cases c : k = hpA A n v
    · rw [if_pos c, if_neg (by omega), if_pos (by omega), show k + 1 - 1 = k by omega]
      exact hp.2 k (by omega) (by omega)
    · rw [if_neg c]
      by_cases d : k + 1 = hpA A n v
      · rw [if_pos d, if_neg (by omega)]
        have := hp.1 k k0 (by omega)
        have := hne k k0 (by omega)
        omega
      · rw [if_neg d]
        by_cases g : hpA A n v < k ∧ k ≤ A 3 - 1
        · rw [if_pos g, if_pos (by omega)]
          have := hl (k - 1) (by omega) (by omega)
          rw [show k - 1 + 1 = k by omega] at this
          rw [show k + 1 - 1 = k by omega]
          exact this
        · rw [if_neg g, if_neg (by omega)]
          exact hl k k0 (by omega)
theorem hjA_C {A : Int → Int} {n v : Int} (h : VC A) (h3 : A 3 = A 2 - 2) (n0 : 0 ≤ n) (n1 : n < A 3) (v0 : 1 ≤ v) (v1 : v ≤ A 0 - 1) : VC (hjA A n v) := by
  obtain ⟨a1, a2, a3, a4, a5, a6⟩ := h
  have p3 : 0 < A 3 := by omega
  have e0 : hjA A n v 0 = A 0 := hjA_ne p3 n0 (by omega)
  have e2 : hjA A n v 2 = A 2 := hjA_ne p3 n0 (by omega)
  refine ⟨by omega, by omega, by omega, by omega, fun t t0 t1 => ?_, fun t t0 t1 => ?_⟩
  · rw [e2] at t1
    rw [hjA_ne p3 n0 (by omega)]
    exact a5 t t0 t1
  · rw [e2] at t1
    rcases hjA_cell (v := v) n0 n1 t0 (show t < A 3 by omega) with e | ⟨i, i0, i1, _, e⟩
    · rw [e]; omega
    · rw [e]; exact a6 i i0 (by omega)
theorem hjA_D {A : Int → Int} {n v : Int} (h : VD A) (h3 : A 3 = A 2 - 2) (n0 : 0 ≤ n) (n1 : n < A 3) (v0 : 1 ≤ v) (v1 : v ≤ A 0 - 1) : VD (hjA A n v) := by
  obtain ⟨⟨hC, f1, f2, f3, f4, f5, f6⟩, d1, d2⟩ := h
  have n5 := hC.2.2.2.1
  have p3 : 0 < A 3 := by omega
  have e0 : hjA A n v 0 = A 0 := hjA_ne p3 n0 (by omega)
  have e1 : hjA A n v 1 = A 1 := hjA_ne p3 n0 (by omega)
  have e2 : hjA A n v 2 = A 2 := hjA_ne p3 n0 (by omega)
  have e4 : hjA A n v 4 = A 4 := hjA_ne p3 n0 (by omega)
  have e5 : hjA A n v 5 = A 5 := hjA_ne p3 n0 (by omega)
  refine ⟨⟨hjA_C hC h3 n0 n1 v0 v1, fun k k0 k1 => ?_, fun k k0 k1 => ?_, by omega, by omega, fun k k0 k1 => ?_, fun k k0 k1 => ?_⟩, by omega, fun k k0 k1 => ?_⟩
  · rw [hjA_ne p3 n0 (by omega), e0]; exact f1 k k0 (by omega)
  · rw [hjA_ne p3 n0 (by omega), hjA_ne p3 n0 (by omega)]; exact f2 k k0 (by omega)
  · rw [hjA_ne p3 n0 (by omega), hjA_ne p3 n0 (by omega), e0]; exact f5 k k0 (by omega)
  · rw [hjA_ne p3 n0 (by omega), hjA_ne p3 n0 (by omega)]; exact f6 k k0 (by omega)
  · rw [hjA_ne p3 n0 (by omega)]; exact d2 k k0 (by omega)
theorem hjA_V {A : Int → Int} {n v : Int} (h : VA A) (n0 : 0 ≤ n) (n1 : n < A 3) (v0 : 1 ≤ v) (v1 : v ≤ A 0 - 1) (hD : ¬ DA (hjA A n v) (-1) 0 = 0) : VA (hjA A n v) := by
  have p3 : 0 < A 3 := by omega
  have e2 : hjA A n v 2 = A 2 := hjA_ne p3 n0 (by omega)
  have e3 := hjA_3 A n v
  have h3 := h.2.1
  exact ⟨hjA_D h.1 h3 n0 n1 v0 v1, by omega, hD⟩
/-- a trial in the class changes no more than this -/
def FY (st st' : St) : Prop := ∀ K s i j, ¬ (K = 18 ∨ (K = 0 ∧ i = 1) ∨ (K = 3 ∧ i = 1) ∨ ((K = 6 ∨ K = 10 ∨ K = 11) ∧ 4 ≤ i ∧ i < 8) ∨ (K = 20 ∧ 5 ≤ i ∧ i < 10)) → st' K s i j = st K s i j
theorem FY.fc {a b : St} (h : FY a b) : FC a b := fun K s i j hK => h K s i j (by omega)
theorem CS.fy {st st' : St} {A : Int → Int} {n : Int} {B : Int → Int → Int} {F : Int → Int} {S : Int → Int → Int} (h : CS st A n B F S) (hf : FY st st') : CS st' A n B F S := h.fr (fun K s i j hK => hf K s i j (by omega))
theorem VA.pl {A : Int → Int} (h : VA A) {k : Int} (k0 : 0 ≤ k) (k1 : k < A 2) : 0 ≤ A (6 + 2 * k) ∧ A (6 + 2 * k) ≤ 30 := h.c.2.2.2.2.1 k k0 k1
theorem W8_tryHingeAt {A : Int → Int} {n : Int} {B : Int → Int → Int} {F : Int → Int} {S : Int → Int → Int} {Q : Int → St → Prop} {st : St} {a0 a1 : Int} (h : CS st A n B F S) (hG : HG A) (c0 : 0 ≤ a0) (c1 : a0 < A 3) (v0 : 1 ≤ a1) (v1 : a1 ≤ A 0 - 1)
    (ht : tkA A a0 a1 → ∀ s, FY st s → Q (-11) s) (hz : ¬ tkA A a0 a1 → DA (hjA A a0 a1) (-1) 0 = 0 → ∀ s, FY st s → Q (-12) s)
    (hq : ¬ tkA A a0 a1 → ¬ DA (hjA A a0 a1) (-1) 0 = 0 → ∀ s, FY st s → BH s 1 (hjA A a0 a1) → LR s 1 (hjA A a0 a1) → Q (hpA A a0 a1) s) : f8_tryHingeAt Q st a0 a1 := by
  have hV := h.1
  have h3 := hV.2.1
  have n5 := hV.c.2.2.2.1
  have l3 := hV.c.2.1
  have p3 : 0 < A 3 := by omega
  have hb := hpA_b a0 a1 p3
  have d3 := dropH_3 A a0
  have d2 : dropH A a0 2 = A 2 := dropH_ne (by omega)
  have ia : inI a1 := inI_s (by omega) (by omega)
  unfold f8_tryHingeAt
  refine W0_copyFrom (by omega) h.2.1 (fun s1 f1 b1 => ?_)
  refine W6_remove b1.2.2.2.1.1 c0 (by rw [b1.2.2.2.1.2.1]; exact c1) ?_
  have b2 := b1.dH c0 c1 (by omega) n5
  have f2 : FY st (remS s1 (4 * 1 + 1) a0) := fun K s i j hK => (remS_keep (by omega)).trans (f1 K s i j (by omega))
  generalize remS s1 (4 * 1 + 1) a0 = s2 at b2 f2
  have hin : ∀ k, 0 ≤ k → k < dropH A a0 3 → inI (dropH A a0 (16 + k)) := fun k k0 k1 => by
    obtain ⟨i, i0, i1, _, e⟩ := dropH_cell c0 c1 k0 (by omega)
    have := hng_b hV i0 i1
    rw [e]
    exact inI_s (by omega) (by omega)
  have hs : ∀ k, 0 ≤ k → k < dropH A a0 2 → dropH A a0 (6 + 2 * k) = A (6 + 2 * k) := fun k k0 k1 => dropH_ne (by omega)
  refine W0_isTaken b2 (fun k k0 k1 => ?_) hin ia (fun c => ?_) (fun c c' => ?_)
  · rw [hs k k0 k1]
    have := hV.pl k0 (show k < A 2 by omega)
    exact inI_s (by omega) (by omega)
  · refine ⟨inI_1, fun z => absurd z (by omega), fun _ => ht ?_ s2 f2⟩
    rcases c with ⟨k, k0, k1, e⟩ | ⟨k, k0, k1, e⟩
    · exact Or.inl ⟨k, k0, by omega, by rw [← hs k k0 k1]; exact e⟩
    · obtain ⟨i, i0, i1, ne, ei⟩ := dropH_cell c0 c1 k0 (by omega)
      exact Or.inr ⟨i, i0, i1, ne, by rw [← ei]; exact e⟩
  · have hn : ¬ tkA A a0 a1 := fun q => by
      rcases q with ⟨k, k0, k1, e⟩ | ⟨i, i0, i1, ne, e⟩
      · exact c k k0 (by omega) (by rw [hs k k0 (by omega)]; exact e)
      · obtain ⟨k, k0, k1, ek⟩ := dropH_has c1 i0 c0 i1 ne
        exact c' k k0 (by omega) (by rw [ek]; exact e)
    refine ⟨inI_0', fun _ => ?_, fun z => absurd rfl z⟩
    have i2 := b2.2.2.2.1.2.1
    have i3 := b2.2.2.2.1.2.2
    have rc := rcap_1 1
    refine W6_putInOrder b2.2.2.2.1.1 (fun k k0 k1 => by rw [i2] at k1; rw [i3 k k0 k1]; exact hin k k0 k1) ia (by rw [i2, rc]; omega) ?_
    have eP : cuN (s2 10 0 (4 * 1 + 1)) a1 (s2 6 2 (4 * 1 + 1) 0).toNat = hpA A a0 a1 := by
      rw [i2]
      exact cuN_ext _ (fun k k0 k1 => i3 k k0 (by omega))
    rw [eP]
    have b4 := b2.aH (v := a1) (w := 0) hb.1 (show hpA A a0 a1 ≤ dropH A a0 3 by omega) (by omega) (by omega)
    have f4 : FY st (insS s2 (4 * 1 + 1) (hpA A a0 a1) a1 0) := fun K s i j hK => (insG_keep (by omega)).trans (f2 K s i j hK)
    generalize insS s2 (4 * 1 + 1) (hpA A a0 a1) a1 0 = s4 at b4 f4
    have b5 : BH s4 1 (hjA A a0 a1) := b4
    have e2 : hjA A a0 a1 2 = A 2 := hjA_ne p3 c0 (by omega)
    have e3 := hjA_3 A a0 a1
    refine W3_reckon (b5.bf (by omega)).1 (hjA_C hV.c h3 c0 c1 v0 v1) (fun s5 f5 z => ⟨inI_0', fun _ => hz hn z s5 (fun K s i j hK => (f5 K s i j (by omega)).trans (f4 K s i j hK)), fun e => absurd rfl e⟩) (fun s5 f5 z l => ⟨inI_1, fun e => absurd e (by omega), fun _ => ?_⟩)
    exact hq hn z s5 (fun K s i j hK => (f5 K s i j (by omega)).trans (f4 K s i j hK)) (b5.fr (fun K s i j hK => f5 K s i j (by omega))) l
theorem W8_needHingePlace {A : Int → Int} {Q : St → Prop} {X : String → St → Prop} {st : St} {v : Int} (hB : BH st 0 A) (hC : VC A) (hv : inI v) (hq : 1 ≤ v → v ≤ A 0 - 1 → Q st) (hx : ¬ (1 ≤ v ∧ v ≤ A 0 - 1) → X "java/lang/IllegalArgumentException" st) : f8_needHingePlace Q X st v := by
  have l2 := hC.1
  have l3 := hC.2.1
  unfold f8_needHingePlace
  rw [hB.1]
  exact W8_needRange hv inI_1 (inI_s (by omega) (by omega)) hq hx
theorem W8_tryHinge {A : Int → Int} {n : Int} {B : Int → Int → Int} {F : Int → Int} {S : Int → Int → Int} {Q : Int → St → Prop} {X : String → St → Prop} {st : St} {a0 a1 : Int} (h : CS st A n B F S) (hG : HG A) (h0 : inI a0) (h1 : inI a1) (hx : ¬ (0 ≤ a0 ∧ a0 < A 3) → X "java/lang/IndexOutOfBoundsException" st) (hy : 0 ≤ a0 ∧ a0 < A 3 → ¬ (1 ≤ a1 ∧ a1 ≤ A 0 - 1) → X "java/lang/IllegalArgumentException" st)
    (ht : 0 ≤ a0 ∧ a0 < A 3 → 1 ≤ a1 ∧ a1 ≤ A 0 - 1 → tkA A a0 a1 → ∀ s, FC st s → CS s A n B F S → Q (-11) s) (hz : 0 ≤ a0 ∧ a0 < A 3 → 1 ≤ a1 ∧ a1 ≤ A 0 - 1 → ¬ tkA A a0 a1 → DA (hjA A a0 a1) (-1) 0 = 0 → ∀ s, FC st s → CS s A n B F S → Q (-12) s)
    (hq : 0 ≤ a0 ∧ a0 < A 3 → 1 ≤ a1 ∧ a1 ≤ A 0 - 1 → ¬ tkA A a0 a1 → ¬ DA (hjA A a0 a1) (-1) 0 = 0 → ∀ s, FC st s → CS s A n B F S → Q 0 s) : f8_tryHinge Q X st a0 a1 := by
  have b := h.2.1.2.2.2.1
  unfold f8_tryHinge
  refine W8_needNumber b.1 b.2.1 h0 (fun c d => ?_) hx
  refine W8_needHingePlace h.2.1 h.1.c h1 (fun e f => ?_) (hy ⟨c, d⟩)
  have hb := hpA_b a0 a1 (show 0 < A 3 by omega)
  have n5 := h.1.c.2.2.2.1
  have h3 := h.1.2.1
  refine W8_tryHingeAt h hG c d e f (fun t s g => ⟨inI_s (by omega) (by omega), fun z => absurd z (by omega), fun _ => ht ⟨c, d⟩ ⟨e, f⟩ t s g.fc (h.fy g)⟩) (fun t D s g => ⟨inI_s (by omega) (by omega), fun z => absurd z (by omega), fun _ => hz ⟨c, d⟩ ⟨e, f⟩ t D s g.fc (h.fy g)⟩) (fun t D s g _ _ => ⟨inI_s (by omega) (by omega), fun _ => hq ⟨c, d⟩ ⟨e, f⟩ t D s g.fc (h.fy g), fun z => absurd hb.1 z⟩)
theorem W8_takeTrial {A A' : Int → Int} {n : Int} {B : Int → Int → Int} {F : Int → Int} {S : Int → Int → Int} {Q : St → Prop} {st : St} (h : CS st A n B F S) (hB : BH st 1 A') (hV : VA A') (hq : ∀ s, FC st s → CS s A' (pushN n) (pushB n B A) F S → Q s) : f8_takeTrial Q st := by
  unfold f8_takeTrial
  refine W8_remember h (fun s1 f1 c1 => ?_)
  obtain ⟨h1, h2, h3, h4, h5, h6⟩ := c1
  refine W0_copyFrom (A := A') (by omega) (hB.fr (fun K s i j hK => f1 K s i j (by omega))) (fun s2 f2 b2 => ?_)
  refine W3_reckon (b2.bf hV.2.1).1 hV.c (fun s f z => absurd z hV.2.2) (fun s f _ l => ?_)
  have bs : BH s 0 A' := b2.fr (fun K s2 i j hK => f K s2 i j (by omega))
  have g : ∀ K s' i j, ¬ ((K = 0 ∧ i = 0) ∨ K = 3 ∨ K = 18 ∨ K = 20 ∨ ((K = 6 ∨ K = 10 ∨ K = 11) ∧ 0 ≤ i ∧ i < 4)) → s K s' i j = s1 K s' i j := fun K s' i j hK => (f K s' i j (by omega)).trans (f2 K s' i j (by omega))
  exact hq s (f1.fc.trans (fun K s' i j hK => g K s' i j (by omega))) ⟨hV, bs, l, h4.fr (fun K s' i j hK => g K s' i j (by omega)), h5, fun i i0 i1 => ⟨(g 27 0 0 i (by omega)).trans (h6 i i0 i1).1, (h6 i i0 i1).2.1, fun q => ⟨((h6 i i0 i1).2.2 q).1.fr (fun K s' i' j hK => g K s' i' j (by omega)), ((h6 i i0 i1).2.2 q).2⟩⟩⟩
theorem W8_moveHinge {A : Int → Int} {n : Int} {B : Int → Int → Int} {F : Int → Int} {S : Int → Int → Int} {Q : Int → St → Prop} {X : String → St → Prop} {st : St} {a0 a1 : Int} (h : CS st A n B F S) (hG : HG A) (h0 : inI a0) (h1 : inI a1) (hx : ¬ (0 ≤ a0 ∧ a0 < A 3) → X "java/lang/IndexOutOfBoundsException" st) (hy : 0 ≤ a0 ∧ a0 < A 3 → ¬ (1 ≤ a1 ∧ a1 ≤ A 0 - 1) → X "java/lang/IllegalArgumentException" st)
    (ht : 0 ≤ a0 ∧ a0 < A 3 → 1 ≤ a1 ∧ a1 ≤ A 0 - 1 → tkA A a0 a1 → ∀ s, FC st s → CS s A n B F S → Q (-11) s) (hz : 0 ≤ a0 ∧ a0 < A 3 → 1 ≤ a1 ∧ a1 ≤ A 0 - 1 → ¬ tkA A a0 a1 → DA (hjA A a0 a1) (-1) 0 = 0 → ∀ s, FC st s → CS s A n B F S → Q (-12) s)
    (hq : 0 ≤ a0 ∧ a0 < A 3 → 1 ≤ a1 ∧ a1 ≤ A 0 - 1 → ¬ tkA A a0 a1 → ¬ DA (hjA A a0 a1) (-1) 0 = 0 → ∀ s, FC st s → CS s (hjA A a0 a1) (pushN n) (pushB n B A) F S → Q (hpA A a0 a1) s) : f8_moveHinge Q X st a0 a1 := by
  have b := h.2.1.2.2.2.1
  unfold f8_moveHinge
  refine W8_needNumber b.1 b.2.1 h0 (fun c d => ?_) hx
  refine W8_needHingePlace h.2.1 h.1.c h1 (fun e f => ?_) (hy ⟨c, d⟩)
  have hb := hpA_b a0 a1 (show 0 < A 3 by omega)
  have n5 := h.1.c.2.2.2.1
  have h3 := h.1.2.1
  refine W8_tryHingeAt h hG c d e f (fun t s g => ⟨inI_s (by omega) (by omega), fun _ => ht ⟨c, d⟩ ⟨e, f⟩ t s g.fc (h.fy g), fun z => absurd (by omega) z⟩) (fun t D s g => ⟨inI_s (by omega) (by omega), fun _ => hz ⟨c, d⟩ ⟨e, f⟩ t D s g.fc (h.fy g), fun z => absurd (by omega) z⟩) (fun t D s g bh _ => ⟨inI_s (by omega) (by omega), fun z => absurd hb.1 (by omega), fun _ => ?_⟩)
  exact W8_takeTrial (h.fy g) bh (hjA_V h.1 c d e f D) (fun s' g' cs => hq ⟨c, d⟩ ⟨e, f⟩ t D s' (g.fc.trans g') cs)
