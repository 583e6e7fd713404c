theorem prk_S {M : Int → Int → Int} {k : Int} (hk : 0 ≤ k) : prk M (k + 1) = bdk M k k k := by
  unfold prk
  rw [if_neg (by omega), show k + 1 - 1 = k by omega]
def EL (st0 s : St) (n : Int) (M : Int → Int → Int) (k i j : Int) : Prop := F36 st0 s ∧ ∀ i' j', k ≤ i' → i' < n → k ≤ j' → j' < n → sqM s n i' j' = if k < i' ∧ k < j' ∧ (i' < i ∨ (i' = i ∧ j' < j)) then bdk M (k + 1) i' j' else bdk M k i' j'
theorem det_l73 {B8 : St → Int → Int → Int → Prop} {B61 : St → Int → Prop} {Q : Int → St → Prop} {st0 : St} {n k i sign before : Int} {M : Int → Int → Int} (hn : 2 ≤ n) (hn5 : n ≤ 5) (hk : 0 ≤ k) (hk2 : k ≤ n - 2) (hi : k < i) (hi2 : i < n) (hM : MB M) (hbe : before = prk M k) (hb0 : ¬ before = 0) (hB : ∀ s, EL st0 s n M k i n → B61 s (i + 1)) :
    ∀ (m : Nat) (j : Int) (s : St), k + 1 ≤ j → j ≤ n → EL st0 s n M k i j → n - j < m → f9_determinant_l73 B8 B61 Q n sign before k i m s j := by
  intro m
  induction m with
  | zero => intro j s a1 a2 a3 a4; omega
  | succ m ih =>
    intro j s a1 a2 a3 a4
    unfold f9_determinant_l73
    refine ⟨inI_s (by omega) (by omega), inI_s (by omega) (by omega), fun c => ?_, fun c => ?_⟩
    · rintro _ rfl
      have : j = n := by omega
      subst this
      exact hB s a3
    · have x1 := ix_b hn hn5 (show 0 ≤ i by omega) hi2 (show 0 ≤ j by omega) (show j < n by omega)
      have x2 := ix_b hn hn5 hk (show k < n by omega) hk (show k < n by omega)
      have x3 := ix_b hn hn5 (show 0 ≤ i by omega) hi2 hk (show k < n by omega)
      have x4 := ix_b hn hn5 hk (show k < n by omega) (show 0 ≤ j by omega) (show j < n by omega)
      have e1 : s 36 0 0 ((n * i) + j) = bdk M k i j := (a3.2 i j (by omega) hi2 (by omega) (by omega)).trans (if_neg (by omega))
      have e2 : s 36 0 0 ((n * k) + k) = bdk M k k k := (a3.2 k k (by omega) (by omega) (by omega) (by omega)).trans (if_neg (by omega))
      have e3 : s 36 0 0 ((n * i) + k) = bdk M k i k := (a3.2 i k (by omega) hi2 (by omega) (by omega)).trans (if_neg (by omega))
      have e4 : s 36 0 0 ((n * k) + j) = bdk M k k j := (a3.2 k j (by omega) (by omega) (by omega) (by omega)).trans (if_neg (by omega))
      have ex := bd_syl (M := M) (i := i) (j := j) hk (show k ≤ 3 by omega)
      have bk := fun a b => bdk_b hM (show k ≤ 3 by omega) hk a b
      have p1 := mulB (bk i j).1 (bk i j).2 (bk k k).1 (bk k k).2
      have p2 := mulB (bk i k).1 (bk i k).2 (bk k j).1 (bk k j).2
      have hbl : inL before := by
        rw [hbe]
        unfold prk
        split
        · exact inL_s (by omega) (by omega)
        · have := bdk_b4 hM (k := k - 1) (k - 1) (k - 1)
          exact inL_s (by omega) (by omega)
      rw [e1, e2, e3, e4]
      refine ⟨x1.1, x1.2, x2.1, x2.2, x3.1, x3.2, x4.1, x4.2, inL_s (by omega) (by omega), hbl, hb0, x1.1, x1.2, ?_⟩
      rintro _ rfl _ rfl
      have hq : Int.tdiv (bdk M k i j * bdk M k k k - bdk M k i k * bdk M k k j) before = bdk M (k + 1) i j := by
        rw [ex, hbe]
        exact Int.mul_tdiv_cancel_left _ (by rw [← hbe]; exact hb0)
      rw [hq]
      refine ih (j + 1) _ (by omega) (by omega) ⟨a3.1.up, fun i' j' i0 i1 j0 j1 => ?_⟩ (by omega)
      rw [sqM_up hn hn5 (by omega) (by omega) (by omega) j1, a3.2 i' j' i0 i1 j0 j1]
      by_cases h : i' = i ∧ j' = j
      · rw [if_pos h, if_pos (by omega), h.1, h.2]
      · rw [if_neg h]
        by_cases h2 : k < i' ∧ k < j' ∧ (i' < i ∨ (i' = i ∧ j' < j))
        · rw [if_pos h2, if_pos (by omega)]
        · rw [if_neg h2, if_neg (by omega)]
theorem det_l61 {B8 : St → Int → Int → Int → Prop} {Q : Int → St → Prop} {st0 : St} {n k sign before : Int} {M : Int → Int → Int} (hn : 2 ≤ n) (hn5 : n ≤ 5) (hk : 0 ≤ k) (hk2 : k ≤ n - 2) (hM : MB M) (hbe : before = prk M k) (hb0 : ¬ before = 0) (hB : ∀ s, EL st0 s n M k n (k + 1) → B8 s sign (bdk M k k k) (k + 1)) :
    ∀ (m : Nat) (i : Int) (s : St), k + 1 ≤ i → i ≤ n → EL st0 s n M k i (k + 1) → n - i < m → f9_determinant_l61 B8 Q n sign before k m s i := by
  intro m
  induction m with
  | zero => intro i s a1 a2 a3 a4; omega
  | succ m ih =>
    intro i s a1 a2 a3 a4
    unfold f9_determinant_l61
    refine ⟨inI_s (by omega) (by omega), inI_s (by omega) (by omega), fun c => ?_, fun c => ?_⟩
    · have : i = n := by omega
      subst this
      have x2 := ix_b hn hn5 hk (show k < i by omega) hk (show k < i by omega)
      have e2 : s 36 0 0 ((i * k) + k) = bdk M k k k := (a3.2 k k (by omega) (by omega) (by omega) (by omega)).trans (if_neg (by omega))
      refine ⟨x2.1, x2.2, ?_⟩
      rintro _ rfl _ rfl
      rw [e2]
      exact hB s a3
    · rintro _ rfl
      refine ⟨100, det_l73 hn hn5 hk hk2 (by omega) (by omega) hM hbe hb0 (fun s' hs' => ?_) 100 (k + 1) s (by omega) (by omega) a3 (by omega)⟩
      refine ih (i + 1) s' (by omega) (by omega) ⟨hs'.1, fun i' j' i0 i1 j0 j1 => ?_⟩ (by omega)
      rw [hs'.2 i' j' i0 i1 j0 j1]
      by_cases h2 : k < i' ∧ k < j' ∧ (i' < i ∨ (i' = i ∧ j' < n))
      · rw [if_pos h2, if_pos (by omega)]
      · rw [if_neg h2, if_neg (by omega)]
def DI (st0 : St) (n : Int) (M0 : Int → Int → Int) (k sign before : Int) (st : St) : Prop := F36 st0 st ∧ ∃ M, MB M ∧ (sign = 1 ∨ sign = -1) ∧ dtn M n = sign * dtn M0 n ∧ (∀ i j, k ≤ i → i < n → k ≤ j → j < n → sqM st n i j = bdk M k i j) ∧ before = prk M k ∧ ¬ before = 0
theorem F36.trans {a b c : St} (h : F36 a b) (g : F36 b c) : F36 a c := fun K s i j hK => (g K s i j hK).trans (h K s i j hK)
theorem det_j46 {B8 : St → Int → Int → Int → Prop} {Q : Int → St → Prop} {st0 st : St} {n k p sign before : Int} {M : Int → Int → Int} (hn : 2 ≤ n) (hn5 : n ≤ 5) (hk : 0 ≤ k) (hk2 : k ≤ n - 2) (hp : k ≤ p) (hp2 : p < n) (hM : MB M) (hbe : before = prk M k) (hb0 : ¬ before = 0) (hF : F36 st0 st) (hsq : ∀ i j, k ≤ i → i < n → k ≤ j → j < n → sqM st n i j = bdk M k i j)
    (hB : ∀ s, EL st0 s n (swM M k p) k n (k + 1) → B8 s sign (bdk (swM M k p) k k k) (k + 1)) : f9_determinant_j46 B8 Q n st sign before k p := by
  unfold f9_determinant_j46
  refine W9_changes hn hn5 hk (by omega) (by omega) hp2 (fun st' hF' hs' => ?_)
  rintro _ rfl
  have hprk : prk (swM M k p) k = prk M k := by
    unfold prk
    by_cases h0 : k = 0
    · rw [if_pos h0, if_pos h0]
    · rw [if_neg h0, if_neg h0]
      obtain rfl | rfl | rfl : k = 1 ∨ k = 2 ∨ k = 3 := by omega
      · show M (if (0 : Int) = 1 then p else if (0 : Int) = p then 1 else 0) 0 = M 0 0
        rw [if_neg (by omega), if_neg (by omega)]
      · show dt2 (swM M 2 p) 0 1 0 1 = dt2 M 0 1 0 1
        unfold dt2 swM
        rw [if_neg (show ¬ (0 : Int) = 2 by omega), if_neg (show ¬ (0 : Int) = p by omega), if_neg (show ¬ (1 : Int) = 2 by omega), if_neg (show ¬ (1 : Int) = p by omega)]
      · show dt3 (swM M 3 p) 0 1 2 0 1 2 = dt3 M 0 1 2 0 1 2
        unfold dt3 dt2 swM
        rw [if_neg (show ¬ (0 : Int) = 3 by omega), if_neg (show ¬ (0 : Int) = p by omega), if_neg (show ¬ (1 : Int) = 3 by omega), if_neg (show ¬ (1 : Int) = p by omega), if_neg (show ¬ (2 : Int) = 3 by omega), if_neg (show ¬ (2 : Int) = p by omega)]
  refine ⟨100, det_l61 hn hn5 hk hk2 (swM_B hM k p) (by rw [hprk]; exact hbe) hb0 hB 100 (k + 1) st' (by omega) (by omega) ⟨hF.trans hF', fun i' j' i0 i1 j0 j1 => ?_⟩ (by omega)⟩
  rw [if_neg (by omega), hs' i' j' (by omega) j1, bdk_sw hk (by omega) hp]
  refine hsq _ j' ?_ ?_ j0 j1
  · split
    · omega
    · split <;> omega
  · split
    · omega
    · split <;> omega
theorem bdk_swkk {M : Int → Int → Int} {k p j : Int} (hk : 0 ≤ k) (hk4 : k ≤ 4) (hp : k ≤ p) : bdk (swM M k p) k k j = bdk M k p j := by
  rw [bdk_sw hk hk4 hp, if_pos rfl]
theorem det_l8 {Q : Int → St → Prop} {st0 : St} {n : Int} {M0 : Int → Int → Int} (hn : 2 ≤ n) (hn5 : n ≤ 5) (hQ : ∀ s, F36 st0 s → Q (dtn M0 n) s) :
    ∀ (m : Nat) (k sign before : Int) (s : St), 0 ≤ k → k ≤ n - 1 → DI st0 n M0 k sign before s → n - k < m → f9_determinant_l8 Q n m s sign before k := by
  intro m
  induction m with
  | zero => intro k sign before s a1 a2 a3 a4; omega
  | succ m ih =>
    intro k sign before s a1 a2 a3 a4
    obtain ⟨hF, M, hM, hsg, hdt, hsq, hbe, hb0⟩ := a3
    have hkI : inI k := inI_s (by omega) (by omega)
    have hnI : inI n := inI_s (by omega) (by omega)
    unfold f9_determinant_l8
    refine ⟨hkI, inI_s (by omega) (by omega), fun c => ?_, fun c => ?_⟩
    · have hk : k = n - 1 := by omega
      have hix : (n * n) - 1 = n * (n - 1) + (n - 1) := by
        obtain rfl | rfl | rfl | rfl : n = 2 ∨ n = 3 ∨ n = 4 ∨ n = 5 := by omega
        all_goals omega
      have x1 := ix_b hn hn5 (show 0 ≤ n - 1 by omega) (show n - 1 < n by omega) (show 0 ≤ n - 1 by omega) (show n - 1 < n by omega)
      have e1 : s 36 0 0 ((n * n) - 1) = dtn M n := by
        rw [hix]
        exact hsq (n - 1) (n - 1) (by omega) (by omega) (by omega) (by omega) |>.trans (by rw [hk]; rfl)
      refine ⟨by omega, by omega, ?_⟩
      rw [e1, hdt]
      have e2 : sign * (sign * dtn M0 n) = dtn M0 n := by
        rcases hsg with rfl | rfl <;> omega
      rw [e2]
      exact hQ s hF
    · have hk3 : k ≤ 3 := by omega
      refine W9_pivotOf hn hn5 a1 (by omega) (fun i i0 i1 => ?_) (fun p p0 p1 hp => ?_) (fun hz => ?_)
      · rw [hsq i k i0 i1 (by omega) (by omega)]
        have := bdk_b hM hk3 a1 i k
        exact inL_s (by omega) (by omega)
      · have hpI : inI p := inI_s (by omega) (by omega)
        rw [hsq p k p0 p1 (by omega) (by omega)] at hp
        refine ⟨hpI, hnI, fun e => absurd e (by omega), fun _ => ⟨hpI, hkI, fun e => ?_, fun e => ?_⟩⟩
        · subst e
          refine det_j46 hn hn5 a1 (by omega) p0 p1 hM hbe hb0 hF hsq (fun s' hs' => ?_)
          rw [swM_self] at hs' ⊢
          refine ih (p + 1) sign _ s' (by omega) (by omega) ⟨hs'.1, M, hM, hsg, hdt, fun i j i0 i1 j0 j1 => ?_, (prk_S a1).symm, hp⟩ (by omega)
          rw [hs'.2 i j (by omega) i1 (by omega) j1, if_pos (by omega)]
        · rintro _ rfl
          refine det_j46 hn hn5 a1 (by omega) p0 p1 hM hbe hb0 hF hsq (fun s' hs' => ?_)
          refine ih (k + 1) (-sign) _ s' (by omega) (by omega) ⟨hs'.1, swM M k p, swM_B hM k p, by omega, ?_, fun i j i0 i1 j0 j1 => ?_, (prk_S a1).symm, ?_⟩ (by omega)
          · rw [dtn_sw hn hn5 a1 (by omega) p1, hdt, Int.neg_mul]
          · rw [hs'.2 i j (by omega) i1 (by omega) j1, if_pos (by omega)]
          · rw [bdk_swkk a1 (by omega) p0]
            exact hp
      · refine ⟨hnI, hnI, fun _ => ?_, fun e => absurd rfl e⟩
        have hz9 : dtn M n = 0 := dtn_zero hn hn5 a1 (by omega) (by rw [← hbe]; exact hb0) (fun i i0 i1 => by rw [← hsq i k i0 i1 (by omega) (by omega)]; exact hz i i0 i1)
        have hz8 : dtn M0 n = 0 := by
          rw [hz9] at hdt
          rcases hsg with rfl | rfl <;> omega
        have := hQ s hF
        rwa [hz8] at this
theorem W9_determinant {Q : Int → St → Prop} {st : St} {n : Int} {M : Int → Int → Int} (hn : 2 ≤ n) (hn5 : n ≤ 5) (hM : MB M) (hsq : ∀ i j, 0 ≤ i → i < n → 0 ≤ j → j < n → sqM st n i j = M i j) (hQ : ∀ s, F36 st s → Q (dtn M n) s) : f9_determinant Q st n := by
  unfold f9_determinant
  exact ⟨100, det_l8 hn hn5 hQ 100 0 1 1 st (by omega) (by omega) ⟨F36.rf, M, hM, Or.inl rfl, by omega, fun i j i0 i1 j0 j1 => hsq i j i0 i1 j0 j1, rfl, by omega⟩ (by omega)⟩
