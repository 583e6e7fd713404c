theorem prk_sw {M : Int → Int → Int} {k p : Int} (hk : 0 ≤ k) (hk4 : k ≤ 4) (hp : k ≤ p) : prk (swM M k p) k = prk M k := by
  have e : ∀ r c, r < k → swM M k p r c = M r c := fun r c h => by
    unfold swM
    rw [if_neg (by omega), if_neg (by omega)]
  unfold prk
  by_cases h0 : k = 0
  · rw [if_pos h0, if_pos h0]
  · rw [if_neg h0, if_neg h0]
    obtain rfl | rfl | rfl | rfl : k = 1 ∨ k = 2 ∨ k = 3 ∨ k = 4 := by omega
    · exact e 0 0 (by omega)
    · show dt2 (swM M 2 p) 0 1 0 1 = dt2 M 0 1 0 1
      unfold dt2
      simp only [fun c => e 0 c (by omega), fun c => e 1 c (by omega)]
    · show dt3 (swM M 3 p) 0 1 2 0 1 2 = dt3 M 0 1 2 0 1 2
      unfold dt3 dt2
      simp only [fun c => e 0 c (by omega), fun c => e 1 c (by omega), fun c => e 2 c (by omega)]
    · show dt4 (swM M 4 p) 0 1 2 3 0 1 2 3 = dt4 M 0 1 2 3 0 1 2 3
      unfold dt4 dt3 dt2
      simp only [fun c => e 0 c (by omega), fun c => e 1 c (by omega), fun c => e 2 c (by omega), fun c => e 3 c (by omega)]
theorem adk_sw {M : Int → Int → Int} {k p i j : Int} (hk : 0 ≤ k) (hk4 : k ≤ 4) (hp : k ≤ p) : adk (swM M k p) k i j = adk M k i j := by
  have e : ∀ r c, r < k → swM M k p r c = M r c := fun r c h => by
    unfold swM
    rw [if_neg (by omega), if_neg (by omega)]
  obtain rfl | rfl | rfl | rfl | rfl : k = 0 ∨ k = 1 ∨ k = 2 ∨ k = 3 ∨ k = 4 := by omega
  · rfl
  · exact e 0 j (by omega)
  · unfold adk dt2
    simp only [fun c => e 0 c (by omega), fun c => e 1 c (by omega)]
    rfl
  · unfold adk dt3 dt2
    simp only [fun c => e 0 c (by omega), fun c => e 1 c (by omega), fun c => e 2 c (by omega)]
    rfl
  · unfold adk dt4 dt3 dt2
    simp only [fun c => e 0 c (by omega), fun c => e 1 c (by omega), fun c => e 2 c (by omega), fun c => e 3 c (by omega)]
    rfl
/-- the rows of the first matrix, in another order, and the sign of that order -/
def RO (n : Int) (X0 X : Int → Int → Int) (ρ : Int → Int) (sign : Int) : Prop := X = (fun i j => X0 (ρ i) j) ∧ (sign = 1 ∨ sign = -1) ∧ (∀ i, 0 ≤ i → i < n → 0 ≤ ρ i ∧ ρ i < n) ∧ ∀ N : Int → Int → Int, dtn (fun i j => N (ρ i) j) n = sign * dtn N n
theorem RO.sw {n : Int} {X0 X : Int → Int → Int} {ρ : Int → Int} {sign k p : Int} (h : RO n X0 X ρ sign) (hn : 2 ≤ n) (hn5 : n ≤ 5) (hk : 0 ≤ k) (hkn : k < n) (hp : k ≤ p) (hpn : p < n) : ∃ ρ' sign', RO n X0 (swM X k p) ρ' sign' := by
  by_cases e : k = p
  · subst e
    rw [swM_self]
    exact ⟨ρ, sign, h⟩
  · refine ⟨fun i => ρ (if i = k then p else if i = p then k else i), -sign, ?_, by have := h.2.1; omega, fun i i0 i1 => ?_, fun N => ?_⟩
    · rw [h.1]
      rfl
    · refine h.2.2.1 _ ?_ ?_
      · split
        · omega
        · split <;> omega
      · split
        · omega
        · split <;> omega
    · have := dtn_sw (M := fun i j => N (ρ i) j) hn hn5 hk (show k < p by omega) hpn
      rw [h.2.2.2 N] at this
      rw [Int.neg_mul]
      exact this
/-- what the inverse's table holds at column k -/
def TI (o n k : Int) (X : Int → Int → Int) (s : St) : Prop := ∀ i j, 0 ≤ i → i < n → 0 ≤ j → j < 2 * n → tabM s o i j = if k ≤ i then bdk X k i j else adk X k i j
theorem prk_b {M : Int → Int → Int} (h : MB M) {k : Int} : -2916000000 ≤ prk M k ∧ prk M k ≤ 2916000000 := by
  unfold prk
  split
  · omega
  · exact bdk_b4 h _ _
theorem inv_step {o n k before p : Int} {X : Int → Int → Int} {s : St} {Q : St → Prop} (hn : 2 ≤ n) (hn5 : n ≤ 5) (hs : s 3 2 o 0 = n) (hk : 0 ≤ k) (hkn : k < n) (hp : k ≤ p) (hpn : p < n) (hX : MB X) (hb : before = prk X k) (hb0 : ¬ before = 0) (hT : TI o n k X s)
    (hQ : ∀ s', F18 s s' → TI o n (k + 1) (swM X k p) s' → Q s') : f3_swapRows o (fun s' => f3_clearColumn o Q s' k before) s k p := by
  refine W3_swapRows hs hn5 hn hk hkn (by omega) hpn (fun s1 f1 t1 => ?_)
  have hs1 : s1 3 2 o 0 = n := (f1 3 2 o 0 (by omega)).trans hs
  have hX' : MB (swM X k p) := swM_B hX k p
  have hb' : before = prk (swM X k p) k := by rw [prk_sw hk (by omega) hp]; exact hb
  have T1 : TI o n k (swM X k p) s1 := by
    intro i j i0 i1 j0 j1
    rw [t1 i j j0 j1]
    by_cases c : k ≤ i
    · rw [if_pos c, bdk_sw hk (by omega) hp]
      by_cases c1 : i = k
      · rw [if_pos c1, hT p j (by omega) hpn j0 j1, if_pos hp]
      · rw [if_neg c1]
        by_cases c2 : i = p
        · rw [if_pos c2, hT k j hk hkn j0 j1, if_pos (by omega)]
        · rw [if_neg c2, hT i j i0 i1 j0 j1, if_pos c]
    · rw [if_neg c, if_neg (show ¬ i = k by omega), if_neg (show ¬ i = p by omega), hT i j i0 i1 j0 j1, if_neg c, adk_sw hk (by omega) hp]
  clear t1
  generalize swM X k p = Y at hX' hb' T1 hQ
  have hbb := prk_b hX' (k := k)
  rw [← hb'] at hbb
  have hkk : tabM s1 o k k = bdk Y k k k := by rw [T1 k k hk hkn hk (by omega), if_pos (by omega)]
  have hkj : ∀ j, 0 ≤ j → j < 2 * n → tabM s1 o k j = bdk Y k k j := fun j j0 j1 => by rw [T1 k j hk hkn j0 j1, if_pos (by omega)]
  refine W3_clearColumn hs1 hn5 hn hk hkn (inL_s (by omega) (by omega)) hb0 (fun i j i0 i1 hik j0 j1 => ?_) (fun s2 f2 t2 => ?_)
  · rw [hkk, hkj j j0 j1, T1 i j i0 i1 j0 j1, T1 i k i0 i1 hk (by omega)]
    by_cases c : k ≤ i
    · rw [if_pos c, if_pos c]
      have bk := fun a b => bdk_b hX' (show k ≤ 3 by omega) hk a b
      have p1 := mulB (bk k k).1 (bk k k).2 (bk i j).1 (bk i j).2
      have p2 := mulB (bk i k).1 (bk i k).2 (bk k j).1 (bk k j).2
      exact inL_s (by omega) (by omega)
    · rw [if_neg c, if_neg c]
      have bk := fun a b => bdk_b4 hX' (k := k) a b
      have ak := fun a b => adk_b hX' (show k ≤ 4 by omega) a b
      have p1 := mulB (bk k k).1 (bk k k).2 (ak i j).1 (ak i j).2
      have p2 := mulB (ak i k).1 (ak i k).2 (bk k j).1 (bk k j).2
      exact inL_s (by omega) (by omega)
  · refine hQ s2 (f1.trans f2) (fun i j i0 i1 j0 j1 => ?_)
    rw [t2 i j i0 i1 j0 j1]
    by_cases e : i = k
    · rw [if_pos e, if_neg (by omega), e, ad_new hk (by omega), hkj j j0 j1]
    · rw [if_neg e, hkk, hkj j j0 j1, T1 i j i0 i1 j0 j1, T1 i k i0 i1 hk (by omega)]
      by_cases c : k ≤ i
      · rw [if_pos c, if_pos c, if_pos (show k + 1 ≤ i by omega)]
        have := bd_syl (M := Y) (i := i) (j := j) hk (show k ≤ 3 by omega)
        rw [Int.mul_comm (bdk Y k k k), this, ← hb']
        exact Int.mul_tdiv_cancel_left _ hb0
      · rw [if_neg c, if_neg c, if_neg (show ¬ k + 1 ≤ i by omega)]
        have := ad_step (M := Y) (i := i) (j := j) (show 1 ≤ k by omega) (show k ≤ 4 by omega) i0 (by omega)
        rw [this, ← hb']
        exact Int.mul_tdiv_cancel_left _ hb0
theorem inv_l4 {o n : Int} {X0 : Int → Int → Int} {st0 : St} {Q : Int → St → Prop} (hn : 2 ≤ n) (hn5 : n ≤ 5) (hs0 : st0 3 2 o 0 = n) (hX0 : MB X0)
    (h0 : ∀ s, F18 st0 s → dtn X0 n = 0 → Q 0 s)
    (h1 : ∀ s X ρ sign, F18 st0 s → RO n X0 X ρ sign → ¬ dtn X0 n = 0 → MB X → (∀ i j, 0 ≤ i → i < n → 0 ≤ j → j < 2 * n → tabM s o i j = adk X n i j) → Q (sign * dtn X0 n) s) :
    ∀ (m : Nat) (k before : Int) (s : St) (X : Int → Int → Int) (ρ : Int → Int) (sign : Int), 0 ≤ k → k ≤ n → F18 st0 s → RO n X0 X ρ sign → MB X → before = prk X k → ¬ before = 0 → TI o n k X s → n - k < m → f3_invert_l4 o Q m s before k := by
  intro m
  induction m with
  | zero => intro k before s X ρ sign a1 a2 a3 a4 a5 a6 a7 a8 a9; omega
  | succ m ih =>
    intro k before s X ρ sign a1 a2 a3 a4 a5 a6 a7 a8 a9
    have hs : s 3 2 o 0 = n := (a3 3 2 o 0 (by omega)).trans hs0
    have hdX : dtn X n = sign * dtn X0 n := by
      have := a4.2.2.2 X0
      rw [← a4.1] at this
      exact this
    have z0 : dtn X n = 0 → dtn X0 n = 0 := fun z => by
      rw [z] at hdX
      rcases a4.2.1 with rfl | rfl <;> omega
    unfold f3_invert_l4
    rw [hs]
    refine ⟨inI_s (by omega) (by omega), inI_s (by omega) (by omega), fun c => ?_, fun c => ?_⟩
    · have hk : k = n := by omega
      subst hk
      have hb : before = sign * dtn X0 k := by
        rw [a6, ← hdX]
        unfold prk dtn
        rw [if_neg (by omega)]
      rw [hb]
      refine h1 s X ρ sign a3 a4 (fun z => ?_) a5 (fun i j i0 i1 j0 j1 => ?_)
      · rw [z, Int.mul_zero] at hb
        exact a7 hb
      · rw [a8 i j i0 i1 j0 j1, if_neg (by omega)]
    · have tk : ∀ i, k ≤ i → i < n → tabM s o i k = bdk X k i k := fun i i0 i1 => by rw [a8 i k (by omega) i1 a1 (by omega), if_pos i0]
      refine W3_pivotRow hs hn5 a1 (by omega) (fun i i0 i1 => ?_) (fun p p0 p1 hp => ?_) (fun hz => ?_)
      · rw [tk i i0 i1]
        have := bdk_b4 a5 (k := k) i k
        exact inL_s (by omega) (by omega)
      · refine ⟨inI_s (by omega) (by omega), fun e => absurd e (by omega), fun _ => ?_⟩
        refine inv_step hn hn5 hs a1 (by omega) p0 p1 a5 a6 a7 a8 (fun s' f' t' => ⟨a1, by omega, a1, by omega, ?_⟩)
        obtain ⟨ρ', sign', r'⟩ := a4.sw hn hn5 a1 (by omega) p0 p1
        have e1 : s' 18 0 (5 * o + k) k = prk (swM X k p) (k + 1) := by
          refine (t' k k a1 (by omega) a1 (by omega)).trans ?_
          rw [if_neg (by omega), ad_new a1 (by omega), prk_S a1]
        rintro _ rfl _ rfl
        refine ih (k + 1) _ s' (swM X k p) ρ' sign' (by omega) (by omega) (a3.trans f') r' (swM_B a5 k p) e1 ?_ t' (by omega)
        rw [e1, prk_S a1, bdk_swkk a1 (by omega) p0, ← tk p p0 p1]
        exact hp
      · refine ⟨inI_s (by omega) (by omega), fun _ => h0 s a3 (z0 ?_), fun e => absurd rfl e⟩
        by_cases hk : k = n - 1
        · subst hk
          unfold dtn
          rw [← tk (n - 1) (by omega) (by omega)]
          exact hz (n - 1) (by omega) (by omega)
        · exact dtn_zero hn hn5 a1 (by omega) (by rw [← a6]; exact a7) (fun i i0 i1 => by rw [← tk i i0 i1]; exact hz i i0 i1)
/-- the inverse: the sums along its right half are Cramer's determinants -/
theorem W3_invert {o n : Int} {X0 : Int → Int → Int} {st0 : St} {Q : Int → St → Prop} (hn : 2 ≤ n) (hn5 : n ≤ 5) (hs0 : st0 3 2 o 0 = n) (hX0 : MB X0)
    (ht : ∀ i j, 0 ≤ i → i < n → 0 ≤ j → j < 2 * n → tabM st0 o i j = X0 i j) (hid : ∀ i e, 0 ≤ i → i < n → 0 ≤ e → e < n → X0 i (n + e) = if i = e then 1 else 0)
    (h0 : ∀ s, F18 st0 s → dtn X0 n = 0 → Q 0 s)
    (h1 : ∀ s sign, F18 st0 s → (sign = 1 ∨ sign = -1) → ¬ dtn X0 n = 0 → (∀ i e, 0 ≤ i → i < n → 0 ≤ e → e < n → -2916000000 ≤ tabM s o i (n + e) ∧ tabM s o i (n + e) ≤ 2916000000) →
      (∀ (w : Int → Int) i, 0 ≤ i → i < n → smE (fun e => tabM s o i (n + e) * w e) n.toNat = sign * dtn (rc X0 i w) n) → Q (sign * dtn X0 n) s) : f3_invert o Q st0 := by
  unfold f3_invert
  refine ⟨100, inv_l4 hn hn5 hs0 hX0 h0 (fun s X ρ sign f r hd hX t => ?_) 100 0 1 st0 X0 (fun i => i) 1 (by omega) (by omega) F18.rf ⟨rfl, Or.inl rfl, fun i a b => ⟨a, b⟩, fun N => (Int.one_mul _).symm⟩ hX0 rfl (by omega) (fun i j i0 i1 j0 j1 => by rw [ht i j i0 i1 j0 j1, if_pos i0]; rfl) (by omega)⟩
  refine h1 s sign f r.2.1 hd (fun i e i0 i1 e0 e1 => ?_) (fun w i i0 i1 => ?_)
  · rw [t i (n + e) i0 i1 (by omega) (by omega)]
    by_cases c : n = 5
    · subst c
      exact adk_b5 hX _ _
    · have := adk_b hX (k := n) (by omega) i (n + e)
      omega
  · have e1 : smE (fun e => tabM s o i (n + e) * w e) n.toNat = smE (fun e => dtn (rc X i (fun r => X r (n + e))) n * w e) n.toNat :=
      smE_ext _ (fun e e0 e1 => by rw [t i (n + e) i0 i1 (by omega) (by omega), ad_rc X hn hn5 i0 i1])
    rw [e1, lin_sum X hn hn5 i0 i1 (fun e r => X r (n + e)) w]
    have e2 := r.2.2.2 (rc X0 i w)
    rw [← e2]
    refine dtn_ext hn hn5 (fun a b a0 a1 b0 b1 => ?_)
    have rr := r.2.2.1 a a0 a1
    have e3 : smE (fun e => X a (n + e) * w e) n.toNat = w (ρ a) := by
      have : smE (fun e => X a (n + e) * w e) n.toNat = smE (fun e => (if ρ a = e then 1 else 0) * w e) n.toNat :=
        smE_ext _ (fun e e0 e1 => by
          have : X a (n + e) = X0 (ρ a) (n + e) := by rw [r.1]
          rw [this, hid (ρ a) e rr.1 rr.2 e0 (by omega)])
      rw [this, smE_pick _ rr.1, if_pos (by omega)]
    have e4 : X a b = X0 (ρ a) b := by rw [r.1]
    show (if b = i then smE (fun e => X a (n + e) * w e) n.toNat else X a b) = if b = i then w (ρ a) else X0 (ρ a) b
    rw [e3, e4]
