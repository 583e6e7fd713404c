/-! the class's Lines: Gauss and Jordan without fractions -/
def tabM (st : St) (o : Int) : Int → Int → Int := fun i j => st 18 0 (5 * o + i) j
theorem tabM_up {st : St} {o i j v i' j' : Int} : tabM (up st 18 0 (5 * o + i) j v) o i' j' = if i' = i ∧ j' = j then v else tabM st o i' j' := by
  unfold tabM
  rw [up_eq]
  by_cases h : i' = i ∧ j' = j
  · rw [if_pos h, if_pos ⟨rfl, rfl, by rw [h.1], h.2⟩]
  · rw [if_neg h, if_neg (fun q => h ⟨by have := q.2.2.1; omega, q.2.2.2⟩)]
def F18 (st st' : St) : Prop := ∀ K s i j, ¬ K = 18 → st' K s i j = st K s i j
theorem F18.rf {st : St} : F18 st st := fun _ _ _ _ _ => rfl
theorem F18.up {st0 st : St} {i j v : Int} (h : F18 st0 st) : F18 st0 (up st 18 0 i j v) := fun K s i' j' hK => by rw [up_ne (fun q => hK q.1)]; exact h K s i' j' hK
theorem F18.trans {a b c : St} (h : F18 a b) (g : F18 b c) : F18 a c := fun K s i j hK => (g K s i j hK).trans (h K s i j hK)
theorem W3_pivotRow {o : Int} {Q : Int → St → Prop} {st : St} {n k : Int} (hn : st 3 2 o 0 = n) (hn5 : n ≤ 5) (hk : 0 ≤ k) (hk2 : k < n) (hb : ∀ i, k ≤ i → i < n → inL (tabM st o i k))
    (h1 : ∀ p, k ≤ p → p < n → ¬ tabM st o p k = 0 → Q p st) (h0 : (∀ i, k ≤ i → i < n → tabM st o i k = 0) → Q (-1) st) : f3_pivotRow o Q st k := by
  have L : ∀ (m : Nat) (v : Int), k ≤ v → v ≤ n → (∀ i, k ≤ i → i < v → tabM st o i k = 0) → n - v < m → f3_pivotRow_l2 o Q k m st v := by
    intro m
    induction m with
    | zero => intro v a1 a2 a3 a4; omega
    | succ m ih =>
      intro v a1 a2 a3 a4
      unfold f3_pivotRow_l2
      rw [hn]
      refine ⟨inI_s (by omega) (by omega), inI_s (by omega) (by omega), fun c => h0 (fun i i0 i1 => a3 i i0 (by omega)), fun c => ⟨by omega, by omega, hk, by omega, hb v a1 (by omega), fun e => ?_, fun e => h1 v a1 (by omega) e⟩⟩
      rintro _ rfl
      refine ih (v + 1) (by omega) (by omega) (fun i i0 i1 => ?_) (by omega)
      by_cases hi : i = v
      · subst hi; exact e
      · exact a3 i i0 (by omega)
  unfold f3_pivotRow
  exact ⟨100, L 100 k (by omega) (by omega) (fun i a b => absurd a (by omega)) (by omega)⟩
theorem W3_swapRows {o : Int} {Q : St → Prop} {st : St} {n k p : Int} (hn : st 3 2 o 0 = n) (hn5 : n ≤ 5) (hn2 : 2 ≤ n) (hk : 0 ≤ k) (hk2 : k < n) (hp : 0 ≤ p) (hp2 : p < n)
    (h : ∀ st', F18 st st' → (∀ i j, 0 ≤ j → j < 2 * n → tabM st' o i j = tabM st o (if i = k then p else if i = p then k else i) j) → Q st') : f3_swapRows o Q st k p := by
  have L : ∀ (m : Nat) (v : Int) (s : St), 0 ≤ v → v ≤ 2 * n → F18 st s → (∀ i j, 0 ≤ j → j < 2 * n → tabM s o i j = if j < v then tabM st o (if i = k then p else if i = p then k else i) j else tabM st o i j) → 2 * n - v < m → f3_swapRows_l2 o Q k p m s v := by
    intro m
    induction m with
    | zero => intro v s a1 a2 a3 a4 a5; omega
    | succ m ih =>
      intro v s a1 a2 a3 a4 a5
      have hs : s 3 2 o 0 = n := (a3 3 2 o 0 (by omega)).trans hn
      unfold f3_swapRows_l2
      rw [hs]
      refine ⟨inI_s (by omega) (by omega), inI_s (by omega) (by omega), fun c => ?_, fun c => ⟨hk, by omega, a1, by omega, ?_⟩⟩
      · refine h s a3 (fun i j j0 j1 => ?_)
        rw [a4 i j j0 j1, if_pos (by omega)]
      · rintro _ rfl
        refine ⟨hk, by omega, hp, by omega, a1, by omega, a1, by omega, ?_⟩
        rintro _ rfl
        refine ⟨hp, by omega, a1, by omega, ?_⟩
        rintro _ rfl _ rfl
        refine ih (v + 1) _ (by omega) (by omega) (a3.up.up) (fun i j j0 j1 => ?_) (by omega)
        rw [tabM_up, tabM_up]
        have e1 : s 18 0 (5 * o + k) v = tabM st o k v := by
          have := a4 k v a1 (by omega)
          rw [if_neg (by omega)] at this
          exact this
        have e2 : s 18 0 (5 * o + p) v = tabM st o p v := by
          have := a4 p v a1 (by omega)
          rw [if_neg (by omega)] at this
          exact this
        rw [e1, e2, a4 i j j0 j1]
        by_cases hj : j = v
        · subst hj
          rw [if_neg (show ¬ j < j by omega), if_pos (show j < j + 1 by omega)]
          by_cases hip : i = p
          · subst hip
            rw [if_pos ⟨rfl, rfl⟩]
            by_cases hik : i = k
            · rw [if_pos hik, hik]
            · rw [if_neg hik, if_pos rfl]
          · rw [if_neg (fun q => hip q.1)]
            by_cases hik : i = k
            · rw [if_pos ⟨hik, rfl⟩, if_pos hik]
            · rw [if_neg (fun q => hik q.1), if_neg hik, if_neg hip]
        · rw [if_neg (fun q => hj q.2), if_neg (fun q => hj q.2)]
          by_cases hlt : j < v
          · rw [if_pos hlt, if_pos (show j < v + 1 by omega)]
          · rw [if_neg hlt, if_neg (show ¬ j < v + 1 by omega)]
  unfold f3_swapRows
  refine ⟨100, L 100 0 st (by omega) (by omega) F18.rf (fun i j j0 j1 => ?_) (by omega)⟩
  rw [if_neg (by omega)]
theorem W3_clearColumn {o : Int} {Q : St → Prop} {st : St} {n k before : Int} (hn : st 3 2 o 0 = n) (hn5 : n ≤ 5) (hn2 : 2 ≤ n) (hk : 0 ≤ k) (hk2 : k < n) (hb : inL before) (hb0 : ¬ before = 0)
    (hl : ∀ i j, 0 ≤ i → i < n → ¬ i = k → 0 ≤ j → j < 2 * n → inL (tabM st o k k * tabM st o i j - tabM st o i k * tabM st o k j))
    (h : ∀ st', F18 st st' → (∀ i j, 0 ≤ i → i < n → 0 ≤ j → j < 2 * n → tabM st' o i j = if i = k then tabM st o k j else Int.tdiv (tabM st o k k * tabM st o i j - tabM st o i k * tabM st o k j) before) → Q st') : f3_clearColumn o Q st k before := by
  -- along a row
  have In : ∀ (B : St → Int → Prop) (i : Int) (s0 : St), 0 ≤ i → i < n → ¬ i = k → F18 st s0 → (∀ j, 0 ≤ j → j < 2 * n → tabM s0 o i j = tabM st o i j ∧ tabM s0 o k j = tabM st o k j) →
      (∀ s, F18 st s → (∀ i' j, ¬ i' = i → tabM s o i' j = tabM s0 o i' j) → (∀ j, 0 ≤ j → j < 2 * n → tabM s o i j = Int.tdiv (tabM st o k k * tabM st o i j - tabM st o i k * tabM st o k j) before) → B s (i + 1)) →
      ∀ (m : Nat) (v : Int) (s : St), 0 ≤ v → v ≤ 2 * n → F18 st s → (∀ i' j, ¬ i' = i → tabM s o i' j = tabM s0 o i' j) → (∀ j, 0 ≤ j → j < 2 * n → tabM s o i j = if j < v then Int.tdiv (tabM st o k k * tabM st o i j - tabM st o i k * tabM st o k j) before else tabM st o i j) → 2 * n - v < m → f3_clearColumn_l52 o B Q k before (tabM st o k k) i (tabM st o i k) m s v := by
    intro B i s0 hi hi2 hik hF0 h0 hB m
    induction m with
    | zero => intro v s a1 a2 a3 a4 a5 a6; omega
    | succ m ih =>
      intro v s a1 a2 a3 a4 a5 a6
      have hs : s 3 2 o 0 = n := (a3 3 2 o 0 (by omega)).trans hn
      unfold f3_clearColumn_l52
      rw [hs]
      refine ⟨inI_s (by omega) (by omega), inI_s (by omega) (by omega), fun c => ?_, fun c => ?_⟩
      · unfold f3_clearColumn_j107
        rintro _ rfl
        exact hB s a3 a4 (fun j j0 j1 => by rw [a5 j j0 j1, if_pos (by omega)])
      · have e1 : s 18 0 (5 * o + i) v = tabM st o i v := by
          have := a5 v a1 (by omega)
          rw [if_neg (by omega)] at this
          exact this
        have e2 : s 18 0 (5 * o + k) v = tabM st o k v := (a4 k v (fun q => hik q.symm)).trans (h0 v a1 (by omega)).2
        rw [e1, e2]
        refine ⟨hi, by omega, hi, by omega, a1, by omega, hk, by omega, a1, by omega, hl i v hi hi2 hik a1 (by omega), hb, hb0, a1, by omega, ?_⟩
        rintro _ rfl _ rfl
        refine ih (v + 1) _ (by omega) (by omega) a3.up (fun i' j hi' => ?_) (fun j j0 j1 => ?_) (by omega)
        · rw [tabM_up, if_neg (fun q => hi' q.1)]
          exact a4 i' j hi'
        · rw [tabM_up]
          by_cases hj : j = v
          · rw [if_pos ⟨rfl, hj⟩, if_pos (by omega), hj]
          · rw [if_neg (fun q => hj q.2), a5 j j0 j1]
            by_cases hlt : j < v
            · rw [if_pos hlt, if_pos (by omega)]
            · rw [if_neg hlt, if_neg (by omega)]
  have Out : ∀ (m : Nat) (i : Int) (s : St), 0 ≤ i → i ≤ n → F18 st s → (∀ i' j, 0 ≤ i' → i' < n → 0 ≤ j → j < 2 * n → tabM s o i' j = if i' < i ∧ ¬ i' = k then Int.tdiv (tabM st o k k * tabM st o i' j - tabM st o i' k * tabM st o k j) before else tabM st o i' j) → n - i < m → f3_clearColumn_l20 o Q k before (tabM st o k k) m s i := by
    intro m
    induction m with
    | zero => intro i s a1 a2 a3 a4 a5; omega
    | succ m ih =>
      intro i s a1 a2 a3 a4 a5
      have hs : s 3 2 o 0 = n := (a3 3 2 o 0 (by omega)).trans hn
      unfold f3_clearColumn_l20
      rw [hs]
      refine ⟨inI_s (by omega) (by omega), inI_s (by omega) (by omega), fun c => ?_, fun c => ⟨inI_s (by omega) (by omega), inI_s (by omega) (by omega), fun e => ?_, fun e => ⟨a1, by omega, hk, by omega, ?_⟩⟩⟩
      · refine h s a3 (fun i' j i0 i1 j0 j1 => ?_)
        rw [a4 i' j i0 i1 j0 j1]
        by_cases hik : i' = k
        · rw [if_neg (fun q => q.2 hik), if_pos hik, hik]
        · rw [if_pos ⟨by omega, hik⟩, if_neg hik]
      · unfold f3_clearColumn_j107
        rintro _ rfl
        refine ih (i + 1) s (by omega) (by omega) a3 (fun i' j i0 i1 j0 j1 => ?_) (by omega)
        rw [a4 i' j i0 i1 j0 j1]
        by_cases hc : i' < i ∧ ¬ i' = k
        · rw [if_pos hc, if_pos ⟨by omega, hc.2⟩]
        · rw [if_neg hc, if_neg (by omega)]
      · have ek : s 18 0 (5 * o + i) k = tabM st o i k := by
          have := a4 i k a1 (by omega) hk (by omega)
          rw [if_neg (by omega)] at this
          exact this
        rintro _ rfl
        rw [ek]
        refine ⟨100, In _ i s a1 (by omega) e a3 (fun j j0 j1 => ⟨?_, ?_⟩) (fun s' f1 f2 f3 => ?_) 100 0 s (by omega) (by omega) a3 (fun _ _ _ => rfl) (fun j j0 j1 => ?_) (by omega)⟩
        · rw [a4 i j a1 (by omega) j0 j1, if_neg (by omega)]
        · rw [a4 k j hk (by omega) j0 j1, if_neg (fun q => q.2 rfl)]
        · refine ih (i + 1) s' (by omega) (by omega) f1 (fun i' j i0 i1 j0 j1 => ?_) (by omega)
          by_cases hii : i' = i
          · subst hii
            rw [f3 j j0 j1, if_pos ⟨by omega, e⟩]
          · rw [f2 i' j hii, a4 i' j i0 i1 j0 j1]
            by_cases hc : i' < i ∧ ¬ i' = k
            · rw [if_pos hc, if_pos ⟨by omega, hc.2⟩]
            · rw [if_neg hc, if_neg (by omega)]
        · rw [if_neg (by omega), a4 i j a1 (by omega) j0 j1, if_neg (by omega)]
  unfold f3_clearColumn
  refine ⟨hb, fun c => absurd c hb0, fun _ => ⟨hk, by omega, hk, by omega, ?_⟩⟩
  rintro _ rfl
  refine ⟨100, Out 100 0 st (by omega) (by omega) F18.rf (fun i' j i0 i1 j0 j1 => ?_) (by omega)⟩
  rw [if_neg (by omega)]
