theorem inI_s {x : Int} (h1 : -1000000000 ≤ x) (h2 : x ≤ 1000000000) : inI x := ⟨by omega, by omega⟩
theorem up_eq {st : St} {K s : Nat} {i j v : Int} {K' s' : Nat} {i' j' : Int} : up st K s i j v K' s' i' j' = if K' = K ∧ s' = s ∧ i' = i ∧ j' = j then v else st K' s' i' j' := rfl
theorem up_ne {st : St} {K s : Nat} {i j v : Int} {K' s' : Nat} {i' j' : Int} (h : ¬ (K' = K ∧ s' = s ∧ i' = i ∧ j' = j)) : up st K s i j v K' s' i' j' = st K' s' i' j' := if_neg h
theorem W9_isIn {Q : Int → St → Prop} {st : St} {v lo hi : Int} (h1 : inI v) (h2 : inI lo) (h3 : inI hi) (h : Q (if lo ≤ v ∧ v ≤ hi then 1 else 0) st) : f9_isIn Q st v lo hi := by
  unfold f9_isIn
  refine ⟨h1, h2, fun c => ?_, fun c => ⟨h1, h3, fun c2 => ?_, fun c2 => ?_⟩⟩
  · rwa [if_neg (by omega)] at h
  · rwa [if_neg (by omega)] at h
  · rwa [if_pos (by omega)] at h
/-- m places of the model's row s from b on, copied to the row d from a on -/
def cpyN (st : St) (d a s b m : Int) : St := fun K k i j => if K = 30 ∧ k = 0 ∧ i = d ∧ a ≤ j ∧ j < a + m then st 30 0 s (b + (j - a)) else st K k i j
theorem cpyN_0 (st : St) (d a s b : Int) : cpyN st d a s b 0 = st := by
  funext K k i j
  unfold cpyN
  rw [if_neg (by omega)]
theorem cpyN_S {st : St} {d a s b m : Int} (hd : d ≠ s) (hm : 0 ≤ m) : up (cpyN st d a s b m) 30 0 d (a + m) (cpyN st d a s b m 30 0 s (b + m)) = cpyN st d a s b (m + 1) := by
  funext K k i j
  have e : cpyN st d a s b m 30 0 s (b + m) = st 30 0 s (b + m) := by
    unfold cpyN
    rw [if_neg (by omega)]
  rw [e, up_eq]
  unfold cpyN
  by_cases h : K = 30 ∧ k = 0 ∧ i = d ∧ j = a + m
  · obtain ⟨rfl, rfl, rfl, rfl⟩ := h
    rw [if_pos ⟨rfl, rfl, rfl, rfl⟩, if_pos ⟨rfl, rfl, rfl, by omega, by omega⟩]
    congr 1
    omega
  · rw [if_neg h]
    by_cases h2 : K = 30 ∧ k = 0 ∧ i = d ∧ a ≤ j ∧ j < a + m
    · rw [if_pos h2, if_pos ⟨h2.1, h2.2.1, h2.2.2.1, h2.2.2.2.1, by omega⟩]
    · rw [if_neg h2, if_neg (by omega)]
theorem W9_copies_l3 {Q : St → Prop} {st : St} {d s a b : Int} (hd : d ≠ s) (ha : 0 ≤ a) (ha2 : a + 47 ≤ mlen d) (hb : 0 ≤ b) (hb2 : b + 47 ≤ mlen s) (h : Q (cpyN st d a s b 47)) :
    ∀ (n : Nat) (k : Int), 0 ≤ k → k ≤ 47 → 47 - k < n → f9_copies_l3 d s Q a b n (cpyN st d a s b k) k := by
  intro n
  induction n with
  | zero => intro k h0 h1 h2; omega
  | succ n ih =>
    intro k h0 h1 h2
    unfold f9_copies_l3
    refine ⟨inI_s (by omega) (by omega), fun c => ?_, fun c => ⟨by omega, by omega, by omega, by omega, ?_⟩⟩
    · have : k = 47 := by omega
      subst this
      exact h
    · rintro _ rfl _ rfl
      rw [cpyN_S hd h0]
      exact ih (k + 1) (by omega) (by omega) (by omega)
theorem W9_copies {Q : St → Prop} {st : St} {d s a b : Int} (hd : d ≠ s) (ha : 0 ≤ a) (ha2 : a + 47 ≤ mlen d) (hb : 0 ≤ b) (hb2 : b + 47 ≤ mlen s) (h : Q (cpyN st d a s b 47)) : f9_copies d s Q st a b := by
  unfold f9_copies
  refine ⟨100, ?_⟩
  have := W9_copies_l3 hd ha ha2 hb hb2 h 100 0 (by omega) (by omega) (by omega)
  rwa [cpyN_0] at this
