/-! where something stands, in the reference's array -/
theorem W9_supportAt {A : Int → Int} {Q : Int → St → Prop} {st : St} {x : Int} (eA : aM st = A) (h2 : 0 ≤ A 2 ∧ A 2 ≤ 5) (hv : ∀ k, 0 ≤ k → k < A 2 → inI (A (6 + 2 * k))) (hx : inI x) (h1 : ∀ k, 0 ≤ k → k < A 2 → A (6 + 2 * k) = x → (∀ j, 0 ≤ j → j < k → ¬ A (6 + 2 * j) = x) → Q k st) (h0 : (∀ k, 0 ≤ k → k < A 2 → ¬ A (6 + 2 * k) = x) → Q (-1) st) : f9_supportAt Q st x := by
  have e : ∀ j, st 30 0 0 j = A j := fun j => congrFun eA j
  have L : ∀ (m : Nat) (v : Int), 0 ≤ v → v ≤ A 2 → (∀ j, 0 ≤ j → j < v → ¬ A (6 + 2 * j) = x) → A 2 - v < m → f9_supportAt_l2 Q x m st v := by
    intro m
    induction m with
    | zero => intro v a1 a2 a3 a4; omega
    | succ m ih =>
      intro v a1 a2 a3 a4
      unfold f9_supportAt_l2
      rw [e]
      refine ⟨inI_s (by omega) (by omega), inI_s (by omega) (by omega), fun c => h0 (fun k k0 k1 => a3 k k0 (by omega)), fun c => W9_placeOf a1 (by omega) ?_⟩
      rw [e]
      refine ⟨hv v a1 (by omega), hx, fun c2 => h1 v a1 (by omega) c2 a3, fun c2 => ?_⟩
      rintro _ rfl
      refine ih (v + 1) (by omega) (by omega) (fun j j0 j1 => ?_) (by omega)
      by_cases d : j = v
      · rw [d]; exact c2
      · exact a3 j j0 (by omega)
  unfold f9_supportAt
  exact ⟨100, L 100 0 (by omega) (by omega) (fun j j0 j1 => by omega) (by omega)⟩
theorem W9_hingeAt {A : Int → Int} {Q : Int → St → Prop} {st : St} {x : Int} (eA : aM st = A) (h3 : 0 ≤ A 3 ∧ A 3 ≤ 3) (hv : ∀ k, 0 ≤ k → k < A 3 → inI (A (16 + k))) (hx : inI x) (h1 : ∀ k, 0 ≤ k → k < A 3 → A (16 + k) = x → (∀ j, 0 ≤ j → j < k → ¬ A (16 + j) = x) → Q k st) (h0 : (∀ k, 0 ≤ k → k < A 3 → ¬ A (16 + k) = x) → Q (-1) st) : f9_hingeAt Q st x := by
  have e : ∀ j, st 30 0 0 j = A j := fun j => congrFun eA j
  have m0 := mlen0
  have L : ∀ (m : Nat) (v : Int), 0 ≤ v → v ≤ A 3 → (∀ j, 0 ≤ j → j < v → ¬ A (16 + j) = x) → A 3 - v < m → f9_hingeAt_l2 Q x m st v := by
    intro m
    induction m with
    | zero => intro v a1 a2 a3 a4; omega
    | succ m ih =>
      intro v a1 a2 a3 a4
      unfold f9_hingeAt_l2
      rw [e, e]
      refine ⟨inI_s (by omega) (by omega), inI_s (by omega) (by omega), fun c => h0 (fun k k0 k1 => a3 k k0 (by omega)), fun c => ⟨by omega, by omega, hv v a1 (by omega), hx, fun c2 => h1 v a1 (by omega) c2 a3, fun c2 => ?_⟩⟩
      rintro _ rfl
      refine ih (v + 1) (by omega) (by omega) (fun j j0 j1 => ?_) (by omega)
      by_cases d : j = v
      · rw [d]; exact c2
      · exact a3 j j0 (by omega)
  unfold f9_hingeAt
  exact ⟨100, L 100 0 (by omega) (by omega) (fun j j0 j1 => by omega) (by omega)⟩
theorem W9_hasLoad {A : Int → Int} {Q : Int → St → Prop} {st : St} {x : Int} (eA : aM st = A) (h4 : 0 ≤ A 4 ∧ A 4 ≤ 8) (hv : ∀ k, 0 ≤ k → k < A 4 → inI (A (19 + 2 * k + 1))) (hx : inI x) (h1 : (∃ k, 0 ≤ k ∧ k < A 4 ∧ A (19 + 2 * k + 1) = x) → Q 1 st) (h0 : (∀ k, 0 ≤ k → k < A 4 → ¬ A (19 + 2 * k + 1) = x) → Q 0 st) : f9_hasLoad Q st x := by
  have e : ∀ j, st 30 0 0 j = A j := fun j => congrFun eA j
  have m0 := mlen0
  have L : ∀ (m : Nat) (v : Int), 0 ≤ v → v ≤ A 4 → (∀ j, 0 ≤ j → j < v → ¬ A (19 + 2 * j + 1) = x) → A 4 - v < m → f9_hasLoad_l2 Q x m st v := by
    intro m
    induction m with
    | zero => intro v a1 a2 a3 a4; omega
    | succ m ih =>
      intro v a1 a2 a3 a4
      unfold f9_hasLoad_l2
      rw [e, e]
      refine ⟨inI_s (by omega) (by omega), inI_s (by omega) (by omega), fun c => h0 (fun k k0 k1 => a3 k k0 (by omega)), fun c => ⟨by omega, by omega, hv v a1 (by omega), hx, fun c2 => h1 ⟨v, a1, by omega, c2⟩, fun c2 => ?_⟩⟩
      rintro _ rfl
      refine ih (v + 1) (by omega) (by omega) (fun j j0 j1 => ?_) (by omega)
      by_cases d : j = v
      · rw [d]; exact c2
      · exact a3 j j0 (by omega)
  unfold f9_hasLoad
  exact ⟨100, L 100 0 (by omega) (by omega) (fun j j0 j1 => by omega) (by omega)⟩
