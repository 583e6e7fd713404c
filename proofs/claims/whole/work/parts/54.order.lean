/-! taking out and putting in order: hinges and supports, on both sides -/
theorem cuN_cut {f : Int → Int} {a : Int} : ∀ (m : Nat) (p : Int), 0 ≤ p → p ≤ m → (∀ k : Int, 0 ≤ k → k < p → f k ≤ a) → (∀ k : Int, p ≤ k → k < m → a < f k) → cuN f a m = p := by
  intro m
  induction m with
  | zero =>
    intro p h0 h1 _ _
    show (0 : Int) = p
    omega
  | succ m ih =>
    intro p h0 h1 h2 h3
    unfold cuN
    by_cases c : p = (m : Int) + 1
    · rw [ih (m : Int) (by omega) (by omega) (fun k k0 k1 => h2 k k0 (by omega)) (fun k k0 k1 => absurd k0 (by omega)), if_pos (h2 m (by omega) (by omega))]
      omega
    · have h9 := h3 m (by omega) (by omega)
      rw [ih p h0 (by omega) h2 (fun k k0 k1 => h3 k k0 (by omega)), if_neg (by omega)]
      omega
theorem srt_le {f : Int → Int} {n : Int} (h : ∀ k, 0 ≤ k → k + 1 < n → f k ≤ f (k + 1)) : ∀ (d : Nat) (k : Int), 0 ≤ k → k + d < n → f k ≤ f (k + d) := by
  intro d
  induction d with
  | zero => intro k k0 k1; rw [show k + ((0 : Nat) : Int) = k by omega]; exact Int.le_refl _
  | succ d ih =>
    intro k k0 k1
    have e1 := ih k k0 (by omega)
    have e2 := h (k + d) (by omega) (by omega)
    rw [show k + ((d + 1 : Nat) : Int) = k + d + 1 by omega]
    omega
theorem cuN_at {f : Int → Int} {a n v : Int} (h0 : 0 ≤ v) (h1 : v ≤ n) (hs : ∀ k, 0 ≤ k → k + 1 < n → f k ≤ f (k + 1)) (hl : v = 0 ∨ f (v - 1) ≤ a) (hu : ∀ k, v ≤ k → k < n → a < f k) : cuN f a n.toNat = v := by
  refine cuN_cut n.toNat v h0 (by omega) (fun k k0 k1 => ?_) (fun k k0 k1 => hu k k0 (by omega))
  rcases hl with z | z
  · omega
  · have := srt_le hs (v - 1 - k).toNat k k0 (by omega)
    rw [show k + ((v - 1 - k).toNat : Int) = v - 1 by omega] at this
    omega
/-- only cells of the present array of the reference have changed -/
def FA (st st' : St) : Prop := ∀ K s i j, ¬ (K = 30 ∧ s = 0 ∧ i = 0 ∧ 0 ≤ j ∧ j < 47) → st' K s i j = st K s i j
theorem FA.rf {st : St} : FA st st := fun _ _ _ _ _ => rfl
theorem FA.trans {a b c : St} (h : FA a b) (g : FA b c) : FA a c := fun K s i j hK => (g K s i j hK).trans (h K s i j hK)
theorem FA.up {a b : St} {i v : Int} (h : FA a b) (h0 : 0 ≤ i) (h1 : i < 47) : FA a (up b 30 0 0 i v) := fun K s i' j hK => (up_ne (by omega)).trans (h K s i' j hK)
def dropH (A : Int → Int) (n : Int) : Int → Int := fun j => if j = 3 then A 3 - 1 else if 16 + n ≤ j ∧ j < 16 + (A 3 - 1) then A (j + 1) else A j
def addH (A : Int → Int) (p v : Int) : Int → Int := fun j => if j = 3 then A 3 + 1 else if j = 16 + p then v else if 16 + p < j ∧ j ≤ 16 + A 3 then A (j - 1) else A j
theorem dropH_ne {A : Int → Int} {n j : Int} (h : ¬ j = 3 ∧ ¬ (16 + n ≤ j ∧ j < 16 + (A 3 - 1))) : dropH A n j = A j := by
  unfold dropH
  rw [if_neg h.1, if_neg h.2]
theorem dropH_3 (A : Int → Int) (n : Int) : dropH A n 3 = A 3 - 1 := if_pos rfl
theorem dropH_in {A : Int → Int} {n k : Int} (k0 : 0 ≤ k) : dropH A n (16 + k) = if n ≤ k ∧ k < A 3 - 1 then A (16 + (k + 1)) else A (16 + k) := by
  unfold dropH
  rw [if_neg (by omega)]
  by_cases c : n ≤ k ∧ k < A 3 - 1
  · rw [if_pos (by omega), if_pos c, show 16 + k + 1 = 16 + (k + 1) by omega]
  · rw [if_neg (by omega), if_neg c]
theorem addH_3 (A : Int → Int) (p v : Int) : addH A p v 3 = A 3 + 1 := if_pos rfl
theorem addH_ne {A : Int → Int} {p v j : Int} (h : ¬ j = 3 ∧ ¬ (16 + p ≤ j ∧ j ≤ 16 + A 3)) (hp : p ≤ A 3) : addH A p v j = A j := by
  unfold addH
  rw [if_neg h.1, if_neg (by omega), if_neg (by omega)]
theorem addH_in {A : Int → Int} {p v k : Int} (k0 : 0 ≤ k) : addH A p v (16 + k) = if k = p then v else if p < k ∧ k ≤ A 3 then A (16 + (k - 1)) else A (16 + k) := by
  unfold addH
  rw [if_neg (by omega)]
  by_cases d : k = p
  · rw [if_pos (by omega), if_pos d]
  · rw [if_neg (by omega), if_neg d]
    by_cases c : p < k ∧ k ≤ A 3
    · rw [if_pos (by omega), if_pos c, show 16 + k - 1 = 16 + (k - 1) by omega]
    · rw [if_neg (by omega), if_neg c]
theorem W9_dropsHinge {A : Int → Int} {Q : St → Prop} {st : St} {n : Int} (eA : aM st = A) (n0 : 0 ≤ n) (n1 : n < A 3) (h3 : A 3 ≤ 3) (hq : ∀ s, FA st s → aM s = dropH A n → Q s) : f9_dropsHinge Q st n := by
  have m0 := mlen0
  have e : ∀ j, st 30 0 0 j = A j := fun j => congrFun eA j
  have L : ∀ (f : Nat) (v : Int) (s : St), n ≤ v → v ≤ A 3 - 1 → FA st s → (∀ j, s 30 0 0 j = if j = 3 then A 3 - 1 else if 16 + n ≤ j ∧ j < 16 + v then A (j + 1) else A j) → A 3 - v < f → f9_dropsHinge_l12 Q f s v := by
    intro f
    induction f with
    | zero => intro v s a1 a2 a3 a4 a5; omega
    | succ f ih =>
      intro v s a1 a2 a3 a4 a5
      unfold f9_dropsHinge_l12
      have ec : s 30 0 0 3 = A 3 - 1 := by rw [a4, if_pos rfl]
      rw [ec]
      refine ⟨inI_s (by omega) (by omega), inI_s (by omega) (by omega), fun q => ?_, fun q => ⟨by omega, by omega, by omega, by omega, ?_⟩⟩
      · refine hq s a3 ?_
        funext j
        show s 30 0 0 j = dropH A n j
        rw [a4, show v = A 3 - 1 by omega]
        rfl
      · rintro _ rfl _ rfl
        refine ih (v + 1) _ (by omega) (by omega) (a3.up (by omega) (by omega)) (fun j => ?_) (by omega)
        rw [up_eq]
        by_cases d : j = 16 + v
        · rw [if_pos ⟨rfl, rfl, rfl, d⟩, a4, if_neg (by omega), if_neg (by omega), d, if_neg (by omega), if_pos (by omega)]
        · rw [if_neg (fun z => d z.2.2.2), a4]
          by_cases e3 : j = 3
          · rw [if_pos e3, if_pos e3]
          · rw [if_neg e3, if_neg e3]
            by_cases g : 16 + n ≤ j ∧ j < 16 + v
            · rw [if_pos g, if_pos (by omega)]
            · rw [if_neg g, if_neg (by omega)]
  unfold f9_dropsHinge
  rw [e]
  rintro _ rfl
  refine ⟨100, L 100 n _ (by omega) (by omega) (FA.rf.up (by omega) (by omega)) (fun j => ?_) (by omega)⟩
  rw [up_eq]
  by_cases d : j = 3
  · rw [if_pos ⟨rfl, rfl, rfl, d⟩, if_pos d]
  · rw [if_neg (fun z => d z.2.2.2), if_neg d, if_neg (by omega)]
    exact e j
theorem W9_addsHinge {A : Int → Int} {Q : St → Prop} {st : St} {a0 : Int} (eA : aM st = A) (h0 : 0 ≤ A 3) (h3 : A 3 < 3) (hv : ∀ k, 0 ≤ k → k < A 3 → inI (A (16 + k))) (ha : inI a0) (hs : ∀ k, 0 ≤ k → k + 1 < A 3 → A (16 + k) ≤ A (16 + (k + 1))) (hq : ∀ s, FA st s → aM s = addH A (cuN (fun k => A (16 + k)) a0 (A 3).toNat) a0 → Q s) : f9_addsHinge Q st a0 := by
  have m0 := mlen0
  have e : ∀ j, st 30 0 0 j = A j := fun j => congrFun eA j
  have J : ∀ (v : Int) (s : St), 0 ≤ v → v ≤ A 3 → FA st s → (∀ j, s 30 0 0 j = if 16 + v < j ∧ j ≤ 16 + A 3 then A (j - 1) else A j) → (∀ k, v ≤ k → k < A 3 → a0 < A (16 + k)) → (v = 0 ∨ A (16 + (v - 1)) ≤ a0) → f9_addsHinge_j52 Q a0 s v := by
    intro v s a1 a2 a3 a4 a5 a6
    unfold f9_addsHinge_j52
    refine ⟨by omega, by omega, ?_⟩
    rintro _ rfl _ rfl
    have e3 : up s 30 0 0 (16 + v) a0 30 0 0 3 = A 3 := by rw [up_ne (by omega), a4, if_neg (by omega)]
    rw [e3]
    refine hq _ ((a3.up (by omega) (by omega)).up (by omega) (by omega)) ?_
    rw [cuN_at (f := fun k => A (16 + k)) a1 a2 hs a6 a5]
    funext j
    show up (up s 30 0 0 (16 + v) a0) 30 0 0 3 (A 3 + 1) 30 0 0 j = addH A v a0 j
    unfold addH
    rw [up_eq, up_eq]
    by_cases d : j = 3
    · rw [if_pos ⟨rfl, rfl, rfl, d⟩, if_pos d]
    · rw [if_neg (fun z => d z.2.2.2), if_neg d]
      by_cases d2 : j = 16 + v
      · rw [if_pos ⟨rfl, rfl, rfl, d2⟩, if_pos d2]
      · rw [if_neg (fun z => d2 z.2.2.2), if_neg d2]
        exact a4 j
  have L : ∀ (f : Nat) (v : Int) (s : St), 0 ≤ v → v ≤ A 3 → FA st s → (∀ j, s 30 0 0 j = if 16 + v < j ∧ j ≤ 16 + A 3 then A (j - 1) else A j) → (∀ k, v ≤ k → k < A 3 → a0 < A (16 + k)) → v < f → f9_addsHinge_l7 Q a0 f s v := by
    intro f
    induction f with
    | zero => intro v s a1 a2 a3 a4 a5 a6; omega
    | succ f ih =>
      intro v s a1 a2 a3 a4 a5 a6
      unfold f9_addsHinge_l7
      refine ⟨inI_s (by omega) (by omega), fun q => J v s a1 a2 a3 a4 a5 (Or.inl (by omega)), fun q => ⟨by omega, by omega, ?_⟩⟩
      have ev : s 30 0 0 (16 + v - 1) = A (16 + (v - 1)) := by rw [a4, if_neg (by omega), show 16 + v - 1 = 16 + (v - 1) by omega]
      rw [ev]
      refine ⟨hv _ (by omega) (by omega), ha, fun c => J v s a1 a2 a3 a4 a5 (Or.inr c), fun c => ⟨by omega, by omega, by omega, by omega, ?_⟩⟩
      rintro _ rfl _ rfl
      refine ih (v + -1) _ (by omega) (by omega) (a3.up (by omega) (by omega)) (fun j => ?_) (fun k k0 k1 => ?_) (by omega)
      · rw [up_eq]
        by_cases d : j = 16 + v
        · rw [if_pos ⟨rfl, rfl, rfl, d⟩, if_pos (by omega), d, show 16 + v - 1 = 16 + (v - 1) by omega]
        · rw [if_neg (fun z => d z.2.2.2), a4]
          by_cases g : 16 + v < j ∧ j ≤ 16 + A 3
          · rw [if_pos g, if_pos (by omega)]
          · rw [if_neg g, if_neg (by omega)]
      · by_cases d : k = v - 1
        · rw [d]; omega
        · exact a5 k (by omega) k1
  unfold f9_addsHinge
  rw [e]
  rintro _ rfl
  exact ⟨100, L 100 (A 3) st h0 (by omega) FA.rf (fun j => by rw [if_neg (by omega)]; exact e j) (fun k k0 k1 => by omega) (by omega)⟩
def addS (A : Int → Int) (p v w : Int) : Int → Int := fun j => if j = 2 then A 2 + 1 else if j = 6 + 2 * p + 1 then w else if j = 6 + 2 * p then v else if 6 + 2 * p + 1 < j ∧ j < 6 + 2 * A 2 + 2 then A (j - 2) else A j
theorem addS_2 (A : Int → Int) (p v w : Int) : addS A p v w 2 = A 2 + 1 := if_pos rfl
theorem addS_ne {A : Int → Int} {p v w j : Int} (h : ¬ j = 2 ∧ ¬ (6 + 2 * p ≤ j ∧ j < 6 + 2 * A 2 + 2)) (hp : p ≤ A 2) : addS A p v w j = A j := by
  unfold addS
  rw [if_neg h.1, if_neg (by omega), if_neg (by omega), if_neg (by omega)]
theorem addS_f {A : Int → Int} {p v w k : Int} (k0 : 0 ≤ k) : addS A p v w (6 + 2 * k) = if k = p then v else if p < k ∧ k ≤ A 2 then A (6 + 2 * (k - 1)) else A (6 + 2 * k) := by
  unfold addS
  rw [if_neg (by omega), if_neg (by omega)]
  by_cases d : k = p
  · rw [if_pos (by omega), if_pos d]
  · rw [if_neg (by omega), if_neg d]
    by_cases c : p < k ∧ k ≤ A 2
    · rw [if_pos (by omega), if_pos c, show 6 + 2 * k - 2 = 6 + 2 * (k - 1) by omega]
    · rw [if_neg (by omega), if_neg c]
theorem addS_g {A : Int → Int} {p v w k : Int} (k0 : 0 ≤ k) : addS A p v w (6 + 2 * k + 1) = if k = p then w else if p < k ∧ k ≤ A 2 then A (6 + 2 * (k - 1) + 1) else A (6 + 2 * k + 1) := by
  unfold addS
  rw [if_neg (by omega)]
  by_cases d : k = p
  · rw [if_pos (by omega), if_pos d]
  · rw [if_neg (by omega), if_neg (by omega), if_neg d]
    by_cases c : p < k ∧ k ≤ A 2
    · rw [if_pos (by omega), if_pos c, show 6 + 2 * k + 1 - 2 = 6 + 2 * (k - 1) + 1 by omega]
    · rw [if_neg (by omega), if_neg c]
theorem dropS_f {A : Int → Int} {n k : Int} (k0 : 0 ≤ k) : dropA A 6 2 n (6 + 2 * k) = if n ≤ k ∧ k < A 2 - 1 then A (6 + 2 * (k + 1)) else A (6 + 2 * k) := by
  unfold dropA
  rw [if_neg (by omega)]
  by_cases c : n ≤ k ∧ k < A 2 - 1
  · rw [if_pos (by omega), if_pos c, show 6 + 2 * k + 2 = 6 + 2 * (k + 1) by omega]
  · rw [if_neg (by omega), if_neg c]
theorem dropS_g {A : Int → Int} {n k : Int} (k0 : 0 ≤ k) : dropA A 6 2 n (6 + 2 * k + 1) = if n ≤ k ∧ k < A 2 - 1 then A (6 + 2 * (k + 1) + 1) else A (6 + 2 * k + 1) := by
  unfold dropA
  rw [if_neg (by omega)]
  by_cases c : n ≤ k ∧ k < A 2 - 1
  · rw [if_pos (by omega), if_pos c, show 6 + 2 * k + 1 + 2 = 6 + 2 * (k + 1) + 1 by omega]
  · rw [if_neg (by omega), if_neg c]
theorem W9_dropsSupport {A : Int → Int} {Q : St → Prop} {st : St} {n : Int} (eA : aM st = A) (n0 : 0 ≤ n) (n1 : n < A 2) (h3 : A 2 ≤ 5) (hq : ∀ s, FA st s → aM s = dropA A 6 2 n → Q s) : f9_dropsSupport Q st n := by
  have m0 := mlen0
  have e : ∀ j, st 30 0 0 j = A j := fun j => congrFun eA j
  have L : ∀ (f : Nat) (v : Int) (s : St), 6 + 2 * n ≤ v → v ≤ 6 + 2 * (A 2 - 1) → FA st s → (∀ j, s 30 0 0 j = if j = 2 then A 2 - 1 else if 6 + 2 * n ≤ j ∧ j < v then A (j + 2) else A j) → 6 + 2 * (A 2 - 1) - v < f → f9_dropsSupport_l17 Q f s v := by
    intro f
    induction f with
    | zero => intro v s a1 a2 a3 a4 a5; omega
    | succ f ih =>
      intro v s a1 a2 a3 a4 a5
      unfold f9_dropsSupport_l17
      have ec : s 30 0 0 2 = A 2 - 1 := by rw [a4, if_pos rfl]
      rw [ec]
      refine ⟨inI_s (by omega) (by omega), inI_s (by omega) (by omega), fun q => ?_, fun q => ⟨by omega, by omega, by omega, by omega, ?_⟩⟩
      · refine hq s a3 ?_
        funext j
        show s 30 0 0 j = dropA A 6 2 n j
        rw [a4, show v = 6 + 2 * (A 2 - 1) by omega]
        rfl
      · rintro _ rfl _ rfl
        refine ih (v + 1) _ (by omega) (by omega) (a3.up (by omega) (by omega)) (fun j => ?_) (by omega)
        rw [up_eq]
        by_cases d : j = v
        · rw [if_pos ⟨rfl, rfl, rfl, d⟩, a4, if_neg (by omega), if_neg (by omega), d, if_neg (by omega), if_pos (by omega)]
        · rw [if_neg (fun z => d z.2.2.2), a4]
          by_cases e3 : j = 2
          · rw [if_pos e3, if_pos e3]
          · rw [if_neg e3, if_neg e3]
            by_cases g : 6 + 2 * n ≤ j ∧ j < v
            · rw [if_pos g, if_pos (by omega)]
            · rw [if_neg g, if_neg (by omega)]
  unfold f9_dropsSupport
  rw [e]
  rintro _ rfl _ rfl
  refine ⟨100, L 100 _ _ (by omega) (by omega) (FA.rf.up (by omega) (by omega)) (fun j => ?_) (by omega)⟩
  rw [up_eq]
  by_cases d : j = 2
  · rw [if_pos ⟨rfl, rfl, rfl, d⟩, if_pos d]
  · rw [if_neg (fun z => d z.2.2.2), if_neg d, if_neg (by omega)]
    exact e j
theorem W9_addsSupport {A : Int → Int} {Q : St → Prop} {st : St} {a0 a1 : Int} (eA : aM st = A) (h0 : 0 ≤ A 2) (h3 : A 2 < 5) (hv : ∀ k, 0 ≤ k → k < A 2 → inI (A (6 + 2 * k))) (ha : inI a0) (hs : ∀ k, 0 ≤ k → k + 1 < A 2 → A (6 + 2 * k) ≤ A (6 + 2 * (k + 1))) (hq : ∀ s, FA st s → aM s = addS A (cuN (fun k => A (6 + 2 * k)) a0 (A 2).toNat) a0 a1 → Q s) : f9_addsSupport Q st a0 a1 := by
  have m0 := mlen0
  have e : ∀ j, st 30 0 0 j = A j := fun j => congrFun eA j
  have J : ∀ (v : Int) (s : St), 0 ≤ v → v ≤ A 2 → FA st s → (∀ j, s 30 0 0 j = if 6 + 2 * v + 1 < j ∧ j < 6 + 2 * A 2 + 2 then A (j - 2) else A j) → (∀ k, v ≤ k → k < A 2 → a0 < A (6 + 2 * k)) → (v = 0 ∨ A (6 + 2 * (v - 1)) ≤ a0) → f9_addsSupport_j78 Q a0 a1 s v := by
    intro v s a1' a2 a3 a4 a5 a6
    unfold f9_addsSupport_j78
    refine ⟨by omega, by omega, ?_⟩
    rintro _ rfl
    refine ⟨by omega, by omega, ?_⟩
    rintro _ rfl _ rfl
    have e3 : up (up s 30 0 0 (6 + 2 * v) a0) 30 0 0 (6 + 2 * v + 1) a1 30 0 0 2 = A 2 := by rw [up_ne (by omega), up_ne (by omega), a4, if_neg (by omega)]
    rw [e3]
    refine hq _ (((a3.up (by omega) (by omega)).up (by omega) (by omega)).up (by omega) (by omega)) ?_
    rw [cuN_at (f := fun k => A (6 + 2 * k)) a1' a2 hs a6 a5]
    funext j
    show up (up (up s 30 0 0 (6 + 2 * v) a0) 30 0 0 (6 + 2 * v + 1) a1) 30 0 0 2 (A 2 + 1) 30 0 0 j = addS A v a0 a1 j
    unfold addS
    rw [up_eq, up_eq, up_eq]
    by_cases d : j = 2
    · rw [if_pos ⟨rfl, rfl, rfl, d⟩, if_pos d]
    · rw [if_neg (fun z => d z.2.2.2), if_neg d]
      by_cases d2 : j = 6 + 2 * v + 1
      · rw [if_pos ⟨rfl, rfl, rfl, d2⟩, if_pos d2]
      · rw [if_neg (fun z => d2 z.2.2.2), if_neg d2]
        by_cases d3 : j = 6 + 2 * v
        · rw [if_pos ⟨rfl, rfl, rfl, d3⟩, if_pos d3]
        · rw [if_neg (fun z => d3 z.2.2.2), if_neg d3]
          exact a4 j
  have L : ∀ (f : Nat) (v : Int) (s : St), 0 ≤ v → v ≤ A 2 → FA st s → (∀ j, s 30 0 0 j = if 6 + 2 * v + 1 < j ∧ j < 6 + 2 * A 2 + 2 then A (j - 2) else A j) → (∀ k, v ≤ k → k < A 2 → a0 < A (6 + 2 * k)) → v < f → f9_addsSupport_l7 Q a0 a1 f s v := by
    intro f
    induction f with
    | zero => intro v s a1' a2 a3 a4 a5 a6; omega
    | succ f ih =>
      intro v s a1' a2 a3 a4 a5 a6
      unfold f9_addsSupport_l7
      refine ⟨inI_s (by omega) (by omega), fun q => J v s a1' a2 a3 a4 a5 (Or.inl (by omega)), fun q => W9_placeOf (by omega) (by omega) ?_⟩
      have ev : s 30 0 0 (6 + 2 * (v - 1)) = A (6 + 2 * (v - 1)) := by rw [a4, if_neg (by omega)]
      rw [ev]
      refine ⟨hv _ (by omega) (by omega), ha, fun c => J v s a1' a2 a3 a4 a5 (Or.inr c), fun c => ⟨by omega, by omega, by omega, by omega, ?_⟩⟩
      rintro _ rfl
      refine ⟨by omega, by omega, by omega, by omega, ?_⟩
      rintro _ rfl _ rfl
      refine ih (v + -1) _ (by omega) (by omega) ((a3.up (by omega) (by omega)).up (by omega) (by omega)) (fun j => ?_) (fun k k0 k1 => ?_) (by omega)
      · have e1 : s 30 0 0 (6 + 2 * v - 2) = A (6 + 2 * v - 2) := by rw [a4, if_neg (by omega)]
        have e2 : up s 30 0 0 (6 + 2 * v) (s 30 0 0 (6 + 2 * v - 2)) 30 0 0 (6 + 2 * v - 1) = A (6 + 2 * v - 1) := by rw [up_ne (by omega), a4, if_neg (by omega)]
        rw [e2, e1, up_eq, up_eq]
        by_cases d : j = 6 + 2 * v + 1
        · rw [if_pos ⟨rfl, rfl, rfl, d⟩, if_pos (by omega), d, show 6 + 2 * v + 1 - 2 = 6 + 2 * v - 1 by omega]
        · rw [if_neg (fun z => d z.2.2.2)]
          by_cases d2 : j = 6 + 2 * v
          · rw [if_pos ⟨rfl, rfl, rfl, d2⟩, if_pos (by omega), d2]
          · rw [if_neg (fun z => d2 z.2.2.2), a4]
            by_cases g : 6 + 2 * v + 1 < j ∧ j < 6 + 2 * A 2 + 2
            · rw [if_pos g, if_pos (by omega)]
            · rw [if_neg g, if_neg (by omega)]
      · by_cases d : k = v - 1
        · rw [d]; omega
        · exact a5 k (by omega) k1
  unfold f9_addsSupport
  rw [e]
  rintro _ rfl
  exact ⟨100, L 100 (A 2) st h0 (by omega) FA.rf (fun j => by rw [if_neg (by omega)]; exact e j) (fun k k0 k1 => by omega) (by omega)⟩
