/-! bounds of the forces; danger -/
theorem tdiv_B {a d B : Int} (h1 : -B ≤ a) (h2 : a ≤ B) : -B ≤ Int.tdiv a d ∧ Int.tdiv a d ≤ B := by
  have h3 : (Int.tdiv a d).natAbs ≤ a.natAbs := by
    rw [Int.natAbs_tdiv]
    exact Nat.div_le_self _ _
  omega
theorem infA_b {A : Int → Int} (hA : VC A) (s : Int) {x : Int} (hx : 0 ≤ x) (hx2 : x ≤ 30) : -2916000000 ≤ infA A s x ∧ infA A s x ≤ 2916000000 := by
  have := DA_b hA (sup := s) hx hx2
  exact tdiv_B this.1 this.2
theorem unitA_b {A : Int → Int} (hA : VC A) : -2916000000 ≤ unitA A ∧ unitA A ≤ 2916000000 := by
  have := DA_b hA (sup := -1) (x := 0) (by omega) (by omega)
  exact tdiv_B this.1 this.2
theorem smE_b {f : Int → Int} {C : Int} : ∀ m : Nat, (∀ e : Int, 0 ≤ e → e < m → -C ≤ f e ∧ f e ≤ C) → -(m * C) ≤ smE f m ∧ smE f m ≤ m * C := by
  intro m
  induction m with
  | zero => intro _; simp [smE]
  | succ m ih =>
    intro h
    have h1 := ih (fun e a b => h e a (by omega))
    have h2 := h m (by omega) (by omega)
    have e1 : ((m + 1 : Nat) : Int) * C = m * C + C := by
      rw [show ((m + 1 : Nat) : Int) = (m : Int) + 1 by omega, Int.add_mul, Int.one_mul]
    rw [e1]
    unfold smE
    omega
theorem shB_b {A : Int → Int} (hA : VC A) (f : Int) {x : Int} (hx : 0 ≤ x) (hx2 : x ≤ 30) : -20000000000 ≤ shB A f x ∧ shB A f x ≤ 20000000000 := by
  have n5 := hA.2.2.2.1
  have n2 := hA.2.2.1
  have hu := unitA_b hA
  have hs := smE_b (f := fun k => if f < A (6 + 2 * k) then 0 else infA A k x) (C := 2916000000) (A 2).toNat (fun e _ _ => by
    have := infA_b hA e hx hx2
    show -2916000000 ≤ (if f < A (6 + 2 * e) then 0 else infA A e x) ∧ (if f < A (6 + 2 * e) then 0 else infA A e x) ≤ 2916000000
    split <;> omega)
  rw [show (((A 2).toNat : Nat) : Int) = A 2 by omega] at hs
  unfold shB
  split <;> omega
theorem mmB_b {A : Int → Int} (hA : VC A) {m : Int} (hm : 0 ≤ m) (hm2 : m ≤ 30) {x : Int} (hx : 0 ≤ x) (hx2 : x ≤ 30) : -600000000000 ≤ mmB A m x ∧ mmB A m x ≤ 600000000000 := by
  have n5 := hA.2.2.2.1
  have n2 := hA.2.2.1
  have hu := unitA_b hA
  have hs := smE_b (f := fun k => if m ≤ A (6 + 2 * k) then 0 else infA A k x * (m - A (6 + 2 * k))) (C := 87480000000) (A 2).toNat (fun e e0 e1 => by
    have h1 := infA_b hA e hx hx2
    have h2 := hA.2.2.2.2.1 e e0 (by omega)
    show -87480000000 ≤ (if m ≤ A (6 + 2 * e) then 0 else infA A e x * (m - A (6 + 2 * e))) ∧ (if m ≤ A (6 + 2 * e) then 0 else infA A e x * (m - A (6 + 2 * e))) ≤ 87480000000
    split
    · omega
    · have := mulB h1.1 h1.2 (show -30 ≤ m - A (6 + 2 * e) by omega) (show m - A (6 + 2 * e) ≤ 30 by omega)
      omega)
  rw [show (((A 2).toNat : Nat) : Int) = A 2 by omega] at hs
  unfold mmB
  split
  · omega
  · have := mulB (show -2916000000 ≤ - unitA A by omega) (show - unitA A ≤ 2916000000 by omega) (show -30 ≤ m - x by omega) (show m - x ≤ 30 by omega)
    omega
theorem TA_b {A : Int → Int} (hA : VF A) (head : Int) {f : Int → Int} (hf : ∀ x, 0 ≤ x → x ≤ A 0 → -600000000000 ≤ f x ∧ f x ≤ 600000000000) : -10000000000000000 ≤ TA A head f ∧ TA A head f ≤ 10000000000000000 := by
  have b4 := hA.2.2.2.1
  have b5 := hA.2.2.2.2.1
  have h1 := smE_b (f := fun k => A (19 + 2 * k) * f (A (19 + 2 * k + 1))) (C := 599400000000000) (A 4).toNat (fun e e0 e1 => by
    have h1 := hA.2.2.2.2.2.1 e e0 (by omega)
    have h2 := hf _ h1.2.1 h1.2.2
    have := mulB (show -999 ≤ A (19 + 2 * e) by omega) h1.1.2 h2.1 h2.2
    show -599400000000000 ≤ A (19 + 2 * e) * f (A (19 + 2 * e + 1)) ∧ A (19 + 2 * e) * f (A (19 + 2 * e + 1)) ≤ 599400000000000
    omega)
  have h2 := smE_b (f := fun k => if onA A k head then A (35 + 2 * k) * f (head - A (35 + 2 * k + 1)) else 0) (C := 599400000000000) (A 5).toNat (fun e e0 e1 => by
    have h1 := hA.2.2.2.2.2.2 e e0 (by omega)
    show -599400000000000 ≤ (if onA A e head then A (35 + 2 * e) * f (head - A (35 + 2 * e + 1)) else 0) ∧ (if onA A e head then A (35 + 2 * e) * f (head - A (35 + 2 * e + 1)) else 0) ≤ 599400000000000
    split
    · rename_i q
      have h2 := hf _ q.2.1 q.2.2
      have := mulB (show -999 ≤ A (35 + 2 * e) by omega) h1.1.2 h2.1 h2.2
      omega
    · omega)
  rw [show (((A 4).toNat : Nat) : Int) = A 4 by omega] at h1
  rw [show (((A 5).toNat : Nat) : Int) = A 5 by omega] at h2
  unfold TA
  omega
theorem TAi_b {A : Int → Int} (hA : VF A) (head i : Int) : -10000000000000000 ≤ TA A head (infA A i) ∧ TA A head (infA A i) ≤ 10000000000000000 := TA_b hA head (fun x x0 x1 => by
  have := infA_b hA.1 i x0 (show x ≤ 30 by have := hA.1.2.1; omega)
  omega)
theorem TAs_b {A : Int → Int} (hA : VF A) (head i : Int) : -10000000000000000 ≤ TA A head (shB A i) ∧ TA A head (shB A i) ≤ 10000000000000000 := TA_b hA head (fun x x0 x1 => by
  have := shB_b hA.1 i x0 (show x ≤ 30 by have := hA.1.2.1; omega)
  omega)
theorem TAm_b {A : Int → Int} (hA : VF A) (head : Int) {m : Int} (hm : 0 ≤ m) (hm2 : m ≤ 30) : -10000000000000000 ≤ TA A head (mmB A m) ∧ TA A head (mmB A m) ≤ 10000000000000000 := TA_b hA head (fun x x0 x1 => mmB_b hA.1 hm hm2 x0 (by have := hA.1.2.1; omega))
def anyE (p : Int → Int) : Nat → Int
  | 0 => 0
  | m + 1 => if p m = 0 then anyE p m else 1
theorem anyE_0 {p : Int → Int} : ∀ m : Nat, (∀ e : Int, 0 ≤ e → e < m → p e = 0) → anyE p m = 0 := by
  intro m
  induction m with
  | zero => intro _; rfl
  | succ m ih => intro h; unfold anyE; rw [if_pos (h m (by omega) (by omega))]; exact ih (fun e a b => h e a (by omega))
theorem anyE_1 {p : Int → Int} {e : Int} (h0 : 0 ≤ e) (hp : ¬ p e = 0) : ∀ m : Nat, e < m → anyE p m = 1 := by
  intro m
  induction m with
  | zero => intro h; omega
  | succ m ih =>
    intro h
    unfold anyE
    by_cases c : e = m
    · rw [if_neg (by rw [← c]; exact hp)]
    · split
      · exact ih (by omega)
      · rfl
/-- the first reason of danger -/
def dngA (A : Int → Int) (head : Int) : Int :=
  if ¬ anyE (fun i => if TA A head (infA A i) < 0 then 1 else 0) (A 2).toNat = 0 then 1 else
  if ¬ anyE (fun i => if ¬ A (6 + 2 * i + 1) = -1 ∧ A (6 + 2 * i + 1) * unitA A < TA A head (infA A i) then 1 else 0) (A 2).toNat = 0 then 2 else
  if ¬ anyE (fun m => if A 1 * unitA A < iabs (TA A head (mmB A m)) then 1 else 0) (A 0 + 1).toNat = 0 then 3 else 0
theorem dngA_1 {A : Int → Int} {head i : Int} (h0 : 0 ≤ i) (h1 : i < A 2) (h : TA A head (infA A i) < 0) : dngA A head = 1 := by
  unfold dngA
  rw [if_pos]
  rw [anyE_1 (e := i) h0 (by rw [if_pos h]; omega) (A 2).toNat (by omega)]
  omega
theorem dngA_2 {A : Int → Int} {head i : Int} (hl : ∀ k, 0 ≤ k → k < A 2 → 0 ≤ TA A head (infA A k)) (h0 : 0 ≤ i) (h1 : i < A 2) (h : ¬ A (6 + 2 * i + 1) = -1 ∧ A (6 + 2 * i + 1) * unitA A < TA A head (infA A i)) : dngA A head = 2 := by
  unfold dngA
  rw [anyE_0 (p := fun i => if TA A head (infA A i) < 0 then 1 else 0) (A 2).toNat (fun e a b => if_neg (by have := hl e a (by omega); omega))]
  rw [if_neg (by omega), if_pos]
  rw [anyE_1 (e := i) h0 (by rw [if_pos h]; omega) (A 2).toNat (by omega)]
  omega
theorem dngA_3 {A : Int → Int} {head m : Int} (hl : ∀ k, 0 ≤ k → k < A 2 → 0 ≤ TA A head (infA A k)) (hb : ∀ i, 0 ≤ i → i < A 2 → ¬ (¬ A (6 + 2 * i + 1) = -1 ∧ A (6 + 2 * i + 1) * unitA A < TA A head (infA A i))) (h0 : 0 ≤ m) (h1 : m ≤ A 0) (h : A 1 * unitA A < iabs (TA A head (mmB A m))) : dngA A head = 3 := by
  unfold dngA
  rw [anyE_0 (p := fun i => if TA A head (infA A i) < 0 then 1 else 0) (A 2).toNat (fun e a b => if_neg (by have := hl e a (by omega); omega))]
  rw [if_neg (by omega), anyE_0 (p := fun i => if ¬ A (6 + 2 * i + 1) = -1 ∧ A (6 + 2 * i + 1) * unitA A < TA A head (infA A i) then 1 else 0) (A 2).toNat (fun e a b => if_neg (hb e a (by omega)))]
  rw [if_neg (by omega), if_pos]
  rw [anyE_1 (e := m) h0 (by rw [if_pos h]; omega) (A 0 + 1).toNat (by omega)]
  omega
theorem dngA_0 {A : Int → Int} {head : Int} (hl : ∀ k, 0 ≤ k → k < A 2 → 0 ≤ TA A head (infA A k)) (hb : ∀ i, 0 ≤ i → i < A 2 → ¬ (¬ A (6 + 2 * i + 1) = -1 ∧ A (6 + 2 * i + 1) * unitA A < TA A head (infA A i))) (hm : ∀ m, 0 ≤ m → m ≤ A 0 → ¬ A 1 * unitA A < iabs (TA A head (mmB A m))) : dngA A head = 0 := by
  unfold dngA
  rw [anyE_0 (p := fun i => if TA A head (infA A i) < 0 then 1 else 0) (A 2).toNat (fun e a b => if_neg (by have := hl e a (by omega); omega))]
  rw [if_neg (by omega), anyE_0 (p := fun i => if ¬ A (6 + 2 * i + 1) = -1 ∧ A (6 + 2 * i + 1) * unitA A < TA A head (infA A i) then 1 else 0) (A 2).toNat (fun e a b => if_neg (hb e a (by omega)))]
  rw [if_neg (by omega), anyE_0 (p := fun m => if A 1 * unitA A < iabs (TA A head (mmB A m)) then 1 else 0) (A 0 + 1).toNat (fun e a b => if_neg (hm e a (by omega)))]
  rw [if_neg (by omega)]
/-- what danger asks of a beam -/
def VD (A : Int → Int) : Prop := VF A ∧ (0 ≤ A 1 ∧ A 1 ≤ 999999) ∧ ∀ k, 0 ≤ k → k < A 2 → -1 ≤ A (6 + 2 * k + 1) ∧ A (6 + 2 * k + 1) ≤ 99999
