/-! small bounds of the determinant, for a beam with its hinges in order -/
def rdM (M : Int → Int → Int) (c : Int) : Int → Int → Int := fun i j => if i = 1 then M 1 j + M 4 j - c * M 0 j else if i = 3 then M 3 j - M 2 j else if i = 4 then M 4 j - M 3 j else M i j
set_option maxHeartbeats 40000000 in
set_option maxRecDepth 1000000 in
theorem rdM_1 (M : Int → Int → Int) (c : Int) : dt5 (fun i j => if i = 1 then M 1 j + M 4 j - c * M 0 j else M i j) 0 1 2 3 4 0 1 2 3 4 = dt5 M 0 1 2 3 4 0 1 2 3 4 := by
  simp [dt5, dt4, dt3, dt2]
  grind
set_option maxHeartbeats 40000000 in
set_option maxRecDepth 1000000 in
theorem rdM_2 (M : Int → Int → Int) : dt5 (fun i j => if i = 4 then M 4 j - M 3 j else M i j) 0 1 2 3 4 0 1 2 3 4 = dt5 M 0 1 2 3 4 0 1 2 3 4 := by
  simp [dt5, dt4, dt3, dt2]
  grind
set_option maxHeartbeats 40000000 in
set_option maxRecDepth 1000000 in
theorem rdM_3 (M : Int → Int → Int) : dt5 (fun i j => if i = 3 then M 3 j - M 2 j else M i j) 0 1 2 3 4 0 1 2 3 4 = dt5 M 0 1 2 3 4 0 1 2 3 4 := by
  simp [dt5, dt4, dt3, dt2]
  grind
def rd1 (M : Int → Int → Int) (c : Int) : Int → Int → Int := fun i j => if i = 1 then M 1 j + M 4 j - c * M 0 j else M i j
def rd2 (M : Int → Int → Int) (c : Int) : Int → Int → Int := fun i j => if i = 4 then rd1 M c 4 j - rd1 M c 3 j else rd1 M c i j
def rd3 (M : Int → Int → Int) (c : Int) : Int → Int → Int := fun i j => if i = 3 then rd2 M c 3 j - rd2 M c 2 j else rd2 M c i j
theorem rdM_e (M : Int → Int → Int) (c : Int) : rdM M c = rd3 M c := by
  funext i j
  unfold rdM rd3 rd2 rd1
  by_cases h1 : i = 1
  · subst h1; simp
  · by_cases h3 : i = 3
    · subst h3; simp
    · by_cases h4 : i = 4
      · subst h4; simp
      · simp [h1, h3, h4]
theorem rdM_d (M : Int → Int → Int) (c : Int) : dt5 (rdM M c) 0 1 2 3 4 0 1 2 3 4 = dt5 M 0 1 2 3 4 0 1 2 3 4 := by
  have h1 : dt5 (rd3 M c) 0 1 2 3 4 0 1 2 3 4 = dt5 (rd2 M c) 0 1 2 3 4 0 1 2 3 4 := rdM_3 (rd2 M c)
  have h2 : dt5 (rd2 M c) 0 1 2 3 4 0 1 2 3 4 = dt5 (rd1 M c) 0 1 2 3 4 0 1 2 3 4 := rdM_2 (rd1 M c)
  have h3 : dt5 (rd1 M c) 0 1 2 3 4 0 1 2 3 4 = dt5 M 0 1 2 3 4 0 1 2 3 4 := rdM_1 M c
  rw [rdM_e, h1, h2, h3]
theorem sq_nn (a : Int) : 0 ≤ a * a := by
  by_cases c : 0 ≤ a
  · exact Int.mul_nonneg c c
  · have := Int.mul_nonneg (show 0 ≤ -a by omega) (show 0 ≤ -a by omega)
    rw [Int.neg_mul_neg] at this
    exact this
theorem am2 {x y s : Int} (x0 : 0 ≤ x) (y0 : 0 ≤ y) (h : x + y ≤ s) : 4 * (x * y) ≤ s * s := by
  have h1 := Int.mul_le_mul h h (by omega) (show 0 ≤ s by omega)
  have h2 := sq_nn (x - y)
  have e : (x - y) * (x - y) = (x + y) * (x + y) - 4 * (x * y) := by grind
  omega
theorem am4 {a b c d : Int} (a0 : 0 ≤ a) (b0 : 0 ≤ b) (c0 : 0 ≤ c) (d0 : 0 ≤ d) (h : a + b + c + d ≤ 30) : (a * b) * (c * d) ≤ 3164 := by
  have h1 := am2 a0 b0 (Int.le_refl (a + b))
  have h2 := am2 c0 d0 (Int.le_refl (c + d))
  have h3 := am2 (show 0 ≤ a + b by omega) (show 0 ≤ c + d by omega) (show (a + b) + (c + d) ≤ 30 by omega)
  have p1 := Int.mul_nonneg a0 b0
  have p2 := Int.mul_nonneg c0 d0
  have q1 := Int.mul_nonneg (show 0 ≤ a + b by omega) (show 0 ≤ c + d by omega)
  have h4 := Int.mul_le_mul h1 h2 (by omega) (by have := sq_nn (a + b); omega)
  have h5 := Int.mul_le_mul (show (a + b) * (c + d) ≤ 225 by omega) (show (a + b) * (c + d) ≤ 225 by omega) q1 (by omega)
  have e1 : 4 * (a * b) * (4 * (c * d)) = 16 * ((a * b) * (c * d)) := by grind
  have e2 : (a + b) * (a + b) * ((c + d) * (c + d)) = (a + b) * (c + d) * ((a + b) * (c + d)) := by grind
  omega
/-- each row with its bound -/
theorem dt5_r {M : Int → Int → Int} {a b c d : Int} (a0 : 0 ≤ a) (b0 : 0 ≤ b) (c0 : 0 ≤ c) (d0 : 0 ≤ d) (h0 : ∀ j, 0 ≤ j → j < 5 → -1 ≤ M 0 j ∧ M 0 j ≤ 1) (h1 : ∀ j, 0 ≤ j → j < 5 → -a ≤ M 1 j ∧ M 1 j ≤ a) (h2 : ∀ j, 0 ≤ j → j < 5 → -b ≤ M 2 j ∧ M 2 j ≤ b) (h3 : ∀ j, 0 ≤ j → j < 5 → -c ≤ M 3 j ∧ M 3 j ≤ c) (h4 : ∀ j, 0 ≤ j → j < 5 → -d ≤ M 4 j ∧ M 4 j ≤ d) :
    -(120 * ((a * b) * (c * d))) ≤ dt5 M 0 1 2 3 4 0 1 2 3 4 ∧ dt5 M 0 1 2 3 4 0 1 2 3 4 ≤ 120 * ((a * b) * (c * d)) := by
  have g2 : ∀ p q, 0 ≤ p → p < 5 → 0 ≤ q → q < 5 → -(2 * (c * d)) ≤ dt2 M 3 4 p q ∧ dt2 M 3 4 p q ≤ 2 * (c * d) := fun p q p0 p1 q0 q1 => by
    have e1 := mulB (h3 p p0 p1).1 (h3 p p0 p1).2 (h4 q q0 q1).1 (h4 q q0 q1).2
    have e2 := mulB (h3 q q0 q1).1 (h3 q q0 q1).2 (h4 p p0 p1).1 (h4 p p0 p1).2
    unfold dt2
    omega
  have g3 : ∀ p q r, 0 ≤ p → p < 5 → 0 ≤ q → q < 5 → 0 ≤ r → r < 5 → -(6 * (b * (c * d))) ≤ dt3 M 2 3 4 p q r ∧ dt3 M 2 3 4 p q r ≤ 6 * (b * (c * d)) := fun p q r p0 p1 q0 q1 r0 r1 => by
    have e1 := mulB (h2 p p0 p1).1 (h2 p p0 p1).2 (g2 q r q0 q1 r0 r1).1 (g2 q r q0 q1 r0 r1).2
    have e2 := mulB (h2 q q0 q1).1 (h2 q q0 q1).2 (g2 p r p0 p1 r0 r1).1 (g2 p r p0 p1 r0 r1).2
    have e3 := mulB (h2 r r0 r1).1 (h2 r r0 r1).2 (g2 p q p0 p1 q0 q1).1 (g2 p q p0 p1 q0 q1).2
    have e : b * (2 * (c * d)) = 2 * (b * (c * d)) := by grind
    unfold dt3
    omega
  have g4 : ∀ p q r s, 0 ≤ p → p < 5 → 0 ≤ q → q < 5 → 0 ≤ r → r < 5 → 0 ≤ s → s < 5 → -(24 * ((a * b) * (c * d))) ≤ dt4 M 1 2 3 4 p q r s ∧ dt4 M 1 2 3 4 p q r s ≤ 24 * ((a * b) * (c * d)) := fun p q r s p0 p1 q0 q1 r0 r1 s0 s1 => by
    have e1 := mulB (h1 p p0 p1).1 (h1 p p0 p1).2 (g3 q r s q0 q1 r0 r1 s0 s1).1 (g3 q r s q0 q1 r0 r1 s0 s1).2
    have e2 := mulB (h1 q q0 q1).1 (h1 q q0 q1).2 (g3 p r s p0 p1 r0 r1 s0 s1).1 (g3 p r s p0 p1 r0 r1 s0 s1).2
    have e3 := mulB (h1 r r0 r1).1 (h1 r r0 r1).2 (g3 p q s p0 p1 q0 q1 s0 s1).1 (g3 p q s p0 p1 q0 q1 s0 s1).2
    have e4 := mulB (h1 s s0 s1).1 (h1 s s0 s1).2 (g3 p q r p0 p1 q0 q1 r0 r1).1 (g3 p q r p0 p1 q0 q1 r0 r1).2
    have e : a * (6 * (b * (c * d))) = 6 * ((a * b) * (c * d)) := by grind
    unfold dt4
    omega
  have w := g4
  have e1 := mulB (h0 0 (by omega) (by omega)).1 (h0 0 (by omega) (by omega)).2 (g4 1 2 3 4 (by omega) (by omega) (by omega) (by omega) (by omega) (by omega) (by omega) (by omega)).1 (g4 1 2 3 4 (by omega) (by omega) (by omega) (by omega) (by omega) (by omega) (by omega) (by omega)).2
  have e2 := mulB (h0 1 (by omega) (by omega)).1 (h0 1 (by omega) (by omega)).2 (g4 0 2 3 4 (by omega) (by omega) (by omega) (by omega) (by omega) (by omega) (by omega) (by omega)).1 (g4 0 2 3 4 (by omega) (by omega) (by omega) (by omega) (by omega) (by omega) (by omega) (by omega)).2
  have e3 := mulB (h0 2 (by omega) (by omega)).1 (h0 2 (by omega) (by omega)).2 (g4 0 1 3 4 (by omega) (by omega) (by omega) (by omega) (by omega) (by omega) (by omega) (by omega)).1 (g4 0 1 3 4 (by omega) (by omega) (by omega) (by omega) (by omega) (by omega) (by omega) (by omega)).2
  have e4 := mulB (h0 3 (by omega) (by omega)).1 (h0 3 (by omega) (by omega)).2 (g4 0 1 2 4 (by omega) (by omega) (by omega) (by omega) (by omega) (by omega) (by omega) (by omega)).1 (g4 0 1 2 4 (by omega) (by omega) (by omega) (by omega) (by omega) (by omega) (by omega) (by omega)).2
  have e5 := mulB (h0 4 (by omega) (by omega)).1 (h0 4 (by omega) (by omega)).2 (g4 0 1 2 3 (by omega) (by omega) (by omega) (by omega) (by omega) (by omega) (by omega) (by omega)).1 (g4 0 1 2 3 (by omega) (by omega) (by omega) (by omega) (by omega) (by omega) (by omega) (by omega)).2
  rw [Int.one_mul] at e1 e2 e3 e4 e5
  unfold dt5
  omega
def HS (A : Int → Int) : Prop := ∀ k, 0 ≤ k → k + 1 < A 2 - 2 → A (16 + k) ≤ A (16 + (k + 1))
theorem mxA_in {A : Int → Int} {sup x e t : Int} (e0 : 0 ≤ e) (e1 : e < A 2) (t0 : 0 ≤ t) (t1 : t < A 2) : mxA A sup x e t = lvA A e (plA A sup x t) := if_pos ⟨e0, e1, t0, t1⟩
theorem lv_0 (A : Int → Int) (x : Int) : lvA A 0 x = 1 := if_pos rfl
theorem lv_1 (A : Int → Int) (x : Int) : lvA A 1 x = x := by
  unfold lvA
  rw [if_neg (by omega), if_pos rfl]
theorem lv_h {A : Int → Int} {e x : Int} (he : 2 ≤ e) : lvA A e x = imax 0 (A (16 + (e - 2)) - x) := by
  unfold lvA
  rw [if_neg (by omega), if_neg (by omega), show 16 + e - 2 = 16 + (e - 2) by omega]
theorem imax_0 (y : Int) : (0 < y ∧ imax 0 y = y) ∨ (y ≤ 0 ∧ imax 0 y = 0) := by
  unfold imax
  by_cases c : 0 < y
  · rw [if_pos c]; exact Or.inl ⟨c, rfl⟩
  · rw [if_neg c]; exact Or.inr ⟨by omega, rfl⟩
theorem DA_s {A : Int → Int} (hC : VC A) (hS : HS A) {sup x : Int} (x0 : 0 ≤ x) (x1 : x ≤ 30) : -648000 ≤ DA A sup x ∧ DA A sup x ≤ 648000 := by
  have n2 := hC.2.2.1
  have n5 := hC.2.2.2.1
  have hB := mxA_B hC (sup := sup) x0 x1
  obtain h | h | h | h : A 2 = 2 ∨ A 2 = 3 ∨ A 2 = 4 ∨ A 2 = 5 := by omega
  · have e : DA A sup x = dt2 (mxA A sup x) 0 1 0 1 := by unfold DA; rw [h]; rfl
    have := dt2_b hB 0 1 0 1
    omega
  · have e : DA A sup x = dt3 (mxA A sup x) 0 1 2 0 1 2 := by unfold DA; rw [h]; rfl
    have := dt3_b hB 0 1 2 0 1 2
    omega
  · have e : DA A sup x = dt4 (mxA A sup x) 0 1 2 3 0 1 2 3 := by unfold DA; rw [h]; rfl
    have o : ∀ j, 0 ≤ j → j < 4 → mxA A sup x 0 j = 1 := fun j j0 j1 => by rw [mxA_in (by omega) (by omega) j0 (by omega), lv_0]
    have c1 := dt3_b hB 1 2 3 1 2 3
    have c2 := dt3_b hB 1 2 3 0 2 3
    have c3 := dt3_b hB 1 2 3 0 1 3
    have c4 := dt3_b hB 1 2 3 0 1 2
    rw [e]
    unfold dt4
    rw [o 0 (by omega) (by omega), o 1 (by omega) (by omega), o 2 (by omega) (by omega), o 3 (by omega) (by omega)]
    omega
  · have e : DA A sup x = dt5 (mxA A sup x) 0 1 2 3 4 0 1 2 3 4 := by unfold DA; rw [h]; rfl
    have s1 : A (16 + 0) ≤ A (16 + 1) := hS 0 (by omega) (by omega)
    have s2 : A (16 + 1) ≤ A (16 + 2) := hS 1 (by omega) (by omega)
    have b0 := hC.2.2.2.2.2 0 (by omega) (by omega)
    have b1 := hC.2.2.2.2.2 1 (by omega) (by omega)
    have b2 := hC.2.2.2.2.2 2 (by omega) (by omega)
    have hp : ∀ j, 0 ≤ j → j < 5 → 0 ≤ plA A sup x j ∧ plA A sup x j ≤ 30 := fun j j0 j1 => plA_b hC x0 x1 j0 (by omega)
    have m0 : ∀ j, 0 ≤ j → j < 5 → mxA A sup x 0 j = 1 := fun j j0 j1 => by rw [mxA_in (by omega) (by omega) j0 (by omega), lv_0]
    have m1 : ∀ j, 0 ≤ j → j < 5 → mxA A sup x 1 j = plA A sup x j := fun j j0 j1 => by rw [mxA_in (by omega) (by omega) j0 (by omega), lv_1]
    have m2 : ∀ j, 0 ≤ j → j < 5 → mxA A sup x 2 j = imax 0 (A (16 + 0) - plA A sup x j) := fun j j0 j1 => by rw [mxA_in (by omega) (by omega) j0 (by omega), lv_h (by omega), show (2 : Int) - 2 = 0 by omega]
    have m3 : ∀ j, 0 ≤ j → j < 5 → mxA A sup x 3 j = imax 0 (A (16 + 1) - plA A sup x j) := fun j j0 j1 => by rw [mxA_in (by omega) (by omega) j0 (by omega), lv_h (by omega), show (3 : Int) - 2 = 1 by omega]
    have m4 : ∀ j, 0 ≤ j → j < 5 → mxA A sup x 4 j = imax 0 (A (16 + 2) - plA A sup x j) := fun j j0 j1 => by rw [mxA_in (by omega) (by omega) j0 (by omega), lv_h (by omega), show (4 : Int) - 2 = 2 by omega]
    rw [e, ← rdM_d _ (A (16 + 2))]
    have am := am4 (show 0 ≤ 30 - A (16 + 2) by omega) b0.1 (show 0 ≤ A (16 + 1) - A (16 + 0) by omega) (show 0 ≤ A (16 + 2) - A (16 + 1) by omega) (by omega)
    have r := dt5_r (M := rdM (mxA A sup x) (A (16 + 2))) (show 0 ≤ 30 - A (16 + 2) by omega) b0.1 (show 0 ≤ A (16 + 1) - A (16 + 0) by omega) (show 0 ≤ A (16 + 2) - A (16 + 1) by omega) (fun j j0 j1 => ?_) (fun j j0 j1 => ?_) (fun j j0 j1 => ?_) (fun j j0 j1 => ?_) (fun j j0 j1 => ?_)
    · omega
    · show -1 ≤ mxA A sup x 0 j ∧ mxA A sup x 0 j ≤ 1
      rw [m0 j j0 j1]; omega
    · show -(30 - A (16 + 2)) ≤ mxA A sup x 1 j + mxA A sup x 4 j - A (16 + 2) * mxA A sup x 0 j ∧ mxA A sup x 1 j + mxA A sup x 4 j - A (16 + 2) * mxA A sup x 0 j ≤ 30 - A (16 + 2)
      rw [m0 j j0 j1, m1 j j0 j1, m4 j j0 j1, Int.mul_one]
      have := hp j j0 j1
      rcases imax_0 (A (16 + 2) - plA A sup x j) with z | z <;> omega
    · show -A (16 + 0) ≤ mxA A sup x 2 j ∧ mxA A sup x 2 j ≤ A (16 + 0)
      rw [m2 j j0 j1]
      have := hp j j0 j1
      rcases imax_0 (A (16 + 0) - plA A sup x j) with z | z <;> omega
    · show -(A (16 + 1) - A (16 + 0)) ≤ mxA A sup x 3 j - mxA A sup x 2 j ∧ mxA A sup x 3 j - mxA A sup x 2 j ≤ A (16 + 1) - A (16 + 0)
      rw [m2 j j0 j1, m3 j j0 j1]
      have := hp j j0 j1
      rcases imax_0 (A (16 + 0) - plA A sup x j) with z | z <;> rcases imax_0 (A (16 + 1) - plA A sup x j) with y | y <;> omega
    · show -(A (16 + 2) - A (16 + 1)) ≤ mxA A sup x 4 j - mxA A sup x 3 j ∧ mxA A sup x 4 j - mxA A sup x 3 j ≤ A (16 + 2) - A (16 + 1)
      rw [m3 j j0 j1, m4 j j0 j1]
      have := hp j j0 j1
      rcases imax_0 (A (16 + 1) - plA A sup x j) with z | z <;> rcases imax_0 (A (16 + 2) - plA A sup x j) with y | y <;> omega
theorem infA_s {A : Int → Int} (hC : VC A) (hS : HS A) (s : Int) {x : Int} (hx : 0 ≤ x) (hx2 : x ≤ 30) : -648000 ≤ infA A s x ∧ infA A s x ≤ 648000 := by
  have := DA_s hC hS (sup := s) hx hx2
  exact tdiv_B this.1 this.2
theorem unitA_s {A : Int → Int} (hC : VC A) (hS : HS A) : -648000 ≤ unitA A ∧ unitA A ≤ 648000 := by
  have := DA_s hC hS (sup := -1) (x := 0) (by omega) (by omega)
  exact tdiv_B this.1 this.2
theorem mmB_s {A : Int → Int} (hA : VC A) (hS : HS A) {m : Int} (hm : 0 ≤ m) (hm2 : m ≤ 30) {x : Int} (hx : 0 ≤ x) (hx2 : x ≤ 30) : -116640000 ≤ mmB A m x ∧ mmB A m x ≤ 116640000 := by
  have n5 := hA.2.2.2.1
  have n2 := hA.2.2.1
  have hu := unitA_s hA hS
  have hs := smE_b (f := fun k => if m ≤ A (6 + 2 * k) then 0 else infA A k x * (m - A (6 + 2 * k))) (C := 19440000) (A 2).toNat (fun e e0 e1 => by
    have h1 := infA_s hA hS e hx hx2
    have h2 := hA.2.2.2.2.1 e e0 (by omega)
    show -19440000 ≤ (if m ≤ A (6 + 2 * e) then 0 else infA A e x * (m - A (6 + 2 * e))) ∧ (if m ≤ A (6 + 2 * e) then 0 else infA A e x * (m - A (6 + 2 * e))) ≤ 19440000
    split
    · omega
    · have := mulB h1.1 h1.2 (show -30 ≤ m - A (6 + 2 * e) by omega) (show m - A (6 + 2 * e) ≤ 30 by omega)
      omega)
  rw [show (((A 2).toNat : Nat) : Int) = A 2 by omega] at hs
  unfold mmB
  split
  · omega
  · have := mulB (show -648000 ≤ - unitA A by omega) (show - unitA A ≤ 648000 by omega) (show -30 ≤ m - x by omega) (show m - x ≤ 30 by omega)
    omega
theorem TAm_s {A : Int → Int} (hA : VF A) (hS : HS A) (head : Int) {m : Int} (hm : 0 ≤ m) (hm2 : m ≤ 30) : -1700000000000 ≤ TA A head (mmB A m) ∧ TA A head (mmB A m) ≤ 1700000000000 := by
  have b4 := hA.2.2.2.1
  have b5 := hA.2.2.2.2.1
  have l3 := hA.1.2.1
  have hf : ∀ x, 0 ≤ x → x ≤ A 0 → -116640000 ≤ mmB A m x ∧ mmB A m x ≤ 116640000 := fun x x0 x1 => mmB_s hA.1 hS hm hm2 x0 (by omega)
  have h1 := smE_b (f := fun k => A (19 + 2 * k) * mmB A m (A (19 + 2 * k + 1))) (C := 116523360000) (A 4).toNat (fun e e0 e1 => by
    have h1 := hA.2.2.2.2.2.1 e e0 (by omega)
    have h2 := hf _ h1.2.1 h1.2.2
    have := mulB (show -999 ≤ A (19 + 2 * e) by omega) h1.1.2 h2.1 h2.2
    show -116523360000 ≤ A (19 + 2 * e) * mmB A m (A (19 + 2 * e + 1)) ∧ A (19 + 2 * e) * mmB A m (A (19 + 2 * e + 1)) ≤ 116523360000
    omega)
  have h2 := smE_b (f := fun k => if onA A k head then A (35 + 2 * k) * mmB A m (head - A (35 + 2 * k + 1)) else 0) (C := 116523360000) (A 5).toNat (fun e e0 e1 => by
    have h1 := hA.2.2.2.2.2.2 e e0 (by omega)
    show -116523360000 ≤ (if onA A e head then A (35 + 2 * e) * mmB A m (head - A (35 + 2 * e + 1)) else 0) ∧ (if onA A e head then A (35 + 2 * e) * mmB A m (head - A (35 + 2 * e + 1)) else 0) ≤ 116523360000
    split
    · rename_i q
      have h2 := hf _ q.2.1 q.2.2
      have := mulB (show -999 ≤ A (35 + 2 * e) by omega) h1.1.2 h2.1 h2.2
      omega
    · omega)
  rw [show (((A 4).toNat : Nat) : Int) = A 4 by omega] at h1
  rw [show (((A 5).toNat : Nat) : Int) = A 5 by omega] at h2
  unfold TA
  omega
theorem gPk_s {A : Int → Int} (hA : VF A) (hS : HS A) {q : Int} (h : Int) (h0 : 0 ≤ q) (h1 : q ≤ A 0) : 0 ≤ gPk A q h ∧ gPk A q h ≤ 1700000000000 := by
  have := TAm_s hA hS h h0 (show q ≤ 30 by have := hA.1.2.1; omega)
  exact ⟨iabs_nn _, iabs_b this.1 this.2⟩
theorem cg_dvd (a b : Int) : cg a b ∣ a := Int.gcd_dvd_left a b
theorem gR_dvd (A : Int → Int) (s : Int) (g : Int) : ∀ m : Nat, gR A s m g ∣ g
  | 0 => Int.dvd_refl g
  | m + 1 => Int.dvd_trans (cg_dvd _ _) (gR_dvd A s g m)
theorem gAll_dvd (A : Int → Int) : ∀ m : Nat, gAll A m ∣ DA A (-1) 0
  | 0 => Int.dvd_refl _
  | m + 1 => Int.dvd_trans (gR_dvd A m _ _) (gAll_dvd A m)
theorem unitA_pos {A : Int → Int} (hA : VC A) (hD : ¬ DA A (-1) 0 = 0) : 1 ≤ unitA A := by
  have g0 : 0 ≤ gA A := gA_nn hA
  have g1 : ¬ gA A = 0 := (gAll_B hA hD (A 2).toNat).1
  obtain ⟨c, hc⟩ : gA A ∣ DA A (-1) 0 := gAll_dvd A (A 2).toNat
  unfold unitA
  by_cases d : 0 ≤ DA A (-1) 0
  · rw [if_pos d, hc, Int.mul_tdiv_cancel_left c g1]
    by_cases e : c ≤ 0
    · have := Int.mul_nonneg g0 (show 0 ≤ -c by omega)
      rw [Int.mul_neg] at this
      omega
    · omega
  · rw [if_neg d, hc, Int.tdiv_neg, Int.mul_tdiv_cancel_left c g1]
    by_cases e : 0 ≤ c
    · have := Int.mul_nonneg g0 e
      omega
    · omega
