/-! the model's determinant: Bareiss' steps give dt2..dt5 -/
theorem mulB {a b A B : Int} (h1 : -A ≤ a) (h2 : a ≤ A) (h3 : -B ≤ b) (h4 : b ≤ B) : -(A * B) ≤ a * b ∧ a * b ≤ A * B := by
  have e1 := Int.mul_nonneg (show 0 ≤ A - a by omega) (show 0 ≤ B + b by omega)
  have e2 := Int.mul_nonneg (show 0 ≤ A + a by omega) (show 0 ≤ B - b by omega)
  have e3 := Int.mul_nonneg (show 0 ≤ A - a by omega) (show 0 ≤ B - b by omega)
  have e4 := Int.mul_nonneg (show 0 ≤ A + a by omega) (show 0 ≤ B + b by omega)
  have f1 : (A - a) * (B + b) = A * B + A * b - a * B - a * b := by grind
  have f2 : (A + a) * (B - b) = A * B - A * b + a * B - a * b := by grind
  have f3 : (A - a) * (B - b) = A * B - A * b - a * B + a * b := by grind
  have f4 : (A + a) * (B + b) = A * B + A * b + a * B + a * b := by grind
  constructor <;> omega
def bdk (M : Int → Int → Int) (k i j : Int) : Int := if k = 0 then M i j else if k = 1 then bd1 M i j else if k = 2 then bd2 M i j else if k = 3 then bd3 M i j else bd4 M i j
def prk (M : Int → Int → Int) (k : Int) : Int := if k = 0 then 1 else bdk M (k - 1) (k - 1) (k - 1)
theorem bd_syl {M : Int → Int → Int} {k i j : Int} (h0 : 0 ≤ k) (h3 : k ≤ 3) : bdk M k i j * bdk M k k k - bdk M k i k * bdk M k k j = prk M k * bdk M (k + 1) i j := by
  obtain rfl | rfl | rfl | rfl : k = 0 ∨ k = 1 ∨ k = 2 ∨ k = 3 := by omega
  · show M i j * M 0 0 - M i 0 * M 0 j = 1 * (M 0 0 * M i j - M 0 j * M i 0)
    grind
  · exact bar1 M i j
  · exact bar2 M i j
  · exact bar3 M i j
def MB (M : Int → Int → Int) : Prop := ∀ i j, -30 ≤ M i j ∧ M i j ≤ 30
theorem dt2_b {M : Int → Int → Int} (h : MB M) (a b c d : Int) : -1800 ≤ dt2 M a b c d ∧ dt2 M a b c d ≤ 1800 := by
  have h1 := mulB (h a c).1 (h a c).2 (h b d).1 (h b d).2
  have h2 := mulB (h a d).1 (h a d).2 (h b c).1 (h b c).2
  unfold dt2
  omega
theorem dt3_b {M : Int → Int → Int} (h : MB M) (r0 r1 r2 c0 c1 c2 : Int) : -162000 ≤ dt3 M r0 r1 r2 c0 c1 c2 ∧ dt3 M r0 r1 r2 c0 c1 c2 ≤ 162000 := by
  have g := dt2_b h
  have h1 := mulB (h r0 c0).1 (h r0 c0).2 (g r1 r2 c1 c2).1 (g r1 r2 c1 c2).2
  have h2 := mulB (h r0 c1).1 (h r0 c1).2 (g r1 r2 c0 c2).1 (g r1 r2 c0 c2).2
  have h3 := mulB (h r0 c2).1 (h r0 c2).2 (g r1 r2 c0 c1).1 (g r1 r2 c0 c1).2
  unfold dt3
  omega
theorem dt4_b {M : Int → Int → Int} (h : MB M) (r0 r1 r2 r3 c0 c1 c2 c3 : Int) : -19440000 ≤ dt4 M r0 r1 r2 r3 c0 c1 c2 c3 ∧ dt4 M r0 r1 r2 r3 c0 c1 c2 c3 ≤ 19440000 := by
  have g := dt3_b h
  have h1 := mulB (h r0 c0).1 (h r0 c0).2 (g r1 r2 r3 c1 c2 c3).1 (g r1 r2 r3 c1 c2 c3).2
  have h2 := mulB (h r0 c1).1 (h r0 c1).2 (g r1 r2 r3 c0 c2 c3).1 (g r1 r2 r3 c0 c2 c3).2
  have h3 := mulB (h r0 c2).1 (h r0 c2).2 (g r1 r2 r3 c0 c1 c3).1 (g r1 r2 r3 c0 c1 c3).2
  have h4 := mulB (h r0 c3).1 (h r0 c3).2 (g r1 r2 r3 c0 c1 c2).1 (g r1 r2 r3 c0 c1 c2).2
  unfold dt4
  omega
theorem dt5_b {M : Int → Int → Int} (h : MB M) (r0 r1 r2 r3 r4 c0 c1 c2 c3 c4 : Int) : -2916000000 ≤ dt5 M r0 r1 r2 r3 r4 c0 c1 c2 c3 c4 ∧ dt5 M r0 r1 r2 r3 r4 c0 c1 c2 c3 c4 ≤ 2916000000 := by
  have g := dt4_b h
  have h1 := mulB (h r0 c0).1 (h r0 c0).2 (g r1 r2 r3 r4 c1 c2 c3 c4).1 (g r1 r2 r3 r4 c1 c2 c3 c4).2
  have h2 := mulB (h r0 c1).1 (h r0 c1).2 (g r1 r2 r3 r4 c0 c2 c3 c4).1 (g r1 r2 r3 r4 c0 c2 c3 c4).2
  have h3 := mulB (h r0 c2).1 (h r0 c2).2 (g r1 r2 r3 r4 c0 c1 c3 c4).1 (g r1 r2 r3 r4 c0 c1 c3 c4).2
  have h4 := mulB (h r0 c3).1 (h r0 c3).2 (g r1 r2 r3 r4 c0 c1 c2 c4).1 (g r1 r2 r3 r4 c0 c1 c2 c4).2
  have h5 := mulB (h r0 c4).1 (h r0 c4).2 (g r1 r2 r3 r4 c0 c1 c2 c3).1 (g r1 r2 r3 r4 c0 c1 c2 c3).2
  unfold dt5
  omega
theorem bdk_b {M : Int → Int → Int} (h : MB M) {k : Int} (h3 : k ≤ 3) (h0 : 0 ≤ k) (i j : Int) : -19440000 ≤ bdk M k i j ∧ bdk M k i j ≤ 19440000 := by
  unfold bdk bd1 bd2 bd3 bd4
  have a1 := h i j
  have a2 := dt2_b h 0 i 0 j
  have a3 := dt3_b h 0 1 i 0 1 j
  have a4 := dt4_b h 0 1 2 i 0 1 2 j
  repeat' split
  all_goals omega
theorem bdk_b4 {M : Int → Int → Int} (h : MB M) {k : Int} (i j : Int) : -2916000000 ≤ bdk M k i j ∧ bdk M k i j ≤ 2916000000 := by
  unfold bdk bd1 bd2 bd3 bd4
  have a1 := h i j
  have a2 := dt2_b h 0 i 0 j
  have a3 := dt3_b h 0 1 i 0 1 j
  have a4 := dt4_b h 0 1 2 i 0 1 2 j
  have a5 := dt5_b h 0 1 2 3 i 0 1 2 3 j
  repeat' split
  all_goals omega
theorem inL_s {x : Int} (h1 : -1000000000000000000 ≤ x) (h2 : x ≤ 1000000000000000000) : inL x := ⟨by omega, by omega⟩
/-- rows p and k change places -/
def swM (M : Int → Int → Int) (k p : Int) : Int → Int → Int := fun i j => M (if i = k then p else if i = p then k else i) j
theorem swM_B {M : Int → Int → Int} (h : MB M) (k p : Int) : MB (swM M k p) := fun i j => h _ j
theorem swM_self (M : Int → Int → Int) (k : Int) : swM M k k = M := by
  funext i j
  unfold swM
  split
  · rename_i h; rw [h]
  · rfl
theorem bdk_sw {M : Int → Int → Int} {k p i j : Int} (hk : 0 ≤ k) (hk4 : k ≤ 4) (hp : k ≤ p) : bdk (swM M k p) k i j = bdk M k (if i = k then p else if i = p then k else i) j := by
  obtain rfl | rfl | rfl | rfl | rfl : k = 0 ∨ k = 1 ∨ k = 2 ∨ k = 3 ∨ k = 4 := by omega
  · rfl
  · show bd1 _ _ _ = bd1 _ _ _
    unfold bd1 dt2 swM
    rw [if_neg (show ¬ (0 : Int) = 1 by omega), if_neg (show ¬ (0 : Int) = p by omega)]
  · show bd2 _ _ _ = bd2 _ _ _
    unfold bd2 dt3 dt2 swM
    rw [if_neg (show ¬ (0 : Int) = 2 by omega), if_neg (show ¬ (0 : Int) = p by omega), if_neg (show ¬ (1 : Int) = 2 by omega), if_neg (show ¬ (1 : Int) = p by omega)]
  · show bd3 _ _ _ = bd3 _ _ _
    unfold bd3 dt4 dt3 dt2 swM
    rw [if_neg (show ¬ (0 : Int) = 3 by omega), if_neg (show ¬ (0 : Int) = p by omega), if_neg (show ¬ (1 : Int) = 3 by omega), if_neg (show ¬ (1 : Int) = p by omega), if_neg (show ¬ (2 : Int) = 3 by omega), if_neg (show ¬ (2 : Int) = p by omega)]
  · show bd4 _ _ _ = bd4 _ _ _
    unfold bd4 dt5 dt4 dt3 dt2 swM
    rw [if_neg (show ¬ (0 : Int) = 4 by omega), if_neg (show ¬ (0 : Int) = p by omega), if_neg (show ¬ (1 : Int) = 4 by omega), if_neg (show ¬ (1 : Int) = p by omega), if_neg (show ¬ (2 : Int) = 4 by omega), if_neg (show ¬ (2 : Int) = p by omega), if_neg (show ¬ (3 : Int) = 4 by omega), if_neg (show ¬ (3 : Int) = p by omega)]
def dtn (M : Int → Int → Int) (n : Int) : Int := bdk M (n - 1) (n - 1) (n - 1)
