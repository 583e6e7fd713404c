theorem sw2_01 (M : Int → Int → Int) : dt2 (swM M 0 1) 0 1 0 1 = - (dt2 M 0 1 0 1) := by
  show dt2 M 1 0 0 1 = _
  rw [ds2_0 M 0 1 0 1]
theorem sw3_01 (M : Int → Int → Int) : dt3 (swM M 0 1) 0 1 2 0 1 2 = - (dt3 M 0 1 2 0 1 2) := by
  show dt3 M 1 0 2 0 1 2 = _
  rw [ds3_0 M 0 1 2 0 1 2]
theorem sw3_02 (M : Int → Int → Int) : dt3 (swM M 0 2) 0 1 2 0 1 2 = - (dt3 M 0 1 2 0 1 2) := by
  show dt3 M 2 1 0 0 1 2 = _
  rw [ds3_0 M 1 2 0 0 1 2, ds3_1 M 1 0 2 0 1 2, ds3_0 M 0 1 2 0 1 2]
  omega
theorem sw3_12 (M : Int → Int → Int) : dt3 (swM M 1 2) 0 1 2 0 1 2 = - (dt3 M 0 1 2 0 1 2) := by
  show dt3 M 0 2 1 0 1 2 = _
  rw [ds3_1 M 0 1 2 0 1 2]
theorem sw4_01 (M : Int → Int → Int) : dt4 (swM M 0 1) 0 1 2 3 0 1 2 3 = - (dt4 M 0 1 2 3 0 1 2 3) := by
  show dt4 M 1 0 2 3 0 1 2 3 = _
  rw [ds4_0 M 0 1 2 3 0 1 2 3]
theorem sw4_02 (M : Int → Int → Int) : dt4 (swM M 0 2) 0 1 2 3 0 1 2 3 = - (dt4 M 0 1 2 3 0 1 2 3) := by
  show dt4 M 2 1 0 3 0 1 2 3 = _
  rw [ds4_0 M 1 2 0 3 0 1 2 3, ds4_1 M 1 0 2 3 0 1 2 3, ds4_0 M 0 1 2 3 0 1 2 3]
  omega
theorem sw4_03 (M : Int → Int → Int) : dt4 (swM M 0 3) 0 1 2 3 0 1 2 3 = - (dt4 M 0 1 2 3 0 1 2 3) := by
  show dt4 M 3 1 2 0 0 1 2 3 = _
  rw [ds4_0 M 1 3 2 0 0 1 2 3, ds4_1 M 1 2 3 0 0 1 2 3, ds4_2 M 1 2 0 3 0 1 2 3, ds4_1 M 1 0 2 3 0 1 2 3, ds4_0 M 0 1 2 3 0 1 2 3]
  omega
theorem sw4_12 (M : Int → Int → Int) : dt4 (swM M 1 2) 0 1 2 3 0 1 2 3 = - (dt4 M 0 1 2 3 0 1 2 3) := by
  show dt4 M 0 2 1 3 0 1 2 3 = _
  rw [ds4_1 M 0 1 2 3 0 1 2 3]
theorem sw4_13 (M : Int → Int → Int) : dt4 (swM M 1 3) 0 1 2 3 0 1 2 3 = - (dt4 M 0 1 2 3 0 1 2 3) := by
  show dt4 M 0 3 2 1 0 1 2 3 = _
  rw [ds4_1 M 0 2 3 1 0 1 2 3, ds4_2 M 0 2 1 3 0 1 2 3, ds4_1 M 0 1 2 3 0 1 2 3]
  omega
theorem sw4_23 (M : Int → Int → Int) : dt4 (swM M 2 3) 0 1 2 3 0 1 2 3 = - (dt4 M 0 1 2 3 0 1 2 3) := by
  show dt4 M 0 1 3 2 0 1 2 3 = _
  rw [ds4_2 M 0 1 2 3 0 1 2 3]
theorem sw5_01 (M : Int → Int → Int) : dt5 (swM M 0 1) 0 1 2 3 4 0 1 2 3 4 = - (dt5 M 0 1 2 3 4 0 1 2 3 4) := by
  show dt5 M 1 0 2 3 4 0 1 2 3 4 = _
  rw [ds5_0 M 0 1 2 3 4 0 1 2 3 4]
theorem sw5_02 (M : Int → Int → Int) : dt5 (swM M 0 2) 0 1 2 3 4 0 1 2 3 4 = - (dt5 M 0 1 2 3 4 0 1 2 3 4) := by
  show dt5 M 2 1 0 3 4 0 1 2 3 4 = _
  rw [ds5_0 M 1 2 0 3 4 0 1 2 3 4, ds5_1 M 1 0 2 3 4 0 1 2 3 4, ds5_0 M 0 1 2 3 4 0 1 2 3 4]
  omega
theorem sw5_03 (M : Int → Int → Int) : dt5 (swM M 0 3) 0 1 2 3 4 0 1 2 3 4 = - (dt5 M 0 1 2 3 4 0 1 2 3 4) := by
  show dt5 M 3 1 2 0 4 0 1 2 3 4 = _
  rw [ds5_0 M 1 3 2 0 4 0 1 2 3 4, ds5_1 M 1 2 3 0 4 0 1 2 3 4, ds5_2 M 1 2 0 3 4 0 1 2 3 4, ds5_1 M 1 0 2 3 4 0 1 2 3 4, ds5_0 M 0 1 2 3 4 0 1 2 3 4]
  omega
theorem sw5_04 (M : Int → Int → Int) : dt5 (swM M 0 4) 0 1 2 3 4 0 1 2 3 4 = - (dt5 M 0 1 2 3 4 0 1 2 3 4) := by
  show dt5 M 4 1 2 3 0 0 1 2 3 4 = _
  rw [ds5_0 M 1 4 2 3 0 0 1 2 3 4, ds5_1 M 1 2 4 3 0 0 1 2 3 4, ds5_2 M 1 2 3 4 0 0 1 2 3 4, ds5_3 M 1 2 3 0 4 0 1 2 3 4, ds5_2 M 1 2 0 3 4 0 1 2 3 4, ds5_1 M 1 0 2 3 4 0 1 2 3 4, ds5_0 M 0 1 2 3 4 0 1 2 3 4]
  omega
theorem sw5_12 (M : Int → Int → Int) : dt5 (swM M 1 2) 0 1 2 3 4 0 1 2 3 4 = - (dt5 M 0 1 2 3 4 0 1 2 3 4) := by
  show dt5 M 0 2 1 3 4 0 1 2 3 4 = _
  rw [ds5_1 M 0 1 2 3 4 0 1 2 3 4]
theorem sw5_13 (M : Int → Int → Int) : dt5 (swM M 1 3) 0 1 2 3 4 0 1 2 3 4 = - (dt5 M 0 1 2 3 4 0 1 2 3 4) := by
  show dt5 M 0 3 2 1 4 0 1 2 3 4 = _
  rw [ds5_1 M 0 2 3 1 4 0 1 2 3 4, ds5_2 M 0 2 1 3 4 0 1 2 3 4, ds5_1 M 0 1 2 3 4 0 1 2 3 4]
  omega
theorem sw5_14 (M : Int → Int → Int) : dt5 (swM M 1 4) 0 1 2 3 4 0 1 2 3 4 = - (dt5 M 0 1 2 3 4 0 1 2 3 4) := by
  show dt5 M 0 4 2 3 1 0 1 2 3 4 = _
  rw [ds5_1 M 0 2 4 3 1 0 1 2 3 4, ds5_2 M 0 2 3 4 1 0 1 2 3 4, ds5_3 M 0 2 3 1 4 0 1 2 3 4, ds5_2 M 0 2 1 3 4 0 1 2 3 4, ds5_1 M 0 1 2 3 4 0 1 2 3 4]
  omega
theorem sw5_23 (M : Int → Int → Int) : dt5 (swM M 2 3) 0 1 2 3 4 0 1 2 3 4 = - (dt5 M 0 1 2 3 4 0 1 2 3 4) := by
  show dt5 M 0 1 3 2 4 0 1 2 3 4 = _
  rw [ds5_2 M 0 1 2 3 4 0 1 2 3 4]
theorem sw5_24 (M : Int → Int → Int) : dt5 (swM M 2 4) 0 1 2 3 4 0 1 2 3 4 = - (dt5 M 0 1 2 3 4 0 1 2 3 4) := by
  show dt5 M 0 1 4 3 2 0 1 2 3 4 = _
  rw [ds5_2 M 0 1 3 4 2 0 1 2 3 4, ds5_3 M 0 1 3 2 4 0 1 2 3 4, ds5_2 M 0 1 2 3 4 0 1 2 3 4]
  omega
theorem sw5_34 (M : Int → Int → Int) : dt5 (swM M 3 4) 0 1 2 3 4 0 1 2 3 4 = - (dt5 M 0 1 2 3 4 0 1 2 3 4) := by
  show dt5 M 0 1 2 4 3 0 1 2 3 4 = _
  rw [ds5_3 M 0 1 2 3 4 0 1 2 3 4]
theorem dtn_sw {M : Int → Int → Int} {n k p : Int} (hn : 2 ≤ n) (hn5 : n ≤ 5) (hk : 0 ≤ k) (hp : k < p) (hpn : p < n) : dtn (swM M k p) n = - dtn M n := by
  obtain rfl | rfl | rfl | rfl : n = 2 ∨ n = 3 ∨ n = 4 ∨ n = 5 := by omega
  · obtain ⟨rfl, rfl⟩ : (k = 0 ∧ p = 1) := by omega
    · exact sw2_01 M
  · obtain ⟨rfl, rfl⟩ | ⟨rfl, rfl⟩ | ⟨rfl, rfl⟩ : (k = 0 ∧ p = 1) ∨ (k = 0 ∧ p = 2) ∨ (k = 1 ∧ p = 2) := by omega
    · exact sw3_01 M
    · exact sw3_02 M
    · exact sw3_12 M
  · obtain ⟨rfl, rfl⟩ | ⟨rfl, rfl⟩ | ⟨rfl, rfl⟩ | ⟨rfl, rfl⟩ | ⟨rfl, rfl⟩ | ⟨rfl, rfl⟩ : (k = 0 ∧ p = 1) ∨ (k = 0 ∧ p = 2) ∨ (k = 0 ∧ p = 3) ∨ (k = 1 ∧ p = 2) ∨ (k = 1 ∧ p = 3) ∨ (k = 2 ∧ p = 3) := by omega
    · exact sw4_01 M
    · exact sw4_02 M
    · exact sw4_03 M
    · exact sw4_12 M
    · exact sw4_13 M
    · exact sw4_23 M
  · obtain ⟨rfl, rfl⟩ | ⟨rfl, rfl⟩ | ⟨rfl, rfl⟩ | ⟨rfl, rfl⟩ | ⟨rfl, rfl⟩ | ⟨rfl, rfl⟩ | ⟨rfl, rfl⟩ | ⟨rfl, rfl⟩ | ⟨rfl, rfl⟩ | ⟨rfl, rfl⟩ : (k = 0 ∧ p = 1) ∨ (k = 0 ∧ p = 2) ∨ (k = 0 ∧ p = 3) ∨ (k = 0 ∧ p = 4) ∨ (k = 1 ∧ p = 2) ∨ (k = 1 ∧ p = 3) ∨ (k = 1 ∧ p = 4) ∨ (k = 2 ∧ p = 3) ∨ (k = 2 ∧ p = 4) ∨ (k = 3 ∧ p = 4) := by omega
    · exact sw5_01 M
    · exact sw5_02 M
    · exact sw5_03 M
    · exact sw5_04 M
    · exact sw5_12 M
    · exact sw5_13 M
    · exact sw5_14 M
    · exact sw5_23 M
    · exact sw5_24 M
    · exact sw5_34 M
theorem dtn_zero {M : Int → Int → Int} {n k : Int} (hn : 2 ≤ n) (hn5 : n ≤ 5) (hk : 0 ≤ k) (hk2 : k ≤ n - 2) (hp : ¬ prk M k = 0) (hz : ∀ i, k ≤ i → i < n → bdk M k i k = 0) : dtn M n = 0 := by
  obtain rfl | rfl | rfl | rfl : n = 2 ∨ n = 3 ∨ n = 4 ∨ n = 5 := by omega
  · obtain rfl : k = 0 := by omega
    have h := zp2_0 M
    have h0 : M 0 0 = 0 := hz 0 (by omega) (by omega)
    have h1 : M 1 0 = 0 := hz 1 (by omega) (by omega)
    rw [h0, h1] at h
    show dt2 M 0 1 0 1 = 0
    have hp9 : ¬ (1 : Int) = 0 := by omega
    have h9 : 1 * dt2 M 0 1 0 1 = 0 := by rw [h]; omega
    exact (Int.mul_eq_zero.mp h9).resolve_left hp9
  · obtain rfl | rfl : k = 0 ∨ k = 1 := by omega
    · have h := zp3_0 M
      have h0 : M 0 0 = 0 := hz 0 (by omega) (by omega)
      have h1 : M 1 0 = 0 := hz 1 (by omega) (by omega)
      have h2 : M 2 0 = 0 := hz 2 (by omega) (by omega)
      rw [h0, h1, h2] at h
      show dt3 M 0 1 2 0 1 2 = 0
      have hp9 : ¬ (1 : Int) = 0 := by omega
      have h9 : 1 * dt3 M 0 1 2 0 1 2 = 0 := by rw [h]; omega
      exact (Int.mul_eq_zero.mp h9).resolve_left hp9
    · have h := zp3_1 M
      have h1 : bd1 M 1 1 = 0 := hz 1 (by omega) (by omega)
      have h2 : bd1 M 2 1 = 0 := hz 2 (by omega) (by omega)
      rw [h1, h2] at h
      show dt3 M 0 1 2 0 1 2 = 0
      have hp9 : ¬ M 0 0 = 0 := hp
      have h9 : M 0 0 * dt3 M 0 1 2 0 1 2 = 0 := by rw [h]; omega
      exact (Int.mul_eq_zero.mp h9).resolve_left hp9
  · obtain rfl | rfl | rfl : k = 0 ∨ k = 1 ∨ k = 2 := by omega
    · have h := zp4_0 M
      have h0 : M 0 0 = 0 := hz 0 (by omega) (by omega)
      have h1 : M 1 0 = 0 := hz 1 (by omega) (by omega)
      have h2 : M 2 0 = 0 := hz 2 (by omega) (by omega)
      have h3 : M 3 0 = 0 := hz 3 (by omega) (by omega)
      rw [h0, h1, h2, h3] at h
      show dt4 M 0 1 2 3 0 1 2 3 = 0
      have hp9 : ¬ (1 : Int) = 0 := by omega
      have h9 : 1 * dt4 M 0 1 2 3 0 1 2 3 = 0 := by rw [h]; omega
      exact (Int.mul_eq_zero.mp h9).resolve_left hp9
    · have h := zp4_1 M
      have h1 : bd1 M 1 1 = 0 := hz 1 (by omega) (by omega)
      have h2 : bd1 M 2 1 = 0 := hz 2 (by omega) (by omega)
      have h3 : bd1 M 3 1 = 0 := hz 3 (by omega) (by omega)
      rw [h1, h2, h3] at h
      show dt4 M 0 1 2 3 0 1 2 3 = 0
      have hp9 : ¬ M 0 0 = 0 := hp
      have h9 : M 0 0 * dt4 M 0 1 2 3 0 1 2 3 = 0 := by rw [h]; omega
      exact (Int.mul_eq_zero.mp h9).resolve_left hp9
    · have h := zp4_2 M
      have h2 : bd2 M 2 2 = 0 := hz 2 (by omega) (by omega)
      have h3 : bd2 M 3 2 = 0 := hz 3 (by omega) (by omega)
      rw [h2, h3] at h
      show dt4 M 0 1 2 3 0 1 2 3 = 0
      have hp9 : ¬ dt2 M 0 1 0 1 = 0 := hp
      have h9 : dt2 M 0 1 0 1 * dt4 M 0 1 2 3 0 1 2 3 = 0 := by rw [h]; omega
      exact (Int.mul_eq_zero.mp h9).resolve_left hp9
  · obtain rfl | rfl | rfl | rfl : k = 0 ∨ k = 1 ∨ k = 2 ∨ k = 3 := by omega
    · have h := zp5_0 M
      have h0 : M 0 0 = 0 := hz 0 (by omega) (by omega)
      have h1 : M 1 0 = 0 := hz 1 (by omega) (by omega)
      have h2 : M 2 0 = 0 := hz 2 (by omega) (by omega)
      have h3 : M 3 0 = 0 := hz 3 (by omega) (by omega)
      have h4 : M 4 0 = 0 := hz 4 (by omega) (by omega)
      rw [h0, h1, h2, h3, h4] at h
      show dt5 M 0 1 2 3 4 0 1 2 3 4 = 0
      have hp9 : ¬ (1 : Int) = 0 := by omega
      have h9 : 1 * dt5 M 0 1 2 3 4 0 1 2 3 4 = 0 := by rw [h]; omega
      exact (Int.mul_eq_zero.mp h9).resolve_left hp9
    · have h := zp5_1 M
      have h1 : bd1 M 1 1 = 0 := hz 1 (by omega) (by omega)
      have h2 : bd1 M 2 1 = 0 := hz 2 (by omega) (by omega)
      have h3 : bd1 M 3 1 = 0 := hz 3 (by omega) (by omega)
      have h4 : bd1 M 4 1 = 0 := hz 4 (by omega) (by omega)
      rw [h1, h2, h3, h4] at h
      show dt5 M 0 1 2 3 4 0 1 2 3 4 = 0
      have hp9 : ¬ M 0 0 = 0 := hp
      have h9 : M 0 0 * dt5 M 0 1 2 3 4 0 1 2 3 4 = 0 := by rw [h]; omega
      exact (Int.mul_eq_zero.mp h9).resolve_left hp9
    · have h := zp5_2 M
      have h2 : bd2 M 2 2 = 0 := hz 2 (by omega) (by omega)
      have h3 : bd2 M 3 2 = 0 := hz 3 (by omega) (by omega)
      have h4 : bd2 M 4 2 = 0 := hz 4 (by omega) (by omega)
      rw [h2, h3, h4] at h
      show dt5 M 0 1 2 3 4 0 1 2 3 4 = 0
      have hp9 : ¬ dt2 M 0 1 0 1 = 0 := hp
      have h9 : dt2 M 0 1 0 1 * dt5 M 0 1 2 3 4 0 1 2 3 4 = 0 := by rw [h]; omega
      exact (Int.mul_eq_zero.mp h9).resolve_left hp9
    · have h := zp5_3 M
      have h3 : bd3 M 3 3 = 0 := hz 3 (by omega) (by omega)
      have h4 : bd3 M 4 3 = 0 := hz 4 (by omega) (by omega)
      rw [h3, h4] at h
      show dt5 M 0 1 2 3 4 0 1 2 3 4 = 0
      have hp9 : ¬ dt3 M 0 1 2 0 1 2 = 0 := hp
      have h9 : dt3 M 0 1 2 0 1 2 * dt5 M 0 1 2 3 4 0 1 2 3 4 = 0 := by rw [h]; omega
      exact (Int.mul_eq_zero.mp h9).resolve_left hp9
theorem ix_b {n i j : Int} (hn : 2 ≤ n) (hn5 : n ≤ 5) (hi : 0 ≤ i) (hi2 : i < n) (hj : 0 ≤ j) (hj2 : j < n) : 0 ≤ n * i + j ∧ n * i + j < 25 := by
  obtain rfl | rfl | rfl | rfl : n = 2 ∨ n = 3 ∨ n = 4 ∨ n = 5 := by omega
  all_goals omega
theorem ix_inj {n i j i' j' : Int} (hn : 2 ≤ n) (hn5 : n ≤ 5) (hj : 0 ≤ j) (hj2 : j < n) (hj' : 0 ≤ j') (hj2' : j' < n) (h : n * i + j = n * i' + j') : i = i' ∧ j = j' := by
  obtain rfl | rfl | rfl | rfl : n = 2 ∨ n = 3 ∨ n = 4 ∨ n = 5 := by omega
  all_goals omega
/-- the square as a matrix of n rows -/
def sqM (st : St) (n : Int) : Int → Int → Int := fun i j => st 36 0 0 (n * i + j)
theorem sqM_up {st : St} {n i j v : Int} {i' j' : Int} (hn : 2 ≤ n) (hn5 : n ≤ 5) (hj : 0 ≤ j) (hj2 : j < n) (hj' : 0 ≤ j') (hj2' : j' < n) : sqM (up st 36 0 0 (n * i + j) v) n i' j' = if i' = i ∧ j' = j then v else sqM st n i' j' := by
  unfold sqM
  rw [up_eq]
  by_cases h : i' = i ∧ j' = j
  · rw [if_pos h, if_pos ⟨rfl, rfl, rfl, by rw [h.1, h.2]⟩]
  · rw [if_neg h, if_neg (fun q => h (ix_inj hn hn5 hj' hj2' hj hj2 q.2.2.2))]
/-- nothing but the square has changed -/
def F36 (st st' : St) : Prop := ∀ K s i j, ¬ K = 36 → st' K s i j = st K s i j
theorem F36.rf {st : St} : F36 st st := fun _ _ _ _ _ => rfl
theorem F36.up {st0 st : St} {i j v : Int} (h : F36 st0 st) : F36 st0 (up st 36 0 i j v) := fun K s i' j' hK => by rw [up_ne (fun q => hK q.1)]; exact h K s i' j' hK
theorem W9_pivotOf {Q : Int → St → Prop} {st : St} {k n : Int} (hn : 2 ≤ n) (hn5 : n ≤ 5) (hk : 0 ≤ k) (hk2 : k < n) (hb : ∀ i, k ≤ i → i < n → inL (sqM st n i k))
    (h1 : ∀ p, k ≤ p → p < n → ¬ sqM st n p k = 0 → Q p st) (h0 : (∀ i, k ≤ i → i < n → sqM st n i k = 0) → Q n st) : f9_pivotOf Q st k n := by
  have L : ∀ (m : Nat) (v : Int), k ≤ v → v ≤ n → (∀ i, k ≤ i → i < v → sqM st n i k = 0) → n - v < m → f9_pivotOf_l2 Q k n m st v := by
    intro m
    induction m with
    | zero => intro v a1 a2 a3 a4; omega
    | succ m ih =>
      intro v a1 a2 a3 a4
      unfold f9_pivotOf_l2
      refine ⟨inI_s (by omega) (by omega), inI_s (by omega) (by omega), fun c => ?_, fun c => ?_⟩
      · have : v = n := by omega
        subst this
        exact h0 a3
      · have hx := ix_b hn hn5 (show 0 ≤ v by omega) (show v < n by omega) hk hk2
        refine ⟨hx.1, hx.2, hb v a1 (by omega), fun e => ?_, fun e => h1 v a1 (by omega) e⟩
        rintro _ rfl
        refine ih (v + 1) (by omega) (by omega) (fun i i0 i1 => ?_) (by omega)
        by_cases hi : i = v
        · subst hi; exact e
        · exact a3 i i0 (by omega)
  unfold f9_pivotOf
  exact ⟨100, L 100 k (by omega) (by omega) (fun i a b => absurd a (by omega)) (by omega)⟩
theorem W9_changes {Q : St → Prop} {st : St} {k p n : Int} (hn : 2 ≤ n) (hn5 : n ≤ 5) (hk : 0 ≤ k) (hk2 : k < n) (hp : 0 ≤ p) (hp2 : p < n)
    (h : ∀ st', F36 st st' → (∀ i j, 0 ≤ j → j < n → sqM st' n i j = sqM st n (if i = k then p else if i = p then k else i) j) → Q st') : f9_changes Q st k p n := by
  have L : ∀ (m : Nat) (v : Int) (s : St), 0 ≤ v → v ≤ n → F36 st s → (∀ i j, 0 ≤ j → j < n → sqM s n i j = if j < v then sqM st n (if i = k then p else if i = p then k else i) j else sqM st n i j) → n - v < m → f9_changes_l3 Q k p n m s v := by
    intro m
    induction m with
    | zero => intro v s a1 a2 a3 a4 a5; omega
    | succ m ih =>
      intro v s a1 a2 a3 a4 a5
      unfold f9_changes_l3
      refine ⟨inI_s (by omega) (by omega), inI_s (by omega) (by omega), fun c => ?_, fun c => ?_⟩
      · refine h s a3 (fun i j j0 j1 => ?_)
        rw [a4 i j j0 j1, if_pos (by omega)]
      · have hx := ix_b hn hn5 hk hk2 a1 (show v < n by omega)
        have hy := ix_b hn hn5 hp hp2 a1 (show v < n by omega)
        refine ⟨hx.1, hx.2, ?_⟩
        rintro _ rfl
        refine ⟨hy.1, hy.2, hx.1, hx.2, ?_⟩
        rintro _ rfl
        refine ⟨hy.1, hy.2, ?_⟩
        rintro _ rfl _ rfl
        refine ih (v + 1) _ (by omega) (by omega) (a3.up.up) (fun i j j0 j1 => ?_) (by omega)
        rw [sqM_up hn hn5 a1 (by omega) j0 j1, sqM_up hn hn5 a1 (by omega) j0 j1]
        have e1 : s 36 0 0 (n * k + v) = sqM st n k v := by
          have := a4 k v a1 (by omega)
          rw [if_neg (by omega)] at this
          exact this
        have e2 : s 36 0 0 (n * p + v) = sqM st n p v := by
          have := a4 p v a1 (by omega)
          rw [if_neg (by omega)] at this
          exact this
        rw [e1, e2, a4 i j j0 j1]
        by_cases hj : j = v
        · subst hj
          rw [if_neg (show ¬ j < j by omega), if_pos (show j < j + 1 by omega)]
          by_cases hip : i = p
          · subst hip
            rw [if_pos ⟨rfl, rfl⟩]
            by_cases hik : i = k
            · rw [if_pos hik, hik]
            · rw [if_neg hik, if_pos rfl]
          · rw [if_neg (fun q => hip q.1)]
            by_cases hik : i = k
            · rw [if_pos ⟨hik, rfl⟩, if_pos hik]
            · rw [if_neg (fun q => hik q.1), if_neg hik, if_neg hip]
        · rw [if_neg (fun q => hj q.2), if_neg (fun q => hj q.2)]
          by_cases hlt : j < v
          · rw [if_pos hlt, if_pos (show j < v + 1 by omega)]
          · rw [if_neg hlt, if_neg (show ¬ j < v + 1 by omega)]
  unfold f9_changes
  refine ⟨100, L 100 0 st (by omega) (by omega) F36.rf (fun i j j0 j1 => ?_) (by omega)⟩
  rw [if_neg (by omega)]
