/-! a determinant is linear in a column -/
def smE (f : Int → Int) : Nat → Int
  | 0 => 0
  | m + 1 => smE f m + f m
set_option maxHeartbeats 40000000 in
set_option maxRecDepth 1000000 in
theorem li2_0 (M : Int → Int → Int) (v : Int → Int) : dt2 (rc M 0 v) 0 1 0 1 = v 0 * (M 1 1) - v 1 * (M 0 1) := by
  simp [dt5, dt4, dt3, dt2, rc]
  grind
set_option maxHeartbeats 40000000 in
set_option maxRecDepth 1000000 in
theorem li2_1 (M : Int → Int → Int) (v : Int → Int) : dt2 (rc M 1 v) 0 1 0 1 = -(v 0 * (M 1 0)) + v 1 * (M 0 0) := by
  simp [dt5, dt4, dt3, dt2, rc]
  grind
set_option maxHeartbeats 40000000 in
set_option maxRecDepth 1000000 in
theorem li3_0 (M : Int → Int → Int) (v : Int → Int) : dt3 (rc M 0 v) 0 1 2 0 1 2 = v 0 * (dt2 M 1 2 1 2) - v 1 * (dt2 M 0 2 1 2) + v 2 * (dt2 M 0 1 1 2) := by
  simp [dt5, dt4, dt3, dt2, rc]
  grind
set_option maxHeartbeats 40000000 in
set_option maxRecDepth 1000000 in
theorem li3_1 (M : Int → Int → Int) (v : Int → Int) : dt3 (rc M 1 v) 0 1 2 0 1 2 = -(v 0 * (dt2 M 1 2 0 2)) + v 1 * (dt2 M 0 2 0 2) - v 2 * (dt2 M 0 1 0 2) := by
  simp [dt5, dt4, dt3, dt2, rc]
  grind
set_option maxHeartbeats 40000000 in
set_option maxRecDepth 1000000 in
theorem li3_2 (M : Int → Int → Int) (v : Int → Int) : dt3 (rc M 2 v) 0 1 2 0 1 2 = v 0 * (dt2 M 1 2 0 1) - v 1 * (dt2 M 0 2 0 1) + v 2 * (dt2 M 0 1 0 1) := by
  simp [dt5, dt4, dt3, dt2, rc]
  grind
set_option maxHeartbeats 40000000 in
set_option maxRecDepth 1000000 in
theorem li4_0 (M : Int → Int → Int) (v : Int → Int) : dt4 (rc M 0 v) 0 1 2 3 0 1 2 3 = v 0 * (dt3 M 1 2 3 1 2 3) - v 1 * (dt3 M 0 2 3 1 2 3) + v 2 * (dt3 M 0 1 3 1 2 3) - v 3 * (dt3 M 0 1 2 1 2 3) := by
  simp [dt5, dt4, dt3, dt2, rc]
  grind
set_option maxHeartbeats 40000000 in
set_option maxRecDepth 1000000 in
theorem li4_1 (M : Int → Int → Int) (v : Int → Int) : dt4 (rc M 1 v) 0 1 2 3 0 1 2 3 = -(v 0 * (dt3 M 1 2 3 0 2 3)) + v 1 * (dt3 M 0 2 3 0 2 3) - v 2 * (dt3 M 0 1 3 0 2 3) + v 3 * (dt3 M 0 1 2 0 2 3) := by
  simp [dt5, dt4, dt3, dt2, rc]
  grind
set_option maxHeartbeats 40000000 in
set_option maxRecDepth 1000000 in
theorem li4_2 (M : Int → Int → Int) (v : Int → Int) : dt4 (rc M 2 v) 0 1 2 3 0 1 2 3 = v 0 * (dt3 M 1 2 3 0 1 3) - v 1 * (dt3 M 0 2 3 0 1 3) + v 2 * (dt3 M 0 1 3 0 1 3) - v 3 * (dt3 M 0 1 2 0 1 3) := by
  simp [dt5, dt4, dt3, dt2, rc]
  grind
set_option maxHeartbeats 40000000 in
set_option maxRecDepth 1000000 in
theorem li4_3 (M : Int → Int → Int) (v : Int → Int) : dt4 (rc M 3 v) 0 1 2 3 0 1 2 3 = -(v 0 * (dt3 M 1 2 3 0 1 2)) + v 1 * (dt3 M 0 2 3 0 1 2) - v 2 * (dt3 M 0 1 3 0 1 2) + v 3 * (dt3 M 0 1 2 0 1 2) := by
  simp [dt5, dt4, dt3, dt2, rc]
  grind
set_option maxHeartbeats 40000000 in
set_option maxRecDepth 1000000 in
theorem li5_0 (M : Int → Int → Int) (v : Int → Int) : dt5 (rc M 0 v) 0 1 2 3 4 0 1 2 3 4 = v 0 * (dt4 M 1 2 3 4 1 2 3 4) - v 1 * (dt4 M 0 2 3 4 1 2 3 4) + v 2 * (dt4 M 0 1 3 4 1 2 3 4) - v 3 * (dt4 M 0 1 2 4 1 2 3 4) + v 4 * (dt4 M 0 1 2 3 1 2 3 4) := by
  simp [dt5, dt4, dt3, dt2, rc]
  grind
set_option maxHeartbeats 40000000 in
set_option maxRecDepth 1000000 in
theorem li5_1 (M : Int → Int → Int) (v : Int → Int) : dt5 (rc M 1 v) 0 1 2 3 4 0 1 2 3 4 = -(v 0 * (dt4 M 1 2 3 4 0 2 3 4)) + v 1 * (dt4 M 0 2 3 4 0 2 3 4) - v 2 * (dt4 M 0 1 3 4 0 2 3 4) + v 3 * (dt4 M 0 1 2 4 0 2 3 4) - v 4 * (dt4 M 0 1 2 3 0 2 3 4) := by
  simp [dt5, dt4, dt3, dt2, rc]
  grind
set_option maxHeartbeats 40000000 in
set_option maxRecDepth 1000000 in
theorem li5_2 (M : Int → Int → Int) (v : Int → Int) : dt5 (rc M 2 v) 0 1 2 3 4 0 1 2 3 4 = v 0 * (dt4 M 1 2 3 4 0 1 3 4) - v 1 * (dt4 M 0 2 3 4 0 1 3 4) + v 2 * (dt4 M 0 1 3 4 0 1 3 4) - v 3 * (dt4 M 0 1 2 4 0 1 3 4) + v 4 * (dt4 M 0 1 2 3 0 1 3 4) := by
  simp [dt5, dt4, dt3, dt2, rc]
  grind
set_option maxHeartbeats 40000000 in
set_option maxRecDepth 1000000 in
theorem li5_3 (M : Int → Int → Int) (v : Int → Int) : dt5 (rc M 3 v) 0 1 2 3 4 0 1 2 3 4 = -(v 0 * (dt4 M 1 2 3 4 0 1 2 4)) + v 1 * (dt4 M 0 2 3 4 0 1 2 4) - v 2 * (dt4 M 0 1 3 4 0 1 2 4) + v 3 * (dt4 M 0 1 2 4 0 1 2 4) - v 4 * (dt4 M 0 1 2 3 0 1 2 4) := by
  simp [dt5, dt4, dt3, dt2, rc]
  grind
set_option maxHeartbeats 40000000 in
set_option maxRecDepth 1000000 in
theorem li5_4 (M : Int → Int → Int) (v : Int → Int) : dt5 (rc M 4 v) 0 1 2 3 4 0 1 2 3 4 = v 0 * (dt4 M 1 2 3 4 0 1 2 3) - v 1 * (dt4 M 0 2 3 4 0 1 2 3) + v 2 * (dt4 M 0 1 3 4 0 1 2 3) - v 3 * (dt4 M 0 1 2 4 0 1 2 3) + v 4 * (dt4 M 0 1 2 3 0 1 2 3) := by
  simp [dt5, dt4, dt3, dt2, rc]
  grind
theorem lin2 (M : Int → Int → Int) {s : Int} (h0 : 0 ≤ s) (h1 : s < 2) : ∃ C : Int → Int, ∀ v, dtn (rc M s v) 2 = v 0 * C 0 + v 1 * C 1 := by
  obtain rfl | rfl : s = 0 ∨ s = 1 := by omega
  · refine ⟨fun i => if i = 0 then M 1 1 else -(M 0 1), fun v => ?_⟩
    refine (li2_0 M v).trans ?_
    show _ = v 0 * (M 1 1) + v 1 * (-(M 0 1))
    simp only [Int.mul_neg]
    try omega
  · refine ⟨fun i => if i = 0 then -(M 1 0) else M 0 0, fun v => ?_⟩
    refine (li2_1 M v).trans ?_
    show _ = v 0 * (-(M 1 0)) + v 1 * (M 0 0)
    simp only [Int.mul_neg]
    try omega
theorem lin3 (M : Int → Int → Int) {s : Int} (h0 : 0 ≤ s) (h1 : s < 3) : ∃ C : Int → Int, ∀ v, dtn (rc M s v) 3 = v 0 * C 0 + v 1 * C 1 + v 2 * C 2 := by
  obtain rfl | rfl | rfl : s = 0 ∨ s = 1 ∨ s = 2 := by omega
  · refine ⟨fun i => if i = 0 then dt2 M 1 2 1 2 else if i = 1 then -(dt2 M 0 2 1 2) else dt2 M 0 1 1 2, fun v => ?_⟩
    refine (li3_0 M v).trans ?_
    show _ = v 0 * (dt2 M 1 2 1 2) + v 1 * (-(dt2 M 0 2 1 2)) + v 2 * (dt2 M 0 1 1 2)
    simp only [Int.mul_neg]
    try omega
  · refine ⟨fun i => if i = 0 then -(dt2 M 1 2 0 2) else if i = 1 then dt2 M 0 2 0 2 else -(dt2 M 0 1 0 2), fun v => ?_⟩
    refine (li3_1 M v).trans ?_
    show _ = v 0 * (-(dt2 M 1 2 0 2)) + v 1 * (dt2 M 0 2 0 2) + v 2 * (-(dt2 M 0 1 0 2))
    simp only [Int.mul_neg]
    try omega
  · refine ⟨fun i => if i = 0 then dt2 M 1 2 0 1 else if i = 1 then -(dt2 M 0 2 0 1) else dt2 M 0 1 0 1, fun v => ?_⟩
    refine (li3_2 M v).trans ?_
    show _ = v 0 * (dt2 M 1 2 0 1) + v 1 * (-(dt2 M 0 2 0 1)) + v 2 * (dt2 M 0 1 0 1)
    simp only [Int.mul_neg]
    try omega
theorem lin4 (M : Int → Int → Int) {s : Int} (h0 : 0 ≤ s) (h1 : s < 4) : ∃ C : Int → Int, ∀ v, dtn (rc M s v) 4 = v 0 * C 0 + v 1 * C 1 + v 2 * C 2 + v 3 * C 3 := by
  obtain rfl | rfl | rfl | rfl : s = 0 ∨ s = 1 ∨ s = 2 ∨ s = 3 := by omega
  · refine ⟨fun i => if i = 0 then dt3 M 1 2 3 1 2 3 else if i = 1 then -(dt3 M 0 2 3 1 2 3) else if i = 2 then dt3 M 0 1 3 1 2 3 else -(dt3 M 0 1 2 1 2 3), fun v => ?_⟩
    refine (li4_0 M v).trans ?_
    show _ = v 0 * (dt3 M 1 2 3 1 2 3) + v 1 * (-(dt3 M 0 2 3 1 2 3)) + v 2 * (dt3 M 0 1 3 1 2 3) + v 3 * (-(dt3 M 0 1 2 1 2 3))
    simp only [Int.mul_neg]
    try omega
  · refine ⟨fun i => if i = 0 then -(dt3 M 1 2 3 0 2 3) else if i = 1 then dt3 M 0 2 3 0 2 3 else if i = 2 then -(dt3 M 0 1 3 0 2 3) else dt3 M 0 1 2 0 2 3, fun v => ?_⟩
    refine (li4_1 M v).trans ?_
    show _ = v 0 * (-(dt3 M 1 2 3 0 2 3)) + v 1 * (dt3 M 0 2 3 0 2 3) + v 2 * (-(dt3 M 0 1 3 0 2 3)) + v 3 * (dt3 M 0 1 2 0 2 3)
    simp only [Int.mul_neg]
    try omega
  · refine ⟨fun i => if i = 0 then dt3 M 1 2 3 0 1 3 else if i = 1 then -(dt3 M 0 2 3 0 1 3) else if i = 2 then dt3 M 0 1 3 0 1 3 else -(dt3 M 0 1 2 0 1 3), fun v => ?_⟩
    refine (li4_2 M v).trans ?_
    show _ = v 0 * (dt3 M 1 2 3 0 1 3) + v 1 * (-(dt3 M 0 2 3 0 1 3)) + v 2 * (dt3 M 0 1 3 0 1 3) + v 3 * (-(dt3 M 0 1 2 0 1 3))
    simp only [Int.mul_neg]
    try omega
  · refine ⟨fun i => if i = 0 then -(dt3 M 1 2 3 0 1 2) else if i = 1 then dt3 M 0 2 3 0 1 2 else if i = 2 then -(dt3 M 0 1 3 0 1 2) else dt3 M 0 1 2 0 1 2, fun v => ?_⟩
    refine (li4_3 M v).trans ?_
    show _ = v 0 * (-(dt3 M 1 2 3 0 1 2)) + v 1 * (dt3 M 0 2 3 0 1 2) + v 2 * (-(dt3 M 0 1 3 0 1 2)) + v 3 * (dt3 M 0 1 2 0 1 2)
    simp only [Int.mul_neg]
    try omega
theorem lin5 (M : Int → Int → Int) {s : Int} (h0 : 0 ≤ s) (h1 : s < 5) : ∃ C : Int → Int, ∀ v, dtn (rc M s v) 5 = v 0 * C 0 + v 1 * C 1 + v 2 * C 2 + v 3 * C 3 + v 4 * C 4 := by
  obtain rfl | rfl | rfl | rfl | rfl : s = 0 ∨ s = 1 ∨ s = 2 ∨ s = 3 ∨ s = 4 := by omega
  · refine ⟨fun i => if i = 0 then dt4 M 1 2 3 4 1 2 3 4 else if i = 1 then -(dt4 M 0 2 3 4 1 2 3 4) else if i = 2 then dt4 M 0 1 3 4 1 2 3 4 else if i = 3 then -(dt4 M 0 1 2 4 1 2 3 4) else dt4 M 0 1 2 3 1 2 3 4, fun v => ?_⟩
    refine (li5_0 M v).trans ?_
    show _ = v 0 * (dt4 M 1 2 3 4 1 2 3 4) + v 1 * (-(dt4 M 0 2 3 4 1 2 3 4)) + v 2 * (dt4 M 0 1 3 4 1 2 3 4) + v 3 * (-(dt4 M 0 1 2 4 1 2 3 4)) + v 4 * (dt4 M 0 1 2 3 1 2 3 4)
    simp only [Int.mul_neg]
    try omega
  · refine ⟨fun i => if i = 0 then -(dt4 M 1 2 3 4 0 2 3 4) else if i = 1 then dt4 M 0 2 3 4 0 2 3 4 else if i = 2 then -(dt4 M 0 1 3 4 0 2 3 4) else if i = 3 then dt4 M 0 1 2 4 0 2 3 4 else -(dt4 M 0 1 2 3 0 2 3 4), fun v => ?_⟩
    refine (li5_1 M v).trans ?_
    show _ = v 0 * (-(dt4 M 1 2 3 4 0 2 3 4)) + v 1 * (dt4 M 0 2 3 4 0 2 3 4) + v 2 * (-(dt4 M 0 1 3 4 0 2 3 4)) + v 3 * (dt4 M 0 1 2 4 0 2 3 4) + v 4 * (-(dt4 M 0 1 2 3 0 2 3 4))
    simp only [Int.mul_neg]
    try omega
  · refine ⟨fun i => if i = 0 then dt4 M 1 2 3 4 0 1 3 4 else if i = 1 then -(dt4 M 0 2 3 4 0 1 3 4) else if i = 2 then dt4 M 0 1 3 4 0 1 3 4 else if i = 3 then -(dt4 M 0 1 2 4 0 1 3 4) else dt4 M 0 1 2 3 0 1 3 4, fun v => ?_⟩
    refine (li5_2 M v).trans ?_
    show _ = v 0 * (dt4 M 1 2 3 4 0 1 3 4) + v 1 * (-(dt4 M 0 2 3 4 0 1 3 4)) + v 2 * (dt4 M 0 1 3 4 0 1 3 4) + v 3 * (-(dt4 M 0 1 2 4 0 1 3 4)) + v 4 * (dt4 M 0 1 2 3 0 1 3 4)
    simp only [Int.mul_neg]
    try omega
  · refine ⟨fun i => if i = 0 then -(dt4 M 1 2 3 4 0 1 2 4) else if i = 1 then dt4 M 0 2 3 4 0 1 2 4 else if i = 2 then -(dt4 M 0 1 3 4 0 1 2 4) else if i = 3 then dt4 M 0 1 2 4 0 1 2 4 else -(dt4 M 0 1 2 3 0 1 2 4), fun v => ?_⟩
    refine (li5_3 M v).trans ?_
    show _ = v 0 * (-(dt4 M 1 2 3 4 0 1 2 4)) + v 1 * (dt4 M 0 2 3 4 0 1 2 4) + v 2 * (-(dt4 M 0 1 3 4 0 1 2 4)) + v 3 * (dt4 M 0 1 2 4 0 1 2 4) + v 4 * (-(dt4 M 0 1 2 3 0 1 2 4))
    simp only [Int.mul_neg]
    try omega
  · refine ⟨fun i => if i = 0 then dt4 M 1 2 3 4 0 1 2 3 else if i = 1 then -(dt4 M 0 2 3 4 0 1 2 3) else if i = 2 then dt4 M 0 1 3 4 0 1 2 3 else if i = 3 then -(dt4 M 0 1 2 4 0 1 2 3) else dt4 M 0 1 2 3 0 1 2 3, fun v => ?_⟩
    refine (li5_4 M v).trans ?_
    show _ = v 0 * (dt4 M 1 2 3 4 0 1 2 3) + v 1 * (-(dt4 M 0 2 3 4 0 1 2 3)) + v 2 * (dt4 M 0 1 3 4 0 1 2 3) + v 3 * (-(dt4 M 0 1 2 4 0 1 2 3)) + v 4 * (dt4 M 0 1 2 3 0 1 2 3)
    simp only [Int.mul_neg]
    try omega
theorem ad_rc (M : Int → Int → Int) {n s j : Int} (hn : 2 ≤ n) (hn5 : n ≤ 5) (h0 : 0 ≤ s) (h1 : s < n) : adk M n s j = dtn (rc M s (fun i => M i j)) n := by
  obtain rfl | rfl | rfl | rfl : n = 2 ∨ n = 3 ∨ n = 4 ∨ n = 5 := by omega
  · obtain rfl | rfl : s = 0 ∨ s = 1 := by omega
    all_goals rfl
  · obtain rfl | rfl | rfl : s = 0 ∨ s = 1 ∨ s = 2 := by omega
    all_goals rfl
  · obtain rfl | rfl | rfl | rfl : s = 0 ∨ s = 1 ∨ s = 2 ∨ s = 3 := by omega
    all_goals rfl
  · obtain rfl | rfl | rfl | rfl | rfl : s = 0 ∨ s = 1 ∨ s = 2 ∨ s = 3 ∨ s = 4 := by omega
    all_goals rfl
theorem smE_add (f g : Int → Int) : ∀ m, smE (fun e => f e + g e) m = smE f m + smE g m := by
  intro m
  induction m with
  | zero => rfl
  | succ m ih => unfold smE; rw [ih]; omega
theorem smE_mul (f : Int → Int) (c : Int) : ∀ m, smE (fun e => f e * c) m = smE f m * c := by
  intro m
  induction m with
  | zero => exact (Int.zero_mul c).symm
  | succ m ih => unfold smE; rw [ih, Int.add_mul]
theorem smE_ext {f g : Int → Int} : ∀ m : Nat, (∀ e : Int, 0 ≤ e → e < m → f e = g e) → smE f m = smE g m := by
  intro m
  induction m with
  | zero => intro _; rfl
  | succ m ih => intro h; unfold smE; rw [ih (fun e a b => h e a (by omega)), h m (by omega) (by omega)]
theorem lin_sum (M : Int → Int → Int) {n s : Int} (hn : 2 ≤ n) (hn5 : n ≤ 5) (h0 : 0 ≤ s) (h1 : s < n) (V : Int → Int → Int) (w : Int → Int) (m : Nat) : smE (fun e => dtn (rc M s (V e)) n * w e) m = dtn (rc M s (fun i => smE (fun e => V e i * w e) m)) n := by
  obtain rfl | rfl | rfl | rfl : n = 2 ∨ n = 3 ∨ n = 4 ∨ n = 5 := by omega
  · obtain ⟨C, hC⟩ := lin2 M h0 h1
    simp only [hC]
    induction m with
    | zero => simp [smE]
    | succ m ih =>
      simp only [smE]
      rw [ih]
      grind
  · obtain ⟨C, hC⟩ := lin3 M h0 h1
    simp only [hC]
    induction m with
    | zero => simp [smE]
    | succ m ih =>
      simp only [smE]
      rw [ih]
      grind
  · obtain ⟨C, hC⟩ := lin4 M h0 h1
    simp only [hC]
    induction m with
    | zero => simp [smE]
    | succ m ih =>
      simp only [smE]
      rw [ih]
      grind
  · obtain ⟨C, hC⟩ := lin5 M h0 h1
    simp only [hC]
    induction m with
    | zero => simp [smE]
    | succ m ih =>
      simp only [smE]
      rw [ih]
      grind
theorem smE_pick {w : Int → Int} {r : Int} : ∀ m : Nat, 0 ≤ r → smE (fun e => (if r = e then 1 else 0) * w e) m = if r < m then w r else 0 := by
  intro m
  induction m with
  | zero => intro h; rw [if_neg (by omega)]; rfl
  | succ m ih =>
    intro h
    unfold smE
    rw [ih h]
    by_cases e : r = m
    · subst e
      rw [if_neg (by omega), if_pos rfl, if_pos (by omega), Int.one_mul, Int.zero_add]
    · rw [if_neg e, Int.zero_mul, Int.add_zero]
      by_cases c : r < m
      · rw [if_pos c, if_pos (by omega)]
      · rw [if_neg c, if_neg (by omega)]
theorem dtn_ext {M N : Int → Int → Int} {n : Int} (hn : 2 ≤ n) (hn5 : n ≤ 5) (h : ∀ i j, 0 ≤ i → i < n → 0 ≤ j → j < n → M i j = N i j) : dtn M n = dtn N n := by
  obtain rfl | rfl | rfl | rfl : n = 2 ∨ n = 3 ∨ n = 4 ∨ n = 5 := by omega
  · show dt2 M 0 1 0 1 = dt2 N 0 1 0 1
    unfold dt2
    simp only [h 0 0 (by omega) (by omega) (by omega) (by omega), h 0 1 (by omega) (by omega) (by omega) (by omega), h 1 0 (by omega) (by omega) (by omega) (by omega), h 1 1 (by omega) (by omega) (by omega) (by omega)]
  · show dt3 M 0 1 2 0 1 2 = dt3 N 0 1 2 0 1 2
    unfold dt3 dt2
    simp only [h 0 0 (by omega) (by omega) (by omega) (by omega), h 0 1 (by omega) (by omega) (by omega) (by omega), h 0 2 (by omega) (by omega) (by omega) (by omega), h 1 0 (by omega) (by omega) (by omega) (by omega), h 1 1 (by omega) (by omega) (by omega) (by omega), h 1 2 (by omega) (by omega) (by omega) (by omega), h 2 0 (by omega) (by omega) (by omega) (by omega), h 2 1 (by omega) (by omega) (by omega) (by omega), h 2 2 (by omega) (by omega) (by omega) (by omega)]
  · show dt4 M 0 1 2 3 0 1 2 3 = dt4 N 0 1 2 3 0 1 2 3
    unfold dt4 dt3 dt2
    simp only [h 0 0 (by omega) (by omega) (by omega) (by omega), h 0 1 (by omega) (by omega) (by omega) (by omega), h 0 2 (by omega) (by omega) (by omega) (by omega), h 0 3 (by omega) (by omega) (by omega) (by omega), h 1 0 (by omega) (by omega) (by omega) (by omega), h 1 1 (by omega) (by omega) (by omega) (by omega), h 1 2 (by omega) (by omega) (by omega) (by omega), h 1 3 (by omega) (by omega) (by omega) (by omega), h 2 0 (by omega) (by omega) (by omega) (by omega), h 2 1 (by omega) (by omega) (by omega) (by omega), h 2 2 (by omega) (by omega) (by omega) (by omega), h 2 3 (by omega) (by omega) (by omega) (by omega), h 3 0 (by omega) (by omega) (by omega) (by omega), h 3 1 (by omega) (by omega) (by omega) (by omega), h 3 2 (by omega) (by omega) (by omega) (by omega), h 3 3 (by omega) (by omega) (by omega) (by omega)]
  · show dt5 M 0 1 2 3 4 0 1 2 3 4 = dt5 N 0 1 2 3 4 0 1 2 3 4
    unfold dt5 dt4 dt3 dt2
    simp only [h 0 0 (by omega) (by omega) (by omega) (by omega), h 0 1 (by omega) (by omega) (by omega) (by omega), h 0 2 (by omega) (by omega) (by omega) (by omega), h 0 3 (by omega) (by omega) (by omega) (by omega), h 0 4 (by omega) (by omega) (by omega) (by omega), h 1 0 (by omega) (by omega) (by omega) (by omega), h 1 1 (by omega) (by omega) (by omega) (by omega), h 1 2 (by omega) (by omega) (by omega) (by omega), h 1 3 (by omega) (by omega) (by omega) (by omega), h 1 4 (by omega) (by omega) (by omega) (by omega), h 2 0 (by omega) (by omega) (by omega) (by omega), h 2 1 (by omega) (by omega) (by omega) (by omega), h 2 2 (by omega) (by omega) (by omega) (by omega), h 2 3 (by omega) (by omega) (by omega) (by omega), h 2 4 (by omega) (by omega) (by omega) (by omega), h 3 0 (by omega) (by omega) (by omega) (by omega), h 3 1 (by omega) (by omega) (by omega) (by omega), h 3 2 (by omega) (by omega) (by omega) (by omega), h 3 3 (by omega) (by omega) (by omega) (by omega), h 3 4 (by omega) (by omega) (by omega) (by omega), h 4 0 (by omega) (by omega) (by omega) (by omega), h 4 1 (by omega) (by omega) (by omega) (by omega), h 4 2 (by omega) (by omega) (by omega) (by omega), h 4 3 (by omega) (by omega) (by omega) (by omega), h 4 4 (by omega) (by omega) (by omega) (by omega)]
