def adk (M : Int → Int → Int) (k i j : Int) : Int :=
  if k = 1 then M 0 j else
  if k = 2 then if i = 0 then dt2 M 0 1 j 1 else dt2 M 0 1 0 j else
  if k = 3 then if i = 0 then dt3 M 0 1 2 j 1 2 else if i = 1 then dt3 M 0 1 2 0 j 2 else dt3 M 0 1 2 0 1 j else
  if k = 4 then if i = 0 then dt4 M 0 1 2 3 j 1 2 3 else if i = 1 then dt4 M 0 1 2 3 0 j 2 3 else if i = 2 then dt4 M 0 1 2 3 0 1 j 3 else dt4 M 0 1 2 3 0 1 2 j else
  if k = 5 then if i = 0 then dt5 M 0 1 2 3 4 j 1 2 3 4 else if i = 1 then dt5 M 0 1 2 3 4 0 j 2 3 4 else if i = 2 then dt5 M 0 1 2 3 4 0 1 j 3 4 else if i = 3 then dt5 M 0 1 2 3 4 0 1 2 j 4 else dt5 M 0 1 2 3 4 0 1 2 3 j else 0
set_option maxHeartbeats 40000000 in
set_option maxRecDepth 1000000 in
theorem as1_0 (M : Int → Int → Int) (j : Int) : dt2 M 0 1 0 1 * (M 0 j) - (M 0 1) * (dt2 M 0 1 0 j) = (M 0 0) * (dt2 M 0 1 j 1) := by
  unfold dt2
  grind
set_option maxHeartbeats 40000000 in
set_option maxRecDepth 1000000 in
theorem as2_0 (M : Int → Int → Int) (j : Int) : dt3 M 0 1 2 0 1 2 * (dt2 M 0 1 j 1) - (dt2 M 0 1 2 1) * (dt3 M 0 1 2 0 1 j) = (dt2 M 0 1 0 1) * (dt3 M 0 1 2 j 1 2) := by
  unfold dt3 dt2
  grind
set_option maxHeartbeats 40000000 in
set_option maxRecDepth 1000000 in
theorem as2_1 (M : Int → Int → Int) (j : Int) : dt3 M 0 1 2 0 1 2 * (dt2 M 0 1 0 j) - (dt2 M 0 1 0 2) * (dt3 M 0 1 2 0 1 j) = (dt2 M 0 1 0 1) * (dt3 M 0 1 2 0 j 2) := by
  unfold dt3 dt2
  grind
set_option maxHeartbeats 40000000 in
set_option maxRecDepth 1000000 in
theorem as3_0 (M : Int → Int → Int) (j : Int) : dt4 M 0 1 2 3 0 1 2 3 * (dt3 M 0 1 2 j 1 2) - (dt3 M 0 1 2 3 1 2) * (dt4 M 0 1 2 3 0 1 2 j) = (dt3 M 0 1 2 0 1 2) * (dt4 M 0 1 2 3 j 1 2 3) := by
  unfold dt4 dt3 dt2
  grind
set_option maxHeartbeats 40000000 in
set_option maxRecDepth 1000000 in
theorem as3_1 (M : Int → Int → Int) (j : Int) : dt4 M 0 1 2 3 0 1 2 3 * (dt3 M 0 1 2 0 j 2) - (dt3 M 0 1 2 0 3 2) * (dt4 M 0 1 2 3 0 1 2 j) = (dt3 M 0 1 2 0 1 2) * (dt4 M 0 1 2 3 0 j 2 3) := by
  unfold dt4 dt3 dt2
  grind
set_option maxHeartbeats 40000000 in
set_option maxRecDepth 1000000 in
theorem as3_2 (M : Int → Int → Int) (j : Int) : dt4 M 0 1 2 3 0 1 2 3 * (dt3 M 0 1 2 0 1 j) - (dt3 M 0 1 2 0 1 3) * (dt4 M 0 1 2 3 0 1 2 j) = (dt3 M 0 1 2 0 1 2) * (dt4 M 0 1 2 3 0 1 j 3) := by
  unfold dt4 dt3 dt2
  grind
set_option maxHeartbeats 40000000 in
set_option maxRecDepth 1000000 in
theorem ex5 (M : Int → Int → Int) (a b c d f : Int) : dt5 M 0 1 2 3 4 a b c d f = M 4 a * dt4 M 0 1 2 3 b c d f - M 4 b * dt4 M 0 1 2 3 a c d f + M 4 c * dt4 M 0 1 2 3 a b d f - M 4 d * dt4 M 0 1 2 3 a b c f + M 4 f * dt4 M 0 1 2 3 a b c d := by
  unfold dt5 dt4 dt3 dt2
  grind
set_option maxHeartbeats 40000000 in
set_option maxRecDepth 1000000 in
theorem dc4_0 (M : Int → Int → Int) (a b c d : Int) : dt4 M 0 1 2 3 b a c d = - dt4 M 0 1 2 3 a b c d := by
  unfold dt4 dt3 dt2
  grind
set_option maxHeartbeats 40000000 in
set_option maxRecDepth 1000000 in
theorem dc4_1 (M : Int → Int → Int) (a b c d : Int) : dt4 M 0 1 2 3 a c b d = - dt4 M 0 1 2 3 a b c d := by
  unfold dt4 dt3 dt2
  grind
set_option maxHeartbeats 40000000 in
set_option maxRecDepth 1000000 in
theorem dc4_2 (M : Int → Int → Int) (a b c d : Int) : dt4 M 0 1 2 3 a b d c = - dt4 M 0 1 2 3 a b c d := by
  unfold dt4 dt3 dt2
  grind
set_option maxHeartbeats 40000000 in
set_option maxRecDepth 1000000 in
theorem pl4 (M : Int → Int → Int) (s t a b c d : Int) : dt4 M 0 1 2 3 s t a b * dt4 M 0 1 2 3 s t c d - dt4 M 0 1 2 3 s t a c * dt4 M 0 1 2 3 s t b d + dt4 M 0 1 2 3 s t a d * dt4 M 0 1 2 3 s t b c = 0 := by
  unfold dt4 dt3 dt2
  grind
theorem cn_j123 (M : Int → Int → Int) (j : Int) : dt4 M 0 1 2 3 j 1 2 3 = - dt4 M 0 1 2 3 1 2 3 j := by
  rw [dc4_0 M 1 j 2 3, dc4_1 M 1 2 j 3, dc4_2 M 1 2 3 j]
  try omega
theorem cn_4123 (M : Int → Int → Int) (j : Int) : dt4 M 0 1 2 3 4 1 2 3 = - dt4 M 0 1 2 3 1 2 3 4 := by
  rw [dc4_0 M 1 4 2 3, dc4_1 M 1 2 4 3, dc4_2 M 1 2 3 4]
  try omega
theorem cn_j234 (M : Int → Int → Int) (j : Int) : dt4 M 0 1 2 3 j 2 3 4 = - dt4 M 0 1 2 3 2 3 4 j := by
  rw [dc4_0 M 2 j 3 4, dc4_1 M 2 3 j 4, dc4_2 M 2 3 4 j]
  try omega
theorem cn_j134 (M : Int → Int → Int) (j : Int) : dt4 M 0 1 2 3 j 1 3 4 = - dt4 M 0 1 2 3 1 3 4 j := by
  rw [dc4_0 M 1 j 3 4, dc4_1 M 1 3 j 4, dc4_2 M 1 3 4 j]
  try omega
theorem cn_j124 (M : Int → Int → Int) (j : Int) : dt4 M 0 1 2 3 j 1 2 4 = - dt4 M 0 1 2 3 1 2 4 j := by
  rw [dc4_0 M 1 j 2 4, dc4_1 M 1 2 j 4, dc4_2 M 1 2 4 j]
  try omega
theorem cn_2301 (M : Int → Int → Int) (j : Int) : dt4 M 0 1 2 3 2 3 0 1 = dt4 M 0 1 2 3 0 1 2 3 := by
  rw [dc4_1 M 2 0 3 1, dc4_2 M 2 0 1 3, dc4_0 M 0 2 1 3, dc4_1 M 0 1 2 3]
  try omega
theorem cn_2304 (M : Int → Int → Int) (j : Int) : dt4 M 0 1 2 3 2 3 0 4 = dt4 M 0 1 2 3 0 2 3 4 := by
  rw [dc4_1 M 2 0 3 4, dc4_0 M 0 2 3 4]
  try omega
theorem cn_230j (M : Int → Int → Int) (j : Int) : dt4 M 0 1 2 3 2 3 0 j = dt4 M 0 1 2 3 0 2 3 j := by
  rw [dc4_1 M 2 0 3 j, dc4_0 M 0 2 3 j]
  try omega
theorem cn_2314 (M : Int → Int → Int) (j : Int) : dt4 M 0 1 2 3 2 3 1 4 = dt4 M 0 1 2 3 1 2 3 4 := by
  rw [dc4_1 M 2 1 3 4, dc4_0 M 1 2 3 4]
  try omega
theorem cn_231j (M : Int → Int → Int) (j : Int) : dt4 M 0 1 2 3 2 3 1 j = dt4 M 0 1 2 3 1 2 3 j := by
  rw [dc4_1 M 2 1 3 j, dc4_0 M 1 2 3 j]
  try omega
theorem cn_1302 (M : Int → Int → Int) (j : Int) : dt4 M 0 1 2 3 1 3 0 2 = - dt4 M 0 1 2 3 0 1 2 3 := by
  rw [dc4_1 M 1 0 3 2, dc4_2 M 1 0 2 3, dc4_0 M 0 1 2 3]
  try omega
theorem cn_1304 (M : Int → Int → Int) (j : Int) : dt4 M 0 1 2 3 1 3 0 4 = dt4 M 0 1 2 3 0 1 3 4 := by
  rw [dc4_1 M 1 0 3 4, dc4_0 M 0 1 3 4]
  try omega
theorem cn_130j (M : Int → Int → Int) (j : Int) : dt4 M 0 1 2 3 1 3 0 j = dt4 M 0 1 2 3 0 1 3 j := by
  rw [dc4_1 M 1 0 3 j, dc4_0 M 0 1 3 j]
  try omega
theorem cn_1324 (M : Int → Int → Int) (j : Int) : dt4 M 0 1 2 3 1 3 2 4 = - dt4 M 0 1 2 3 1 2 3 4 := by
  rw [dc4_1 M 1 2 3 4]
theorem cn_132j (M : Int → Int → Int) (j : Int) : dt4 M 0 1 2 3 1 3 2 j = - dt4 M 0 1 2 3 1 2 3 j := by
  rw [dc4_1 M 1 2 3 j]
theorem cn_1203 (M : Int → Int → Int) (j : Int) : dt4 M 0 1 2 3 1 2 0 3 = dt4 M 0 1 2 3 0 1 2 3 := by
  rw [dc4_1 M 1 0 2 3, dc4_0 M 0 1 2 3]
  try omega
theorem cn_1204 (M : Int → Int → Int) (j : Int) : dt4 M 0 1 2 3 1 2 0 4 = dt4 M 0 1 2 3 0 1 2 4 := by
  rw [dc4_1 M 1 0 2 4, dc4_0 M 0 1 2 4]
  try omega
theorem cn_120j (M : Int → Int → Int) (j : Int) : dt4 M 0 1 2 3 1 2 0 j = dt4 M 0 1 2 3 0 1 2 j := by
  rw [dc4_1 M 1 0 2 j, dc4_0 M 0 1 2 j]
  try omega
set_option maxHeartbeats 40000000 in
set_option maxRecDepth 1000000 in
theorem as4_0 (M : Int → Int → Int) (j : Int) : dt5 M 0 1 2 3 4 0 1 2 3 4 * (dt4 M 0 1 2 3 j 1 2 3) - (dt4 M 0 1 2 3 4 1 2 3) * (dt5 M 0 1 2 3 4 0 1 2 3 j) = (dt4 M 0 1 2 3 0 1 2 3) * (dt5 M 0 1 2 3 4 j 1 2 3 4) := by
  have p0 := pl4 M 2 3 0 1 4 j
  have p1 := pl4 M 1 3 0 2 4 j
  have p2 := pl4 M 1 2 0 3 4 j
  rw [ex5, ex5, ex5]
  simp only [cn_j123 M j] at p0 p1 p2 ⊢
  simp only [cn_4123 M j] at p0 p1 p2 ⊢
  simp only [cn_j234 M j] at p0 p1 p2 ⊢
  simp only [cn_j134 M j] at p0 p1 p2 ⊢
  simp only [cn_j124 M j] at p0 p1 p2 ⊢
  simp only [cn_2301 M j] at p0 p1 p2 ⊢
  simp only [cn_2304 M j] at p0 p1 p2 ⊢
  simp only [cn_230j M j] at p0 p1 p2 ⊢
  simp only [cn_2314 M j] at p0 p1 p2 ⊢
  simp only [cn_231j M j] at p0 p1 p2 ⊢
  simp only [cn_1302 M j] at p0 p1 p2 ⊢
  simp only [cn_1304 M j] at p0 p1 p2 ⊢
  simp only [cn_130j M j] at p0 p1 p2 ⊢
  simp only [cn_1324 M j] at p0 p1 p2 ⊢
  simp only [cn_132j M j] at p0 p1 p2 ⊢
  simp only [cn_1203 M j] at p0 p1 p2 ⊢
  simp only [cn_1204 M j] at p0 p1 p2 ⊢
  simp only [cn_120j M j] at p0 p1 p2 ⊢
  grind
theorem cn_0j23 (M : Int → Int → Int) (j : Int) : dt4 M 0 1 2 3 0 j 2 3 = dt4 M 0 1 2 3 0 2 3 j := by
  rw [dc4_1 M 0 2 j 3, dc4_2 M 0 2 3 j]
  try omega
theorem cn_0423 (M : Int → Int → Int) (j : Int) : dt4 M 0 1 2 3 0 4 2 3 = dt4 M 0 1 2 3 0 2 3 4 := by
  rw [dc4_1 M 0 2 4 3, dc4_2 M 0 2 3 4]
  try omega
theorem cn_0j34 (M : Int → Int → Int) (j : Int) : dt4 M 0 1 2 3 0 j 3 4 = dt4 M 0 1 2 3 0 3 4 j := by
  rw [dc4_1 M 0 3 j 4, dc4_2 M 0 3 4 j]
  try omega
theorem cn_0j24 (M : Int → Int → Int) (j : Int) : dt4 M 0 1 2 3 0 j 2 4 = dt4 M 0 1 2 3 0 2 4 j := by
  rw [dc4_1 M 0 2 j 4, dc4_2 M 0 2 4 j]
  try omega
theorem cn_2310 (M : Int → Int → Int) (j : Int) : dt4 M 0 1 2 3 2 3 1 0 = - dt4 M 0 1 2 3 0 1 2 3 := by
  rw [dc4_1 M 2 1 3 0, dc4_2 M 2 1 0 3, dc4_0 M 1 2 0 3, dc4_1 M 1 0 2 3, dc4_0 M 0 1 2 3]
  try omega
theorem cn_0312 (M : Int → Int → Int) (j : Int) : dt4 M 0 1 2 3 0 3 1 2 = dt4 M 0 1 2 3 0 1 2 3 := by
  rw [dc4_1 M 0 1 3 2, dc4_2 M 0 1 2 3]
  try omega
theorem cn_0314 (M : Int → Int → Int) (j : Int) : dt4 M 0 1 2 3 0 3 1 4 = - dt4 M 0 1 2 3 0 1 3 4 := by
  rw [dc4_1 M 0 1 3 4]
theorem cn_031j (M : Int → Int → Int) (j : Int) : dt4 M 0 1 2 3 0 3 1 j = - dt4 M 0 1 2 3 0 1 3 j := by
  rw [dc4_1 M 0 1 3 j]
theorem cn_0324 (M : Int → Int → Int) (j : Int) : dt4 M 0 1 2 3 0 3 2 4 = - dt4 M 0 1 2 3 0 2 3 4 := by
  rw [dc4_1 M 0 2 3 4]
theorem cn_032j (M : Int → Int → Int) (j : Int) : dt4 M 0 1 2 3 0 3 2 j = - dt4 M 0 1 2 3 0 2 3 j := by
  rw [dc4_1 M 0 2 3 j]
theorem cn_0213 (M : Int → Int → Int) (j : Int) : dt4 M 0 1 2 3 0 2 1 3 = - dt4 M 0 1 2 3 0 1 2 3 := by
  rw [dc4_1 M 0 1 2 3]
theorem cn_0214 (M : Int → Int → Int) (j : Int) : dt4 M 0 1 2 3 0 2 1 4 = - dt4 M 0 1 2 3 0 1 2 4 := by
  rw [dc4_1 M 0 1 2 4]
theorem cn_021j (M : Int → Int → Int) (j : Int) : dt4 M 0 1 2 3 0 2 1 j = - dt4 M 0 1 2 3 0 1 2 j := by
  rw [dc4_1 M 0 1 2 j]
set_option maxHeartbeats 40000000 in
set_option maxRecDepth 1000000 in
theorem as4_1 (M : Int → Int → Int) (j : Int) : dt5 M 0 1 2 3 4 0 1 2 3 4 * (dt4 M 0 1 2 3 0 j 2 3) - (dt4 M 0 1 2 3 0 4 2 3) * (dt5 M 0 1 2 3 4 0 1 2 3 j) = (dt4 M 0 1 2 3 0 1 2 3) * (dt5 M 0 1 2 3 4 0 j 2 3 4) := by
  have p0 := pl4 M 2 3 1 0 4 j
  have p1 := pl4 M 0 3 1 2 4 j
  have p2 := pl4 M 0 2 1 3 4 j
  rw [ex5, ex5, ex5]
  simp only [cn_0j23 M j] at p0 p1 p2 ⊢
  simp only [cn_0423 M j] at p0 p1 p2 ⊢
  simp only [cn_j234 M j] at p0 p1 p2 ⊢
  simp only [cn_0j34 M j] at p0 p1 p2 ⊢
  simp only [cn_0j24 M j] at p0 p1 p2 ⊢
  simp only [cn_2310 M j] at p0 p1 p2 ⊢
  simp only [cn_2314 M j] at p0 p1 p2 ⊢
  simp only [cn_231j M j] at p0 p1 p2 ⊢
  simp only [cn_2304 M j] at p0 p1 p2 ⊢
  simp only [cn_230j M j] at p0 p1 p2 ⊢
  simp only [cn_0312 M j] at p0 p1 p2 ⊢
  simp only [cn_0314 M j] at p0 p1 p2 ⊢
  simp only [cn_031j M j] at p0 p1 p2 ⊢
  simp only [cn_0324 M j] at p0 p1 p2 ⊢
  simp only [cn_032j M j] at p0 p1 p2 ⊢
  simp only [cn_0213 M j] at p0 p1 p2 ⊢
  simp only [cn_0214 M j] at p0 p1 p2 ⊢
  simp only [cn_021j M j] at p0 p1 p2 ⊢
  grind
theorem cn_01j3 (M : Int → Int → Int) (j : Int) : dt4 M 0 1 2 3 0 1 j 3 = - dt4 M 0 1 2 3 0 1 3 j := by
  rw [dc4_2 M 0 1 3 j]
theorem cn_0143 (M : Int → Int → Int) (j : Int) : dt4 M 0 1 2 3 0 1 4 3 = - dt4 M 0 1 2 3 0 1 3 4 := by
  rw [dc4_2 M 0 1 3 4]
theorem cn_1j34 (M : Int → Int → Int) (j : Int) : dt4 M 0 1 2 3 1 j 3 4 = dt4 M 0 1 2 3 1 3 4 j := by
  rw [dc4_1 M 1 3 j 4, dc4_2 M 1 3 4 j]
  try omega
theorem cn_01j4 (M : Int → Int → Int) (j : Int) : dt4 M 0 1 2 3 0 1 j 4 = - dt4 M 0 1 2 3 0 1 4 j := by
  rw [dc4_2 M 0 1 4 j]
theorem cn_1320 (M : Int → Int → Int) (j : Int) : dt4 M 0 1 2 3 1 3 2 0 = dt4 M 0 1 2 3 0 1 2 3 := by
  rw [dc4_1 M 1 2 3 0, dc4_2 M 1 2 0 3, dc4_1 M 1 0 2 3, dc4_0 M 0 1 2 3]
  try omega
theorem cn_0321 (M : Int → Int → Int) (j : Int) : dt4 M 0 1 2 3 0 3 2 1 = - dt4 M 0 1 2 3 0 1 2 3 := by
  rw [dc4_1 M 0 2 3 1, dc4_2 M 0 2 1 3, dc4_1 M 0 1 2 3]
  try omega
set_option maxHeartbeats 40000000 in
set_option maxRecDepth 1000000 in
theorem as4_2 (M : Int → Int → Int) (j : Int) : dt5 M 0 1 2 3 4 0 1 2 3 4 * (dt4 M 0 1 2 3 0 1 j 3) - (dt4 M 0 1 2 3 0 1 4 3) * (dt5 M 0 1 2 3 4 0 1 2 3 j) = (dt4 M 0 1 2 3 0 1 2 3) * (dt5 M 0 1 2 3 4 0 1 j 3 4) := by
  have p0 := pl4 M 1 3 2 0 4 j
  have p1 := pl4 M 0 3 2 1 4 j
  have p2 := pl4 M 0 1 2 3 4 j
  rw [ex5, ex5, ex5]
  simp only [cn_01j3 M j] at p0 p1 p2 ⊢
  simp only [cn_0143 M j] at p0 p1 p2 ⊢
  simp only [cn_1j34 M j] at p0 p1 p2 ⊢
  simp only [cn_0j34 M j] at p0 p1 p2 ⊢
  simp only [cn_01j4 M j] at p0 p1 p2 ⊢
  simp only [cn_1320 M j] at p0 p1 p2 ⊢
  simp only [cn_1324 M j] at p0 p1 p2 ⊢
  simp only [cn_132j M j] at p0 p1 p2 ⊢
  simp only [cn_1304 M j] at p0 p1 p2 ⊢
  simp only [cn_130j M j] at p0 p1 p2 ⊢
  simp only [cn_0321 M j] at p0 p1 p2 ⊢
  simp only [cn_0324 M j] at p0 p1 p2 ⊢
  simp only [cn_032j M j] at p0 p1 p2 ⊢
  simp only [cn_0314 M j] at p0 p1 p2 ⊢
  simp only [cn_031j M j] at p0 p1 p2 ⊢
  grind
theorem cn_12j4 (M : Int → Int → Int) (j : Int) : dt4 M 0 1 2 3 1 2 j 4 = - dt4 M 0 1 2 3 1 2 4 j := by
  rw [dc4_2 M 1 2 4 j]
theorem cn_02j4 (M : Int → Int → Int) (j : Int) : dt4 M 0 1 2 3 0 2 j 4 = - dt4 M 0 1 2 3 0 2 4 j := by
  rw [dc4_2 M 0 2 4 j]
theorem cn_1230 (M : Int → Int → Int) (j : Int) : dt4 M 0 1 2 3 1 2 3 0 = - dt4 M 0 1 2 3 0 1 2 3 := by
  rw [dc4_2 M 1 2 0 3, dc4_1 M 1 0 2 3, dc4_0 M 0 1 2 3]
  try omega
theorem cn_0231 (M : Int → Int → Int) (j : Int) : dt4 M 0 1 2 3 0 2 3 1 = dt4 M 0 1 2 3 0 1 2 3 := by
  rw [dc4_2 M 0 2 1 3, dc4_1 M 0 1 2 3]
  try omega
theorem cn_0132 (M : Int → Int → Int) (j : Int) : dt4 M 0 1 2 3 0 1 3 2 = - dt4 M 0 1 2 3 0 1 2 3 := by
  rw [dc4_2 M 0 1 2 3]
set_option maxHeartbeats 40000000 in
set_option maxRecDepth 1000000 in
theorem as4_3 (M : Int → Int → Int) (j : Int) : dt5 M 0 1 2 3 4 0 1 2 3 4 * (dt4 M 0 1 2 3 0 1 2 j) - (dt4 M 0 1 2 3 0 1 2 4) * (dt5 M 0 1 2 3 4 0 1 2 3 j) = (dt4 M 0 1 2 3 0 1 2 3) * (dt5 M 0 1 2 3 4 0 1 2 j 4) := by
  have p0 := pl4 M 1 2 3 0 4 j
  have p1 := pl4 M 0 2 3 1 4 j
  have p2 := pl4 M 0 1 3 2 4 j
  rw [ex5, ex5, ex5]
  simp only [cn_12j4 M j] at p0 p1 p2 ⊢
  simp only [cn_02j4 M j] at p0 p1 p2 ⊢
  simp only [cn_01j4 M j] at p0 p1 p2 ⊢
  simp only [cn_1230 M j] at p0 p1 p2 ⊢
  simp only [cn_1204 M j] at p0 p1 p2 ⊢
  simp only [cn_120j M j] at p0 p1 p2 ⊢
  simp only [cn_0231 M j] at p0 p1 p2 ⊢
  simp only [cn_0214 M j] at p0 p1 p2 ⊢
  simp only [cn_021j M j] at p0 p1 p2 ⊢
  simp only [cn_0132 M j] at p0 p1 p2 ⊢
  grind
theorem ad_new {M : Int → Int → Int} {k j : Int} (h0 : 0 ≤ k) (h4 : k ≤ 4) : adk M (k + 1) k j = bdk M k k j := by
  obtain rfl | rfl | rfl | rfl | rfl : k = 0 ∨ k = 1 ∨ k = 2 ∨ k = 3 ∨ k = 4 := by omega
  all_goals rfl
theorem ad_step {M : Int → Int → Int} {k i j : Int} (h0 : 1 ≤ k) (h4 : k ≤ 4) (hi : 0 ≤ i) (hi2 : i < k) : bdk M k k k * adk M k i j - adk M k i k * bdk M k k j = prk M k * adk M (k + 1) i j := by
  obtain ⟨rfl, rfl⟩ | ⟨rfl, rfl⟩ | ⟨rfl, rfl⟩ | ⟨rfl, rfl⟩ | ⟨rfl, rfl⟩ | ⟨rfl, rfl⟩ | ⟨rfl, rfl⟩ | ⟨rfl, rfl⟩ | ⟨rfl, rfl⟩ | ⟨rfl, rfl⟩ : (k = 1 ∧ i = 0) ∨ (k = 2 ∧ i = 0) ∨ (k = 2 ∧ i = 1) ∨ (k = 3 ∧ i = 0) ∨ (k = 3 ∧ i = 1) ∨ (k = 3 ∧ i = 2) ∨ (k = 4 ∧ i = 0) ∨ (k = 4 ∧ i = 1) ∨ (k = 4 ∧ i = 2) ∨ (k = 4 ∧ i = 3) := by omega
  · exact as1_0 M j
  · exact as2_0 M j
  · exact as2_1 M j
  · exact as3_0 M j
  · exact as3_1 M j
  · exact as3_2 M j
  · exact as4_0 M j
  · exact as4_1 M j
  · exact as4_2 M j
  · exact as4_3 M j
theorem adk_b {M : Int → Int → Int} (h : MB M) {k : Int} (h4 : k ≤ 4) (i j : Int) : -19440000 ≤ adk M k i j ∧ adk M k i j ≤ 19440000 := by
  unfold adk
  repeat' split
  all_goals first
    | (have := h 0 j; omega)
    | (have := dt2_b h 0 1 j 1; omega)
    | (have := dt2_b h 0 1 0 j; omega)
    | (have := dt3_b h 0 1 2 j 1 2; omega)
    | (have := dt3_b h 0 1 2 0 j 2; omega)
    | (have := dt3_b h 0 1 2 0 1 j; omega)
    | (have := dt4_b h 0 1 2 3 j 1 2 3; omega)
    | (have := dt4_b h 0 1 2 3 0 j 2 3; omega)
    | (have := dt4_b h 0 1 2 3 0 1 j 3; omega)
    | (have := dt4_b h 0 1 2 3 0 1 2 j; omega)
    | omega
theorem adk_b5 {M : Int → Int → Int} (h : MB M) (i j : Int) : -2916000000 ≤ adk M 5 i j ∧ adk M 5 i j ≤ 2916000000 := by
  have e : adk M 5 i j = if i = 0 then dt5 M 0 1 2 3 4 j 1 2 3 4 else if i = 1 then dt5 M 0 1 2 3 4 0 j 2 3 4 else if i = 2 then dt5 M 0 1 2 3 4 0 1 j 3 4 else if i = 3 then dt5 M 0 1 2 3 4 0 1 2 j 4 else dt5 M 0 1 2 3 4 0 1 2 3 j := rfl
  rw [e]
  repeat' split
  all_goals exact dt5_b h _ _ _ _ _ _ _ _ _ _
