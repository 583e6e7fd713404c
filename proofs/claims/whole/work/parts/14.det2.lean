set_option maxHeartbeats 40000000 in
set_option maxRecDepth 1000000 in
theorem ds2_0 (M : Int → Int → Int) (r0 r1 c0 c1 : Int) : dt2 M r1 r0 c0 c1 = - (dt2 M r0 r1 c0 c1) := by
  unfold dt2
  grind
set_option maxHeartbeats 40000000 in
set_option maxRecDepth 1000000 in
theorem ds3_0 (M : Int → Int → Int) (r0 r1 r2 c0 c1 c2 : Int) : dt3 M r1 r0 r2 c0 c1 c2 = - (dt3 M r0 r1 r2 c0 c1 c2) := by
  unfold dt3 dt2
  grind
set_option maxHeartbeats 40000000 in
set_option maxRecDepth 1000000 in
theorem ds3_1 (M : Int → Int → Int) (r0 r1 r2 c0 c1 c2 : Int) : dt3 M r0 r2 r1 c0 c1 c2 = - (dt3 M r0 r1 r2 c0 c1 c2) := by
  unfold dt3 dt2
  grind
set_option maxHeartbeats 40000000 in
set_option maxRecDepth 1000000 in
theorem ds4_0 (M : Int → Int → Int) (r0 r1 r2 r3 c0 c1 c2 c3 : Int) : dt4 M r1 r0 r2 r3 c0 c1 c2 c3 = - (dt4 M r0 r1 r2 r3 c0 c1 c2 c3) := by
  unfold dt4 dt3 dt2
  grind
set_option maxHeartbeats 40000000 in
set_option maxRecDepth 1000000 in
theorem ds4_1 (M : Int → Int → Int) (r0 r1 r2 r3 c0 c1 c2 c3 : Int) : dt4 M r0 r2 r1 r3 c0 c1 c2 c3 = - (dt4 M r0 r1 r2 r3 c0 c1 c2 c3) := by
  unfold dt4 dt3 dt2
  grind
set_option maxHeartbeats 40000000 in
set_option maxRecDepth 1000000 in
theorem ds4_2 (M : Int → Int → Int) (r0 r1 r2 r3 c0 c1 c2 c3 : Int) : dt4 M r0 r1 r3 r2 c0 c1 c2 c3 = - (dt4 M r0 r1 r2 r3 c0 c1 c2 c3) := by
  unfold dt4 dt3 dt2
  grind
set_option maxHeartbeats 40000000 in
set_option maxRecDepth 1000000 in
theorem ds5_0 (M : Int → Int → Int) (r0 r1 r2 r3 r4 c0 c1 c2 c3 c4 : Int) : dt5 M r1 r0 r2 r3 r4 c0 c1 c2 c3 c4 = - (dt5 M r0 r1 r2 r3 r4 c0 c1 c2 c3 c4) := by
  unfold dt5 dt4 dt3 dt2
  grind
set_option maxHeartbeats 40000000 in
set_option maxRecDepth 1000000 in
theorem ds5_1 (M : Int → Int → Int) (r0 r1 r2 r3 r4 c0 c1 c2 c3 c4 : Int) : dt5 M r0 r2 r1 r3 r4 c0 c1 c2 c3 c4 = - (dt5 M r0 r1 r2 r3 r4 c0 c1 c2 c3 c4) := by
  unfold dt5 dt4 dt3 dt2
  grind
set_option maxHeartbeats 40000000 in
set_option maxRecDepth 1000000 in
theorem ds5_2 (M : Int → Int → Int) (r0 r1 r2 r3 r4 c0 c1 c2 c3 c4 : Int) : dt5 M r0 r1 r3 r2 r4 c0 c1 c2 c3 c4 = - (dt5 M r0 r1 r2 r3 r4 c0 c1 c2 c3 c4) := by
  unfold dt5 dt4 dt3 dt2
  grind
set_option maxHeartbeats 40000000 in
set_option maxRecDepth 1000000 in
theorem ds5_3 (M : Int → Int → Int) (r0 r1 r2 r3 r4 c0 c1 c2 c3 c4 : Int) : dt5 M r0 r1 r2 r4 r3 c0 c1 c2 c3 c4 = - (dt5 M r0 r1 r2 r3 r4 c0 c1 c2 c3 c4) := by
  unfold dt5 dt4 dt3 dt2
  grind
set_option maxHeartbeats 40000000 in
set_option maxRecDepth 1000000 in
theorem zp2_0 (M : Int → Int → Int) : 1 * (dt2 M 0 1 0 1) = M 0 0 * (M 1 1) - M 1 0 * (M 0 1) := by
  unfold dt2
  grind
set_option maxHeartbeats 40000000 in
set_option maxRecDepth 1000000 in
theorem zp3_0 (M : Int → Int → Int) : 1 * (dt3 M 0 1 2 0 1 2) = M 0 0 * (dt2 M 1 2 1 2) - M 1 0 * (dt2 M 0 2 1 2) + M 2 0 * (dt2 M 0 1 1 2) := by
  unfold dt3 dt2
  grind
set_option maxHeartbeats 40000000 in
set_option maxRecDepth 1000000 in
theorem zp3_1 (M : Int → Int → Int) : M 0 0 * (dt3 M 0 1 2 0 1 2) = bd1 M 1 1 * (dt2 M 0 2 0 2) - bd1 M 2 1 * (dt2 M 0 1 0 2) := by
  unfold bd1 dt3 dt2
  grind
set_option maxHeartbeats 40000000 in
set_option maxRecDepth 1000000 in
theorem zp4_0 (M : Int → Int → Int) : 1 * (dt4 M 0 1 2 3 0 1 2 3) = M 0 0 * (dt3 M 1 2 3 1 2 3) - M 1 0 * (dt3 M 0 2 3 1 2 3) + M 2 0 * (dt3 M 0 1 3 1 2 3) - M 3 0 * (dt3 M 0 1 2 1 2 3) := by
  unfold dt4 dt3 dt2
  grind
set_option maxHeartbeats 40000000 in
set_option maxRecDepth 1000000 in
theorem zp4_1 (M : Int → Int → Int) : M 0 0 * (dt4 M 0 1 2 3 0 1 2 3) = bd1 M 1 1 * (dt3 M 0 2 3 0 2 3) - bd1 M 2 1 * (dt3 M 0 1 3 0 2 3) + bd1 M 3 1 * (dt3 M 0 1 2 0 2 3) := by
  unfold bd1 dt4 dt3 dt2
  grind
set_option maxHeartbeats 40000000 in
set_option maxRecDepth 1000000 in
theorem zp4_2 (M : Int → Int → Int) : dt2 M 0 1 0 1 * (dt4 M 0 1 2 3 0 1 2 3) = bd2 M 2 2 * (dt3 M 0 1 3 0 1 3) - bd2 M 3 2 * (dt3 M 0 1 2 0 1 3) := by
  unfold bd2 dt4 dt3 dt2
  grind
set_option maxHeartbeats 40000000 in
set_option maxRecDepth 1000000 in
theorem zp5_0 (M : Int → Int → Int) : 1 * (dt5 M 0 1 2 3 4 0 1 2 3 4) = M 0 0 * (dt4 M 1 2 3 4 1 2 3 4) - M 1 0 * (dt4 M 0 2 3 4 1 2 3 4) + M 2 0 * (dt4 M 0 1 3 4 1 2 3 4) - M 3 0 * (dt4 M 0 1 2 4 1 2 3 4) + M 4 0 * (dt4 M 0 1 2 3 1 2 3 4) := by
  unfold dt5 dt4 dt3 dt2
  grind
set_option maxHeartbeats 40000000 in
set_option maxRecDepth 1000000 in
theorem zp5_1 (M : Int → Int → Int) : M 0 0 * (dt5 M 0 1 2 3 4 0 1 2 3 4) = bd1 M 1 1 * (dt4 M 0 2 3 4 0 2 3 4) - bd1 M 2 1 * (dt4 M 0 1 3 4 0 2 3 4) + bd1 M 3 1 * (dt4 M 0 1 2 4 0 2 3 4) - bd1 M 4 1 * (dt4 M 0 1 2 3 0 2 3 4) := by
  unfold bd1 dt5 dt4 dt3 dt2
  grind
set_option maxHeartbeats 40000000 in
set_option maxRecDepth 1000000 in
theorem zp5_2 (M : Int → Int → Int) : dt2 M 0 1 0 1 * (dt5 M 0 1 2 3 4 0 1 2 3 4) = bd2 M 2 2 * (dt4 M 0 1 3 4 0 1 3 4) - bd2 M 3 2 * (dt4 M 0 1 2 4 0 1 3 4) + bd2 M 4 2 * (dt4 M 0 1 2 3 0 1 3 4) := by
  unfold bd2 dt5 dt4 dt3 dt2
  grind
set_option maxHeartbeats 40000000 in
set_option maxRecDepth 1000000 in
theorem zp5_3 (M : Int → Int → Int) : dt3 M 0 1 2 0 1 2 * (dt5 M 0 1 2 3 4 0 1 2 3 4) = bd3 M 3 3 * (dt4 M 0 1 2 4 0 1 2 4) - bd3 M 4 3 * (dt4 M 0 1 2 3 0 1 2 4) := by
  unfold bd3 dt5 dt4 dt3 dt2
  grind
