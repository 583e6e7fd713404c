def dt2 (M : Int → Int → Int) (a b c d : Int) : Int := M a c * M b d - M a d * M b c
def dt3 (M : Int → Int → Int) (r0 r1 r2 c0 c1 c2 : Int) : Int := M r0 c0 * dt2 M r1 r2 c1 c2 - M r0 c1 * dt2 M r1 r2 c0 c2 + M r0 c2 * dt2 M r1 r2 c0 c1
def dt4 (M : Int → Int → Int) (r0 r1 r2 r3 c0 c1 c2 c3 : Int) : Int := M r0 c0 * dt3 M r1 r2 r3 c1 c2 c3 - M r0 c1 * dt3 M r1 r2 r3 c0 c2 c3 + M r0 c2 * dt3 M r1 r2 r3 c0 c1 c3 - M r0 c3 * dt3 M r1 r2 r3 c0 c1 c2
def dt5 (M : Int → Int → Int) (r0 r1 r2 r3 r4 c0 c1 c2 c3 c4 : Int) : Int := M r0 c0 * dt4 M r1 r2 r3 r4 c1 c2 c3 c4 - M r0 c1 * dt4 M r1 r2 r3 r4 c0 c2 c3 c4 + M r0 c2 * dt4 M r1 r2 r3 r4 c0 c1 c3 c4 - M r0 c3 * dt4 M r1 r2 r3 r4 c0 c1 c2 c4 + M r0 c4 * dt4 M r1 r2 r3 r4 c0 c1 c2 c3
def bd1 (M : Int → Int → Int) (i j : Int) : Int := dt2 M 0 i 0 j
def bd2 (M : Int → Int → Int) (i j : Int) : Int := dt3 M 0 1 i 0 1 j
def bd3 (M : Int → Int → Int) (i j : Int) : Int := dt4 M 0 1 2 i 0 1 2 j
def bd4 (M : Int → Int → Int) (i j : Int) : Int := dt5 M 0 1 2 3 i 0 1 2 3 j
theorem bar1 (M : Int → Int → Int) (i j : Int) : bd1 M i j * bd1 M 1 1 - bd1 M i 1 * bd1 M 1 j = M 0 0 * bd2 M i j := by
  unfold bd1 bd2 dt3 dt2
  grind
set_option maxHeartbeats 4000000 in
theorem bar2 (M : Int → Int → Int) (i j : Int) : bd2 M i j * bd2 M 2 2 - bd2 M i 2 * bd2 M 2 j = bd1 M 1 1 * bd3 M i j := by
  unfold bd1 bd2 bd3 dt4 dt3 dt2
  grind
set_option maxHeartbeats 40000000 in
set_option maxRecDepth 1000000 in
theorem bar3 (M : Int → Int → Int) (i j : Int) : bd3 M i j * bd3 M 3 3 - bd3 M i 3 * bd3 M 3 j = bd2 M 2 2 * bd4 M i j := by
  unfold bd2 bd3 bd4 dt5 dt4 dt3 dt2
  grind
def rc (M : Int → Int → Int) (s : Int) (v : Int → Int) : Int → Int → Int := fun i j => if j = s then v i else M i j
set_option maxHeartbeats 40000000 in
set_option maxRecDepth 1000000 in
theorem cr4_0 (M : Int → Int → Int) (v : Int → Int) : M 0 0 * dt4 (rc M 0 v) 0 1 2 3 0 1 2 3 + M 0 1 * dt4 (rc M 1 v) 0 1 2 3 0 1 2 3 + M 0 2 * dt4 (rc M 2 v) 0 1 2 3 0 1 2 3 + M 0 3 * dt4 (rc M 3 v) 0 1 2 3 0 1 2 3 = dt4 M 0 1 2 3 0 1 2 3 * v 0 := by
  simp [dt4, dt3, dt2, rc]
  grind
