def f0_makeBare (o : Int) (Q : St → Prop) (st : St)  : Prop :=
  ∀ st1 : St, st1 = up st 6 2 (4 * o) 0 0 → ∀ st2 : St, st2 = up st1 6 2 (4 * o + 1) 0 0 → ∀ st3 : St, st3 = up st2 6 2 (4 * o + 2) 0 0 → ∀ st4 : St, st4 = up st3 6 2 (4 * o + 3) 0 0 → Q st4
def f6_has (o : Int) (Q : Int → St → Prop) (st : St) (a0 : Int) : Prop :=
  inI a0 ∧ ((a0 < 0 → Q 0 st) ∧ (¬ a0 < 0 → inI a0 ∧ inI (st 6 2 o 0) ∧ ((st 6 2 o 0 ≤ a0 → Q 0 st) ∧ (¬ st 6 2 o 0 ≤ a0 → inI a0 ∧ inI (rcap o) ∧ ((rcap o ≤ a0 → Q 0 st) ∧ (¬ rcap o ≤ a0 → inI a0 ∧ inI (rcap o) ∧ ((rcap o ≤ a0 → Q 0 st) ∧ (¬ rcap o ≤ a0 → Q 1 st))))))))
def f6_first (o : Int) (Q : Int → St → Prop) (st : St) (a0 : Int) : Prop :=
  f6_has o (fun z1 st2 => inI z1 ∧ ((z1 = 0 → Q 0 st2) ∧ (¬ z1 = 0 → (0 : Int) ≤ a0 ∧ a0 < rcap o ∧ Q (st2 10 0 o a0) st2))) st a0
def f6_second (o : Int) (Q : Int → St → Prop) (st : St) (a0 : Int) : Prop :=
  f6_has o (fun z1 st2 => inI z1 ∧ ((z1 = 0 → Q 0 st2) ∧ (¬ z1 = 0 → (0 : Int) ≤ a0 ∧ a0 < rcap o ∧ Q (st2 11 0 o a0) st2))) st a0
def f6_copyFrom_l26 (o : Int) (a0 : Int)  (Q : St → Prop)  : Nat → St → Int → Prop
  | 0, _, _ => False
  | n + 1, st, v2x26 =>
  inI v2x26 ∧ inI (st 6 2 o 0) ∧ ((st 6 2 o 0 ≤ v2x26 → Q st) ∧ (¬ st 6 2 o 0 ≤ v2x26 → f6_first a0 (fun z9 st10 => (0 : Int) ≤ v2x26 ∧ v2x26 < rcap o ∧ ∀ st13 : St, st13 = up st10 10 0 o v2x26 z9 → f6_second a0 (fun z14 st15 => (0 : Int) ≤ v2x26 ∧ v2x26 < rcap o ∧ ∀ st18 : St, st18 = up st15 11 0 o v2x26 z14 → ∀ x19 : Int, x19 = v2x26 + 1 → f6_copyFrom_l26 o a0 Q n st18 x19) st13 v2x26) st v2x26))
def f6_copyFrom (o : Int) (a0 : Int) (Q : St → Prop) (st : St)  : Prop :=
  inI (rcap o) ∧ inI (rcap o) ∧ inI (st 6 2 a0 0) ∧ inI (imin (rcap o) (rcap o)) ∧ ∀ st5 : St, st5 = up st 6 2 o 0 (imin (st 6 2 a0 0) (imin (rcap o) (rcap o))) → ∃ k, f6_copyFrom_l26 o a0 Q k st5 0
def f0_copyFrom (o : Int) (a0 : Int) (Q : St → Prop) (st : St)  : Prop :=
  ∀ st1 : St, st1 = up st 0 0 o 0 (st 0 0 a0 0) → ∀ st2 : St, st2 = up st1 0 1 o 0 (st1 0 1 a0 0) → f6_copyFrom (4 * o) (4 * a0) (fun st4 => f6_copyFrom (4 * o + 1) (4 * a0 + 1) (fun st6 => f6_copyFrom (4 * o + 2) (4 * a0 + 2) (fun st8 => f6_copyFrom (4 * o + 3) (4 * a0 + 3) (fun st10 => Q st10) st8) st6) st4) st2
def f0_hasPlace (o : Int) (Q : Int → St → Prop) (st : St) (a0 : Int) : Prop :=
  inI a0 ∧ ((a0 < 0 → Q 0 st) ∧ (¬ a0 < 0 → inI a0 ∧ inI (st 0 0 o 0) ∧ ((st 0 0 o 0 < a0 → Q 0 st) ∧ (¬ st 0 0 o 0 < a0 → inI a0 ∧ ((31 ≤ a0 → Q 0 st) ∧ (¬ 31 ≤ a0 → Q 1 st))))))
def f6_holdsFirst_l2 (o : Int)  (Q : Int → St → Prop) (a0 : Int) : Nat → St → Int → Prop
  | 0, _, _ => False
  | n + 1, st, v2x2 =>
  inI v2x2 ∧ inI (st 6 2 o 0) ∧ ((st 6 2 o 0 ≤ v2x2 → Q 0 st) ∧ (¬ st 6 2 o 0 ≤ v2x2 → inI v2x2 ∧ inI (rcap o) ∧ ((rcap o ≤ v2x2 → Q 0 st) ∧ (¬ rcap o ≤ v2x2 → (0 : Int) ≤ v2x2 ∧ v2x2 < rcap o ∧ inI (st 10 0 o v2x2) ∧ inI a0 ∧ ((st 10 0 o v2x2 = a0 → Q 1 st) ∧ (¬ st 10 0 o v2x2 = a0 → ∀ x12 : Int, x12 = v2x2 + 1 → f6_holdsFirst_l2 o Q a0 n st x12))))))
def f6_holdsFirst (o : Int) (Q : Int → St → Prop) (st : St) (a0 : Int) : Prop :=
  ∃ k, f6_holdsFirst_l2 o Q a0 k st 0
def f0_isTaken (o : Int) (Q : Int → St → Prop) (st : St) (a0 : Int) : Prop :=
  f6_holdsFirst (4 * o) (fun z1 st2 => inI z1 ∧ ((z1 = 0 → f6_holdsFirst (4 * o + 1) (fun z5 st6 => inI z5 ∧ ((z5 = 0 → Q 0 st6) ∧ (¬ z5 = 0 → Q 1 st6))) st2 a0) ∧ (¬ z1 = 0 → Q 1 st2))) st a0
def f6_greatestSecond_l4 (o : Int)  (Q : Int → St → Prop)  : Nat → St → Int → Int → Prop
  | 0, _, _, _ => False
  | n + 1, st, v1x4, v2x4 =>
  inI v2x4 ∧ inI (st 6 2 o 0) ∧ ((st 6 2 o 0 ≤ v2x4 → Q v1x4 st) ∧ (¬ st 6 2 o 0 ≤ v2x4 → f6_second o (fun z4 st5 => inI v1x4 ∧ inI z4 ∧ ∀ x8 : Int, x8 = imax v1x4 z4 → ∀ x9 : Int, x9 = v2x4 + 1 → f6_greatestSecond_l4 o Q n st5 x8 x9) st v2x4))
def f6_greatestSecond (o : Int) (Q : Int → St → Prop) (st : St)  : Prop :=
  ∃ k, f6_greatestSecond_l4 o Q k st 0 0
def f0_lastHead (o : Int) (Q : Int → St → Prop) (st : St)  : Prop :=
  inI (st 6 2 (4 * o + 3) 0) ∧ ((st 6 2 (4 * o + 3) 0 = 0 → Q 0 st) ∧ (¬ st 6 2 (4 * o + 3) 0 = 0 → f6_greatestSecond (4 * o + 3) (fun z3 st4 => Q ((st 0 0 o 0) + z3) st4) st))
def f6_holdsSecond_l2 (o : Int)  (Q : Int → St → Prop) (a0 : Int) : Nat → St → Int → Prop
  | 0, _, _ => False
  | n + 1, st, v2x2 =>
  inI v2x2 ∧ inI (st 6 2 o 0) ∧ ((st 6 2 o 0 ≤ v2x2 → Q 0 st) ∧ (¬ st 6 2 o 0 ≤ v2x2 → inI v2x2 ∧ inI (rcap o) ∧ ((rcap o ≤ v2x2 → Q 0 st) ∧ (¬ rcap o ≤ v2x2 → (0 : Int) ≤ v2x2 ∧ v2x2 < rcap o ∧ inI (st 11 0 o v2x2) ∧ inI a0 ∧ ((st 11 0 o v2x2 = a0 → Q 1 st) ∧ (¬ st 11 0 o v2x2 = a0 → ∀ x12 : Int, x12 = v2x2 + 1 → f6_holdsSecond_l2 o Q a0 n st x12))))))
def f6_holdsSecond (o : Int) (Q : Int → St → Prop) (st : St) (a0 : Int) : Prop :=
  ∃ k, f6_holdsSecond_l2 o Q a0 k st 0
def f0_signAt (o : Int) (Q : Int → St → Prop) (st : St) (a0 : Int) : Prop :=
  f6_holdsFirst (4 * o) (fun z1 st2 => inI z1 ∧ ((z1 = 0 → f6_holdsFirst (4 * o + 1) (fun z5 st6 => inI z5 ∧ ((z5 = 0 → f6_holdsSecond (4 * o + 2) (fun z9 st10 => inI z9 ∧ ((z9 = 0 → Q 45 st10) ∧ (¬ z9 = 0 → Q 118 st10))) st6 a0) ∧ (¬ z5 = 0 → Q 111 st6))) st2 a0) ∧ (¬ z1 = 0 → Q 94 st2))) st a0
def f1_liftAll_l23 (o : Int)  (Q : St → Prop)  : Nat → St → Int → Prop
  | 0, _, _ => False
  | n + 1, st, v1x23 =>
  inI v1x23 ∧ ((5 ≤ v1x23 → ∀ st9 : St, st9 = up st 1 4 o 0 0 → Q st9) ∧ (¬ 5 ≤ v1x23 → (0 : Int) ≤ v1x23 ∧ v1x23 < 5 ∧ ∀ st12 : St, st12 = up st 13 0 o v1x23 0 → ∀ x13 : Int, x13 = v1x23 + 1 → f1_liftAll_l23 o Q n st12 x13))
def f1_liftAll_l2 (o : Int)  (Q : St → Prop)  : Nat → St → Int → Prop
  | 0, _, _ => False
  | n + 1, st, v1x2 =>
  inI v1x2 ∧ ((31 ≤ v1x2 → ∃ k, f1_liftAll_l23 o Q k st 0) ∧ (¬ 31 ≤ v1x2 → (0 : Int) ≤ v1x2 ∧ v1x2 < 31 ∧ ∀ st5 : St, st5 = up st 12 0 o v1x2 0 → ∀ x6 : Int, x6 = v1x2 + 1 → f1_liftAll_l2 o Q n st5 x6))
def f1_liftAll (o : Int) (Q : St → Prop) (st : St)  : Prop :=
  ∃ k, f1_liftAll_l2 o Q k st 0
def f1_press (o : Int) (a0 : Int) (Q : St → Prop) (st : St) (a1 : Int) (a2 : Int) : Prop :=
  f0_hasPlace a0 (fun z1 st2 => inI z1 ∧ ((z1 = 0 → Q st2) ∧ (¬ z1 = 0 → (0 : Int) ≤ a2 ∧ a2 < 31 ∧ (0 : Int) ≤ a2 ∧ a2 < 31 ∧ ∀ st9 : St, st9 = up st2 12 0 o a2 ((st2 12 0 o a2) + a1) → ∀ st10 : St, st10 = up st9 1 4 o 0 ((st9 1 4 o 0) + a1) → Q st10))) st a2
def f3_at_j29 (o : Int)  (Q : Int → St → Prop) (a0 : Int) (a1 : Int) (st : St) (s0x29 : Int) : Prop :=
  inI s0x29 ∧ ((s0x29 = 0 → Q 0 st) ∧ (¬ s0x29 = 0 → (0 : Int) ≤ a0 ∧ a0 < 5 ∧ (0 : Int) ≤ a1 ∧ a1 < 31 ∧ Q (st 20 0 (5 * o + a0) a1) st))
def f3_at_j28 (o : Int)  (Q : Int → St → Prop) (a0 : Int) (a1 : Int) (st : St)  : Prop :=
  f3_at_j29 o Q a0 a1 st 0
def f3_at (o : Int) (Q : Int → St → Prop) (st : St) (a0 : Int) (a1 : Int) : Prop :=
  inI a0 ∧ ((a0 < 0 → f3_at_j28 o Q a0 a1 st) ∧ (¬ a0 < 0 → inI a0 ∧ inI (st 3 2 o 0) ∧ ((st 3 2 o 0 ≤ a0 → f3_at_j28 o Q a0 a1 st) ∧ (¬ st 3 2 o 0 ≤ a0 → inI a1 ∧ ((a1 < 0 → f3_at_j28 o Q a0 a1 st) ∧ (¬ a1 < 0 → inI a1 ∧ inI (st 3 3 o 0) ∧ ((st 3 3 o 0 ≤ a1 → f3_at_j28 o Q a0 a1 st) ∧ (¬ st 3 3 o 0 ≤ a1 → f3_at_j29 o Q a0 a1 st 1))))))))
def f1_holdUp_l2 (o : Int) (a0 : Int)  (Q : St → Prop) (a1 : Int) : Nat → St → Int → Prop
  | 0, _, _ => False
  | n + 1, st, v3x2 =>
  inI v3x2 ∧ ((5 ≤ v3x2 → Q st) ∧ (¬ 5 ≤ v3x2 → (0 : Int) ≤ v3x2 ∧ v3x2 < 5 ∧ (0 : Int) ≤ a1 ∧ a1 < 31 ∧ inI (st 12 0 o a1) ∧ f3_at a0 (fun z8 st9 => (0 : Int) ≤ v3x2 ∧ v3x2 < 5 ∧ ∀ st12 : St, st12 = up st9 13 0 o v3x2 ((st 13 0 o v3x2) + ((st 12 0 o a1) * z8)) → ∀ x13 : Int, x13 = v3x2 + 1 → f1_holdUp_l2 o a0 Q a1 n st12 x13) st v3x2 a1))
def f1_holdUp (o : Int) (a0 : Int) (Q : St → Prop) (st : St) (a1 : Int) : Prop :=
  ∃ k, f1_holdUp_l2 o a0 Q a1 k st 0
def f1_reactionOf (o : Int) (Q : Int → St → Prop) (st : St) (a0 : Int) : Prop :=
  inI a0 ∧ ((a0 < 0 → Q 0 st) ∧ (¬ a0 < 0 → inI a0 ∧ ((5 ≤ a0 → Q 0 st) ∧ (¬ 5 ≤ a0 → (0 : Int) ≤ a0 ∧ a0 < 5 ∧ Q (st 13 0 o a0) st))))
def f1_sweep_j68 (o : Int) (a0 : Int) (B12 : St → Int → Int → Int → Int → Prop) (Q : St → Prop) (a1 : Int) (st : St) (v4x68 : Int) (v6x68 : Int) (v8x68 : Int) (v9x68 : Int) : Prop :=
  (0 : Int) ≤ v9x68 ∧ v9x68 < 31 ∧ inI (st 12 0 o v9x68) ∧ ∀ x22 : Int, x22 = v4x68 - ((st 12 0 o v9x68) * a1) → (0 : Int) ≤ v9x68 ∧ v9x68 < 31 ∧ ∀ st25 : St, st25 = up st 15 0 o v9x68 v6x68 → (0 : Int) ≤ v9x68 ∧ v9x68 < 31 ∧ ∀ st28 : St, st28 = up st25 14 0 o v9x68 x22 → ∀ x29 : Int, x29 = v6x68 + x22 → ∀ x30 : Int, x30 = v9x68 + 1 → B12 st28 x22 x29 v8x68 x30
def f1_sweep_l12 (o : Int) (a0 : Int)  (Q : St → Prop) (a1 : Int) : Nat → St → Int → Int → Int → Int → Prop
  | 0, _, _, _, _, _ => False
  | n + 1, st, v4x12, v6x12, v8x12, v9x12 =>
  inI v9x12 ∧ ((31 ≤ v9x12 → Q st) ∧ (¬ 31 ≤ v9x12 → inI v9x12 ∧ inI (st 0 0 a0 0) ∧ ((st 0 0 a0 0 < v9x12 → Q st) ∧ (¬ st 0 0 a0 0 < v9x12 → f6_has (4 * a0) (fun z6 st7 => inI z6 ∧ ((z6 = 0 → f1_sweep_j68 o a0 (fun st v4x12 v6x12 v8x12 v9x12 => f1_sweep_l12 o a0 Q a1 n st v4x12 v6x12 v8x12 v9x12) Q a1 st7 v4x12 v6x12 v8x12 v9x12) ∧ (¬ z6 = 0 → f6_first (4 * a0) (fun z10 st11 => inI z10 ∧ inI v9x12 ∧ ((z10 = v9x12 → f1_reactionOf o (fun z15 st16 => ∀ x17 : Int, x17 = v4x12 + z15 → ∀ x18 : Int, x18 = v8x12 + 1 → f1_sweep_j68 o a0 (fun st v4x12 v6x12 v8x12 v9x12 => f1_sweep_l12 o a0 Q a1 n st v4x12 v6x12 v8x12 v9x12) Q a1 st16 x17 v6x12 x18 v9x12) st11 v8x12) ∧ (¬ z10 = v9x12 → f1_sweep_j68 o a0 (fun st v4x12 v6x12 v8x12 v9x12 => f1_sweep_l12 o a0 Q a1 n st v4x12 v6x12 v8x12 v9x12) Q a1 st11 v4x12 v6x12 v8x12 v9x12))) st7 v8x12))) st v8x12))))
def f1_sweep (o : Int) (a0 : Int) (Q : St → Prop) (st : St) (a1 : Int) : Prop :=
  ∃ k, f1_sweep_l12 o a0 Q a1 k st 0 0 0 0
def f1_balance_j23 (o : Int) (a0 : Int) (a1 : Int) (B2 : St → Int → Prop) (Q : St → Prop)  (st : St) (v3x23 : Int) : Prop :=
  ∀ x11 : Int, x11 = v3x23 + 1 → B2 st x11
def f1_balance_l2 (o : Int) (a0 : Int) (a1 : Int)  (Q : St → Prop)  : Nat → St → Int → Prop
  | 0, _, _ => False
  | n + 1, st, v3x2 =>
  inI v3x2 ∧ ((31 ≤ v3x2 → f1_sweep o a0 (fun st4 => Q st4) st (st 3 4 a1 0)) ∧ (¬ 31 ≤ v3x2 → (0 : Int) ≤ v3x2 ∧ v3x2 < 31 ∧ inI (st 12 0 o v3x2) ∧ ((st 12 0 o v3x2 = 0 → f1_balance_j23 o a0 a1 (fun st v3x2 => f1_balance_l2 o a0 a1 Q n st v3x2) Q st v3x2) ∧ (¬ st 12 0 o v3x2 = 0 → f1_holdUp o a1 (fun st10 => f1_balance_j23 o a0 a1 (fun st v3x2 => f1_balance_l2 o a0 a1 Q n st v3x2) Q st10 v3x2) st v3x2))))
def f1_balance (o : Int) (a0 : Int) (a1 : Int) (Q : St → Prop) (st : St)  : Prop :=
  ∃ k, f1_balance_l2 o a0 a1 Q k st 0
def f1_underOne (o : Int) (a0 : Int) (a1 : Int) (Q : St → Prop) (st : St) (a2 : Int) : Prop :=
  f1_liftAll o (fun st2 => f1_press o a0 (fun st4 => f1_balance o a0 a1 (fun st6 => Q st6) st4) st2 1 a2) st
def f1_pressAxles_l2 (o : Int) (a0 : Int)  (Q : St → Prop) (a1 : Int) : Nat → St → Int → Prop
  | 0, _, _ => False
  | n + 1, st, v3x2 =>
  inI v3x2 ∧ inI (st 6 2 (4 * a0 + 3) 0) ∧ ((st 6 2 (4 * a0 + 3) 0 ≤ v3x2 → Q st) ∧ (¬ st 6 2 (4 * a0 + 3) 0 ≤ v3x2 → f6_first (4 * a0 + 3) (fun z4 st5 => f6_second (4 * a0 + 3) (fun z6 st7 => f1_press o a0 (fun st9 => ∀ x10 : Int, x10 = v3x2 + 1 → f1_pressAxles_l2 o a0 Q a1 n st9 x10) st7 z4 (a1 - z6)) st5 v3x2) st v3x2))
def f1_pressAxles (o : Int) (a0 : Int) (Q : St → Prop) (st : St) (a1 : Int) : Prop :=
  ∃ k, f1_pressAxles_l2 o a0 Q a1 k st 0
def f1_underAll_j59 (o : Int) (a0 : Int) (a1 : Int)  (Q : St → Prop)  (st : St)  : Prop :=
  f1_balance o a0 a1 (fun st18 => Q st18) st
def f1_underAll_l7 (o : Int) (a0 : Int) (a1 : Int)  (Q : St → Prop) (a2 : Int) : Nat → St → Int → Prop
  | 0, _, _ => False
  | n + 1, st, v4x7 =>
  inI v4x7 ∧ inI (st 6 2 (4 * a0 + 2) 0) ∧ ((st 6 2 (4 * a0 + 2) 0 ≤ v4x7 → inI a2 ∧ ((a2 = (-1) → f1_underAll_j59 o a0 a1 Q st) ∧ (¬ a2 = (-1) → f1_pressAxles o a0 (fun st9 => f1_underAll_j59 o a0 a1 Q st9) st a2))) ∧ (¬ st 6 2 (4 * a0 + 2) 0 ≤ v4x7 → f6_first (4 * a0 + 2) (fun z10 st11 => f6_second (4 * a0 + 2) (fun z12 st13 => f1_press o a0 (fun st15 => ∀ x16 : Int, x16 = v4x7 + 1 → f1_underAll_l7 o a0 a1 Q a2 n st15 x16) st13 z10 z12) st11 v4x7) st v4x7))
def f1_underAll (o : Int) (a0 : Int) (a1 : Int) (Q : St → Prop) (st : St) (a2 : Int) : Prop :=
  f1_liftAll o (fun st2 => ∃ k, f1_underAll_l7 o a0 a1 Q a2 k st2 0) st
def f1_shearIn (o : Int) (Q : Int → St → Prop) (st : St) (a0 : Int) : Prop :=
  inI a0 ∧ ((a0 < 0 → Q 0 st) ∧ (¬ a0 < 0 → inI a0 ∧ ((31 ≤ a0 → Q 0 st) ∧ (¬ 31 ≤ a0 → (0 : Int) ≤ a0 ∧ a0 < 31 ∧ Q (st 14 0 o a0) st))))
def f1_momentAt (o : Int) (Q : Int → St → Prop) (st : St) (a0 : Int) : Prop :=
  inI a0 ∧ ((a0 < 0 → Q 0 st) ∧ (¬ a0 < 0 → inI a0 ∧ ((31 ≤ a0 → Q 0 st) ∧ (¬ 31 ≤ a0 → (0 : Int) ≤ a0 ∧ a0 < 31 ∧ Q (st 15 0 o a0) st))))
def f1_ofKind (o : Int) (Q : Int → St → Prop) (st : St) (a0 : Int) (a1 : Int) : Prop :=
  inI a0 ∧ ((a0 = 0 → f1_reactionOf o (fun z9 st10 => Q z9 st10) st a1) ∧ (¬ a0 = 0 → inI a0 ∧ ((a0 = 1 → f1_shearIn o (fun z7 st8 => Q z7 st8) st a1) ∧ (¬ a0 = 1 → f1_momentAt o (fun z5 st6 => Q z5 st6) st a1))))
def f1_liftedSet_j26 (o : Int) (B4 : St → Int → Int → Prop) (Q : Int → St → Prop)  (st : St) (v1x26 : Int) (v2x26 : Int) : Prop :=
  ∀ x8 : Int, x8 = v2x26 + 1 → B4 st v1x26 x8
def f1_liftedSet_l4 (o : Int)  (Q : Int → St → Prop)  : Nat → St → Int → Int → Prop
  | 0, _, _, _ => False
  | n + 1, st, v1x4, v2x4 =>
  inI v2x4 ∧ ((5 ≤ v2x4 → Q v1x4 st) ∧ (¬ 5 ≤ v2x4 → (0 : Int) ≤ v2x4 ∧ v2x4 < 5 ∧ inL (st 13 0 o v2x4) ∧ ((0 ≤ st 13 0 o v2x4 → f1_liftedSet_j26 o (fun st v1x4 v2x4 => f1_liftedSet_l4 o Q n st v1x4 v2x4) Q st v1x4 v2x4) ∧ (¬ 0 ≤ st 13 0 o v2x4 → ∀ x7 : Int, x7 = ior v1x4 (ishl 1 v2x4) → f1_liftedSet_j26 o (fun st v1x4 v2x4 => f1_liftedSet_l4 o Q n st v1x4 v2x4) Q st x7 v2x4))))
def f1_liftedSet (o : Int) (Q : Int → St → Prop) (st : St)  : Prop :=
  ∃ k, f1_liftedSet_l4 o Q k st 0 0
def f1_bearsTooMuch_j48 (o : Int) (a0 : Int) (a1 : Int) (B2 : St → Int → Prop) (Q : Int → St → Prop)  (st : St) (v3x48 : Int) : Prop :=
  ∀ x14 : Int, x14 = v3x48 + 1 → B2 st x14
def f1_bearsTooMuch_l2 (o : Int) (a0 : Int) (a1 : Int)  (Q : Int → St → Prop)  : Nat → St → Int → Prop
  | 0, _, _ => False
  | n + 1, st, v3x2 =>
  inI v3x2 ∧ inI (st 6 2 (4 * a0) 0) ∧ ((st 6 2 (4 * a0) 0 ≤ v3x2 → Q 0 st) ∧ (¬ st 6 2 (4 * a0) 0 ≤ v3x2 → f6_second (4 * a0) (fun z4 st5 => inI z4 ∧ ((z4 = (-1) → f1_bearsTooMuch_j48 o a0 a1 (fun st v3x2 => f1_bearsTooMuch_l2 o a0 a1 Q n st v3x2) Q st5 v3x2) ∧ (¬ z4 = (-1) → f1_reactionOf o (fun z8 st9 => inI z4 ∧ inL z8 ∧ inL ((st9 3 4 a1 0) * z4) ∧ ((z8 ≤ (st9 3 4 a1 0) * z4 → f1_bearsTooMuch_j48 o a0 a1 (fun st v3x2 => f1_bearsTooMuch_l2 o a0 a1 Q n st v3x2) Q st9 v3x2) ∧ (¬ z8 ≤ (st9 3 4 a1 0) * z4 → Q 1 st9))) st5 v3x2))) st v3x2))
def f1_bearsTooMuch (o : Int) (a0 : Int) (a1 : Int) (Q : Int → St → Prop) (st : St)  : Prop :=
  ∃ k, f1_bearsTooMuch_l2 o a0 a1 Q k st 0
def f1_bendsTooMuch_l14 (o : Int) (a0 : Int) (a1 : Int)  (Q : Int → St → Prop) (v3x14 : Int) : Nat → St → Int → Prop
  | 0, _, _ => False
  | n + 1, st, v5x14 =>
  inI v5x14 ∧ inI (st 0 0 a0 0) ∧ ((st 0 0 a0 0 < v5x14 → Q 0 st) ∧ (¬ st 0 0 a0 0 < v5x14 → f1_momentAt o (fun z6 st7 => inL z6 ∧ inL (iabs z6) ∧ inL v3x14 ∧ ((iabs z6 ≤ v3x14 → ∀ x12 : Int, x12 = v5x14 + 1 → f1_bendsTooMuch_l14 o a0 a1 Q v3x14 n st7 x12) ∧ (¬ iabs z6 ≤ v3x14 → Q 1 st7))) st v5x14))
def f1_bendsTooMuch (o : Int) (a0 : Int) (a1 : Int) (Q : Int → St → Prop) (st : St)  : Prop :=
  inI (st 0 1 a0 0) ∧ ∀ x2 : Int, x2 = (st 3 4 a1 0) * (st 0 1 a0 0) → ∃ k, f1_bendsTooMuch_l14 o a0 a1 Q x2 k st 0
def f1_firstReason (o : Int) (a0 : Int) (a1 : Int) (Q : Int → St → Prop) (st : St)  : Prop :=
  f1_liftedSet o (fun z1 st2 => inI z1 ∧ ((z1 = 0 → f1_bearsTooMuch o a0 a1 (fun z5 st6 => inI z5 ∧ ((z5 = 0 → f1_bendsTooMuch o a0 a1 (fun z9 st10 => inI z9 ∧ ((z9 = 0 → Q 0 st10) ∧ (¬ z9 = 0 → Q 3 st10))) st6) ∧ (¬ z5 = 0 → Q 2 st6))) st2) ∧ (¬ z1 = 0 → Q 1 st2))) st
def f2_forgetOldest_l9   (Q : St → Prop) (q1x9 : Int) : Nat → St → Int → Prop
  | 0, _, _ => False
  | n + 1, st, v2x9 =>
  inI v2x9 ∧ ((8 ≤ v2x9 → ∀ st5 : St, st5 = up st 16 0 0 7 q1x9 → ∀ st6 : St, st6 = up st5 2 1 0 0 7 → Q st6) ∧ (¬ 8 ≤ v2x9 → (0 : Int) ≤ v2x9 ∧ v2x9 < 8 ∧ ∀ x9 : Int, x9 = st 16 0 0 v2x9 → (0 ≤ x9 ∧ x9 < 13) ∧ (0 : Int) ≤ v2x9 - 1 ∧ v2x9 - 1 < 8 ∧ ∀ st13 : St, st13 = up st 16 0 0 (v2x9 - 1) x9 → ∀ x14 : Int, x14 = v2x9 + 1 → f2_forgetOldest_l9 Q q1x9 n st13 x14))
def f2_forgetOldest  (Q : St → Prop) (st : St)  : Prop :=
  ∀ x1 : Int, x1 = st 16 0 0 0 → (0 ≤ x1 ∧ x1 < 13) ∧ ∃ k, f2_forgetOldest_l9 Q x1 k st 1
def f2_remember_j13 (a0 : Int)  (Q : St → Prop)  (st : St)  : Prop :=
  (0 : Int) ≤ st 2 1 0 0 ∧ st 2 1 0 0 < 8 ∧ ∀ x7 : Int, x7 = st 16 0 0 (st 2 1 0 0) → (0 ≤ x7 ∧ x7 < 13) ∧ f0_copyFrom x7 a0 (fun st10 => ∀ st11 : St, st11 = up st10 2 1 0 0 ((st10 2 1 0 0) + 1) → Q st11) st
def f2_remember (a0 : Int) (Q : St → Prop) (st : St)  : Prop :=
  inI (st 2 1 0 0) ∧ ((st 2 1 0 0 < 8 → f2_remember_j13 a0 Q st) ∧ (¬ st 2 1 0 0 < 8 → f2_forgetOldest (fun st4 => f2_remember_j13 a0 Q st4) st))
def f2_takeBack (a0 : Int) (Q : Int → St → Prop) (st : St)  : Prop :=
  inI (st 2 1 0 0) ∧ ((st 2 1 0 0 ≤ 0 → Q 0 st) ∧ (¬ st 2 1 0 0 ≤ 0 → inI (st 2 1 0 0) ∧ ((st 2 1 0 0 ≤ 8 → ∀ st5 : St, st5 = up st 2 1 0 0 ((st 2 1 0 0) - 1) → (0 : Int) ≤ st5 2 1 0 0 ∧ st5 2 1 0 0 < 8 ∧ ∀ x8 : Int, x8 = st5 16 0 0 (st5 2 1 0 0) → (0 ≤ x8 ∧ x8 < 13) ∧ f0_copyFrom a0 x8 (fun st11 => Q 1 st11) st5) ∧ (¬ st 2 1 0 0 ≤ 8 → Q 0 st))))
def f3_weighing (a0 : Int) (Q : Int → St → Prop) (st : St) (a1 : Int) (a2 : Int) : Prop :=
  inI a1 ∧ ((a1 = 0 → Q 1 st) ∧ (¬ a1 = 0 → inI a1 ∧ ((a1 = 1 → Q a2 st) ∧ (¬ a1 = 1 → f6_first (4 * a0 + 1) (fun z5 st6 => inI (z5 - a2) ∧ Q (imax 0 (z5 - a2)) st6) st (a1 - 2)))))
def f3_setEquations_j64 (o : Int) (a0 : Int) (B2 : St → Int → Prop) (B12 : St → Int → Prop) (Q : St → Prop) (v2x12 : Int) (st : St) (v3x64 : Int) (s0x64 : Int) (s1x64 : Int) : Prop :=
  (0 : Int) ≤ s1x64 ∧ s1x64 < 10 ∧ ∀ st25 : St, st25 = up st 18 0 (5 * o + v2x12) s1x64 s0x64 → ∀ x26 : Int, x26 = v3x64 + 1 → B12 st25 x26
def f3_setEquations_l12 (o : Int) (a0 : Int) (B2 : St → Int → Prop) (Q : St → Prop) (v2x12 : Int) : Nat → St → Int → Prop
  | 0, _, _ => False
  | n + 1, st, v3x12 =>
  inI v3x12 ∧ inI (st 3 2 o 0) ∧ ((st 3 2 o 0 ≤ v3x12 → ∀ x7 : Int, x7 = v2x12 + 1 → B2 st x7) ∧ (¬ st 3 2 o 0 ≤ v3x12 → (0 : Int) ≤ v2x12 ∧ v2x12 < 5 ∧ f6_first (4 * a0) (fun z10 st11 => f3_weighing a0 (fun z12 st13 => inI z12 ∧ (0 : Int) ≤ v3x12 ∧ v3x12 < 10 ∧ ∀ st17 : St, st17 = up st13 18 0 (5 * o + v2x12) v3x12 z12 → (0 : Int) ≤ v2x12 ∧ v2x12 < 5 ∧ inI v2x12 ∧ inI v3x12 ∧ ((v2x12 = v3x12 → f3_setEquations_j64 o a0 B2 (fun st v3x12 => f3_setEquations_l12 o a0 B2 Q v2x12 n st v3x12) Q v2x12 st17 v3x12 1 ((st17 3 2 o 0) + v3x12)) ∧ (¬ v2x12 = v3x12 → f3_setEquations_j64 o a0 B2 (fun st v3x12 => f3_setEquations_l12 o a0 B2 Q v2x12 n st v3x12) Q v2x12 st17 v3x12 0 ((st17 3 2 o 0) + v3x12)))) st11 v2x12 z10) st v3x12))
def f3_setEquations_l2 (o : Int) (a0 : Int)  (Q : St → Prop)  : Nat → St → Int → Prop
  | 0, _, _ => False
  | n + 1, st, v2x2 =>
  inI v2x2 ∧ inI (st 3 2 o 0) ∧ ((st 3 2 o 0 ≤ v2x2 → Q st) ∧ (¬ st 3 2 o 0 ≤ v2x2 → ∃ k, f3_setEquations_l12 o a0 (fun st v2x2 => f3_setEquations_l2 o a0 Q n st v2x2) Q v2x2 k st 0))
def f3_setEquations (o : Int) (a0 : Int) (Q : St → Prop) (st : St)  : Prop :=
  ∃ k, f3_setEquations_l2 o a0 Q k st 0
def f3_pivotRow_l2 (o : Int)  (Q : Int → St → Prop) (a0 : Int) : Nat → St → Int → Prop
  | 0, _, _ => False
  | n + 1, st, v2x2 =>
  inI v2x2 ∧ inI (st 3 2 o 0) ∧ ((st 3 2 o 0 ≤ v2x2 → Q (-1) st) ∧ (¬ st 3 2 o 0 ≤ v2x2 → (0 : Int) ≤ v2x2 ∧ v2x2 < 5 ∧ (0 : Int) ≤ a0 ∧ a0 < 10 ∧ inL (st 18 0 (5 * o + v2x2) a0) ∧ ((st 18 0 (5 * o + v2x2) a0 = 0 → ∀ x10 : Int, x10 = v2x2 + 1 → f3_pivotRow_l2 o Q a0 n st x10) ∧ (¬ st 18 0 (5 * o + v2x2) a0 = 0 → Q v2x2 st))))
def f3_pivotRow (o : Int) (Q : Int → St → Prop) (st : St) (a0 : Int) : Prop :=
  ∃ k, f3_pivotRow_l2 o Q a0 k st a0
def f3_swapRows_l2 (o : Int)  (Q : St → Prop) (a0 : Int) (a1 : Int) : Nat → St → Int → Prop
  | 0, _, _ => False
  | n + 1, st, v3x2 =>
  inI v3x2 ∧ inI (2 * (st 3 2 o 0)) ∧ ((2 * (st 3 2 o 0) ≤ v3x2 → Q st) ∧ (¬ 2 * (st 3 2 o 0) ≤ v3x2 → (0 : Int) ≤ a0 ∧ a0 < 5 ∧ (0 : Int) ≤ v3x2 ∧ v3x2 < 10 ∧ ∀ x8 : Int, x8 = st 18 0 (5 * o + a0) v3x2 → (0 : Int) ≤ a0 ∧ a0 < 5 ∧ (0 : Int) ≤ a1 ∧ a1 < 5 ∧ (0 : Int) ≤ v3x2 ∧ v3x2 < 10 ∧ (0 : Int) ≤ v3x2 ∧ v3x2 < 10 ∧ ∀ st17 : St, st17 = up st 18 0 (5 * o + a0) v3x2 (st 18 0 (5 * o + a1) v3x2) → (0 : Int) ≤ a1 ∧ a1 < 5 ∧ (0 : Int) ≤ v3x2 ∧ v3x2 < 10 ∧ ∀ st22 : St, st22 = up st17 18 0 (5 * o + a1) v3x2 x8 → ∀ x23 : Int, x23 = v3x2 + 1 → f3_swapRows_l2 o Q a0 a1 n st22 x23))
def f3_swapRows (o : Int) (Q : St → Prop) (st : St) (a0 : Int) (a1 : Int) : Prop :=
  ∃ k, f3_swapRows_l2 o Q a0 a1 k st 0
def f3_clearColumn_j107 (o : Int) (B20 : St → Int → Prop) (Q : St → Prop) (a0 : Int) (a1 : Int) (v4x20 : Int) (st : St) (v6x107 : Int) : Prop :=
  ∀ x39 : Int, x39 = v6x107 + 1 → B20 st x39
def f3_clearColumn_l52 (o : Int) (B20 : St → Int → Prop) (Q : St → Prop) (a0 : Int) (a1 : Int) (v4x20 : Int) (v6x52 : Int) (v7x52 : Int) : Nat → St → Int → Prop
  | 0, _, _ => False
  | n + 1, st, v9x52 =>
  inI v9x52 ∧ inI (2 * (st 3 2 o 0)) ∧ ((2 * (st 3 2 o 0) ≤ v9x52 → f3_clearColumn_j107 o B20 Q a0 a1 v4x20 st v6x52) ∧ (¬ 2 * (st 3 2 o 0) ≤ v9x52 → (0 : Int) ≤ v6x52 ∧ v6x52 < 5 ∧ (0 : Int) ≤ v6x52 ∧ v6x52 < 5 ∧ (0 : Int) ≤ v9x52 ∧ v9x52 < 10 ∧ (0 : Int) ≤ a0 ∧ a0 < 5 ∧ (0 : Int) ≤ v9x52 ∧ v9x52 < 10 ∧ inL ((v4x20 * (st 18 0 (5 * o + v6x52) v9x52)) - (v7x52 * (st 18 0 (5 * o + a0) v9x52))) ∧ inL a1 ∧ ¬ a1 = 0 ∧ (0 : Int) ≤ v9x52 ∧ v9x52 < 10 ∧ ∀ st37 : St, st37 = up st 18 0 (5 * o + v6x52) v9x52 (Int.tdiv ((v4x20 * (st 18 0 (5 * o + v6x52) v9x52)) - (v7x52 * (st 18 0 (5 * o + a0) v9x52))) a1) → ∀ x38 : Int, x38 = v9x52 + 1 → f3_clearColumn_l52 o B20 Q a0 a1 v4x20 v6x52 v7x52 n st37 x38))
def f3_clearColumn_l20 (o : Int)  (Q : St → Prop) (a0 : Int) (a1 : Int) (v4x20 : Int) : Nat → St → Int → Prop
  | 0, _, _ => False
  | n + 1, st, v6x20 =>
  inI v6x20 ∧ inI (st 3 2 o 0) ∧ ((st 3 2 o 0 ≤ v6x20 → Q st) ∧ (¬ st 3 2 o 0 ≤ v6x20 → inI v6x20 ∧ inI a0 ∧ ((v6x20 = a0 → f3_clearColumn_j107 o (fun st v6x20 => f3_clearColumn_l20 o Q a0 a1 v4x20 n st v6x20) Q a0 a1 v4x20 st v6x20) ∧ (¬ v6x20 = a0 → (0 : Int) ≤ v6x20 ∧ v6x20 < 5 ∧ (0 : Int) ≤ a0 ∧ a0 < 10 ∧ ∀ x18 : Int, x18 = st 18 0 (5 * o + v6x20) a0 → ∃ k, f3_clearColumn_l52 o (fun st v6x20 => f3_clearColumn_l20 o Q a0 a1 v4x20 n st v6x20) Q a0 a1 v4x20 v6x20 x18 k st 0))))
def f3_clearColumn (o : Int) (Q : St → Prop) (st : St) (a0 : Int) (a1 : Int) : Prop :=
  inL a1 ∧ ((a1 = 0 → Q st) ∧ (¬ a1 = 0 → (0 : Int) ≤ a0 ∧ a0 < 5 ∧ (0 : Int) ≤ a0 ∧ a0 < 10 ∧ ∀ x7 : Int, x7 = st 18 0 (5 * o + a0) a0 → ∃ k, f3_clearColumn_l20 o Q a0 a1 x7 k st 0))
def f3_invert_l4 (o : Int)  (Q : Int → St → Prop)  : Nat → St → Int → Int → Prop
  | 0, _, _, _ => False
  | n + 1, st, v1x4, v3x4 =>
  inI v3x4 ∧ inI (st 3 2 o 0) ∧ ((st 3 2 o 0 ≤ v3x4 → Q v1x4 st) ∧ (¬ st 3 2 o 0 ≤ v3x4 → f3_pivotRow o (fun z4 st5 => inI z4 ∧ ((z4 = (-1) → Q 0 st5) ∧ (¬ z4 = (-1) → f3_swapRows o (fun st9 => f3_clearColumn o (fun st11 => (0 : Int) ≤ v3x4 ∧ v3x4 < 5 ∧ (0 : Int) ≤ v3x4 ∧ v3x4 < 10 ∧ ∀ x16 : Int, x16 = st11 18 0 (5 * o + v3x4) v3x4 → ∀ x17 : Int, x17 = v3x4 + 1 → f3_invert_l4 o Q n st11 x16 x17) st9 v3x4 v1x4) st5 v3x4 z4))) st v3x4))
def f3_invert (o : Int) (Q : Int → St → Prop) (st : St)  : Prop :=
  ∃ k, f3_invert_l4 o Q k st 1 0
def f3_setLines_l26 (o : Int) (a0 : Int) (B2 : St → Int → Prop) (B12 : St → Int → Prop) (Q : St → Prop) (v2x12 : Int) (v3x26 : Int) : Nat → St → Int → Int → Prop
  | 0, _, _, _ => False
  | n + 1, st, v4x26, v6x26 =>
  inI v6x26 ∧ inI (st 3 2 o 0) ∧ ((st 3 2 o 0 ≤ v6x26 → (0 : Int) ≤ v3x26 ∧ v3x26 < 5 ∧ (0 : Int) ≤ v2x12 ∧ v2x12 < 31 ∧ ∀ st15 : St, st15 = up st 20 0 (5 * o + v3x26) v2x12 v4x26 → ∀ x16 : Int, x16 = v3x26 + 1 → B12 st15 x16) ∧ (¬ st 3 2 o 0 ≤ v6x26 → (0 : Int) ≤ v3x26 ∧ v3x26 < 5 ∧ (0 : Int) ≤ (st 3 2 o 0) + v6x26 ∧ (st 3 2 o 0) + v6x26 < 10 ∧ f3_weighing a0 (fun z21 st22 => inI z21 ∧ ∀ x24 : Int, x24 = v4x26 + ((st 18 0 (5 * o + v3x26) ((st 3 2 o 0) + v6x26)) * z21) → ∀ x25 : Int, x25 = v6x26 + 1 → f3_setLines_l26 o a0 B2 B12 Q v2x12 v3x26 n st22 x24 x25) st v6x26 v2x12))
def f3_setLines_l12 (o : Int) (a0 : Int) (B2 : St → Int → Prop) (Q : St → Prop) (v2x12 : Int) : Nat → St → Int → Prop
  | 0, _, _ => False
  | n + 1, st, v3x12 =>
  inI v3x12 ∧ inI (st 3 2 o 0) ∧ ((st 3 2 o 0 ≤ v3x12 → ∀ x7 : Int, x7 = v2x12 + 1 → B2 st x7) ∧ (¬ st 3 2 o 0 ≤ v3x12 → ∃ k, f3_setLines_l26 o a0 B2 (fun st v3x12 => f3_setLines_l12 o a0 B2 Q v2x12 n st v3x12) Q v2x12 v3x12 k st 0 0))
def f3_setLines_l2 (o : Int) (a0 : Int)  (Q : St → Prop)  : Nat → St → Int → Prop
  | 0, _, _ => False
  | n + 1, st, v2x2 =>
  inI v2x2 ∧ inI (st 3 3 o 0) ∧ ((st 3 3 o 0 ≤ v2x2 → Q st) ∧ (¬ st 3 3 o 0 ≤ v2x2 → ∃ k, f3_setLines_l12 o a0 (fun st v2x2 => f3_setLines_l2 o a0 Q n st v2x2) Q v2x2 k st 0))
def f3_setLines (o : Int) (a0 : Int) (Q : St → Prop) (st : St)  : Prop :=
  ∃ k, f3_setLines_l2 o a0 Q k st 0
def f3_commonDivisor_l3   (Q : Int → St → Prop)  : Nat → St → Int → Int → Int → Prop
  | 0, _, _, _, _ => False
  | n + 1, st, v0x3, v2x3, v4x3 =>
  inI v4x3 ∧ ((100 ≤ v4x3 → Q v0x3 st) ∧ (¬ 100 ≤ v4x3 → inL v2x3 ∧ ((v2x3 = 0 → Q v0x3 st) ∧ (¬ v2x3 = 0 → inL v0x3 ∧ inL v2x3 ∧ ¬ v2x3 = 0 ∧ ∀ x8 : Int, x8 = Int.tmod v0x3 v2x3 → ∀ x9 : Int, x9 = v4x3 + 1 → f3_commonDivisor_l3 Q n st v2x3 x8 x9))))
def f3_commonDivisor  (Q : Int → St → Prop) (st : St) (a0 : Int) (a1 : Int) : Prop :=
  ∃ k, f3_commonDivisor_l3 Q k st a0 a1 0
def f3_shorten_l105 (o : Int) (B93 : St → Int → Prop) (Q : St → Prop) (v5x93 : Int) (v7x105 : Int) : Nat → St → Int → Prop
  | 0, _, _ => False
  | n + 1, st, v8x105 =>
  inI v8x105 ∧ inI (st 3 3 o 0) ∧ ((st 3 3 o 0 ≤ v8x105 → ∀ x33 : Int, x33 = v7x105 + 1 → B93 st x33) ∧ (¬ st 3 3 o 0 ≤ v8x105 → (0 : Int) ≤ v7x105 ∧ v7x105 < 5 ∧ (0 : Int) ≤ v8x105 ∧ v8x105 < 31 ∧ inL (st 20 0 (5 * o + v7x105) v8x105) ∧ inL v5x93 ∧ ¬ v5x93 = 0 ∧ (0 : Int) ≤ v8x105 ∧ v8x105 < 31 ∧ ∀ st43 : St, st43 = up st 20 0 (5 * o + v7x105) v8x105 (Int.tdiv (st 20 0 (5 * o + v7x105) v8x105) v5x93) → ∀ x44 : Int, x44 = v8x105 + 1 → f3_shorten_l105 o B93 Q v5x93 v7x105 n st43 x44))
def f3_shorten_l93 (o : Int)  (Q : St → Prop) (v5x93 : Int) : Nat → St → Int → Prop
  | 0, _, _ => False
  | n + 1, st, v7x93 =>
  inI v7x93 ∧ inI (st 3 2 o 0) ∧ ((st 3 2 o 0 ≤ v7x93 → Q st) ∧ (¬ st 3 2 o 0 ≤ v7x93 → ∃ k, f3_shorten_l105 o (fun st v7x93 => f3_shorten_l93 o Q v5x93 n st v7x93) Q v5x93 v7x93 k st 0))
def f3_shorten_j88 (o : Int)  (Q : St → Prop)  (st : St) (s0x88 : Int) : Prop :=
  ∃ k, f3_shorten_l93 o Q s0x88 k st 0
def f3_shorten_l20 (o : Int) (B8 : St → Int → Int → Prop) (Q : St → Prop) (a0 : Int) (v5x20 : Int) : Nat → St → Int → Int → Prop
  | 0, _, _, _ => False
  | n + 1, st, v3x20, v6x20 =>
  inI v6x20 ∧ inI (st 3 3 o 0) ∧ ((st 3 3 o 0 ≤ v6x20 → ∀ x18 : Int, x18 = v5x20 + 1 → B8 st v3x20 x18) ∧ (¬ st 3 3 o 0 ≤ v6x20 → (0 : Int) ≤ v5x20 ∧ v5x20 < 5 ∧ (0 : Int) ≤ v6x20 ∧ v6x20 < 31 ∧ inL (st 20 0 (5 * o + v5x20) v6x20) ∧ f3_commonDivisor (fun z24 st25 => ∀ x26 : Int, x26 = v6x20 + 1 → f3_shorten_l20 o B8 Q a0 v5x20 n st25 z24 x26) st v3x20 (iabs (st 20 0 (5 * o + v5x20) v6x20))))
def f3_shorten_l8 (o : Int)  (Q : St → Prop) (a0 : Int) : Nat → St → Int → Int → Prop
  | 0, _, _, _ => False
  | n + 1, st, v3x8, v5x8 =>
  inI v5x8 ∧ inI (st 3 2 o 0) ∧ ((st 3 2 o 0 ≤ v5x8 → inL v3x8 ∧ ((v3x8 = 0 → Q st) ∧ (¬ v3x8 = 0 → inL a0 ∧ inL (iabs a0) ∧ inL v3x8 ∧ ¬ v3x8 = 0 ∧ ∀ st12 : St, st12 = up st 3 4 o 0 (Int.tdiv (iabs a0) v3x8) → inL a0 ∧ ((0 ≤ a0 → f3_shorten_j88 o Q st12 v3x8) ∧ (¬ 0 ≤ a0 → f3_shorten_j88 o Q st12 (-v3x8)))))) ∧ (¬ st 3 2 o 0 ≤ v5x8 → ∃ k, f3_shorten_l20 o (fun st v3x8 v5x8 => f3_shorten_l8 o Q a0 n st v3x8 v5x8) Q a0 v5x8 k st v3x8 0))
def f3_shorten (o : Int) (Q : St → Prop) (st : St) (a0 : Int) : Prop :=
  inL a0 ∧ ∀ x2 : Int, x2 = iabs a0 → ∃ k, f3_shorten_l8 o Q a0 k st x2 0
def f3_reckon (o : Int) (a0 : Int) (Q : Int → St → Prop) (st : St)  : Prop :=
  inI (st 6 2 (4 * a0) 0) ∧ ∀ st2 : St, st2 = up st 3 2 o 0 (imin (st 6 2 (4 * a0) 0) 5) → inI ((st2 0 0 a0 0) + 1) ∧ ∀ st4 : St, st4 = up st2 3 3 o 0 (imin ((st2 0 0 a0 0) + 1) 31) → f3_setEquations o a0 (fun st6 => f3_invert o (fun z7 st8 => inL z7 ∧ ((z7 = 0 → Q 0 st8) ∧ (¬ z7 = 0 → f3_setLines o a0 (fun st12 => f3_shorten o (fun st14 => Q 1 st14) st12 z7) st8))) st6) st4
def f4_look_j26   (Q : St → Prop) (a0 : Int) (a1 : Int) (st : St)  : Prop :=
  ∀ st10 : St, st10 = up st 4 0 0 0 a0 → ∀ st11 : St, st11 = up st10 4 1 0 0 a1 → Q st11
def f4_look  (Q : St → Prop) (st : St) (a0 : Int) (a1 : Int) : Prop :=
  inL a0 ∧ inL (st 4 0 0 0) ∧ ((st 4 0 0 0 < a0 → f4_look_j26 Q a0 a1 st) ∧ (¬ st 4 0 0 0 < a0 → inL a0 ∧ inL (st 4 0 0 0) ∧ ((a0 = st 4 0 0 0 → inI a1 ∧ inI (st 4 1 0 0) ∧ ((st 4 1 0 0 ≤ a1 → Q st) ∧ (¬ st 4 1 0 0 ≤ a1 → f4_look_j26 Q a0 a1 st))) ∧ (¬ a0 = st 4 0 0 0 → Q st))))
def f4_find_l37 (a0 : Int) (a1 : Int) (a2 : Int) (B19 : St → Int → Prop) (Q : St → Prop) (v4x19 : Int) (v5x37 : Int) : Nat → St → Int → Prop
  | 0, _, _ => False
  | n + 1, st, v6x37 =>
  inI v6x37 ∧ inI (st 0 0 a0 0) ∧ ((st 0 0 a0 0 < v6x37 → ∀ x13 : Int, x13 = v5x37 + 1 → B19 st x13) ∧ (¬ st 0 0 a0 0 < v6x37 → f1_momentAt a2 (fun z14 st15 => inL z14 ∧ f4_look (fun st18 => ∀ x19 : Int, x19 = v6x37 + 1 → f4_find_l37 a0 a1 a2 B19 Q v4x19 v5x37 n st18 x19) st15 (iabs z14) v6x37) st v6x37))
def f4_find_l19 (a0 : Int) (a1 : Int) (a2 : Int)  (Q : St → Prop) (v4x19 : Int) : Nat → St → Int → Prop
  | 0, _, _ => False
  | n + 1, st, v5x19 =>
  inI v5x19 ∧ inI v4x19 ∧ ((v4x19 < v5x19 → Q st) ∧ (¬ v4x19 < v5x19 → f1_underAll a2 a0 a1 (fun st9 => ∃ k, f4_find_l37 a0 a1 a2 (fun st v5x19 => f4_find_l19 a0 a1 a2 Q v4x19 n st v5x19) Q v4x19 v5x19 k st9 0) st v5x19))
def f4_find (a0 : Int) (a1 : Int) (a2 : Int) (Q : St → Prop) (st : St)  : Prop :=
  ∀ st1 : St, st1 = up st 4 0 0 0 0 → ∀ st2 : St, st2 = up st1 4 1 0 0 0 → f0_lastHead a0 (fun z3 st4 => ∃ k, f4_find_l19 a0 a1 a2 Q z3 k st4 0) st2
def f7_byteAt  (Q : Int → St → Prop) (st : St) (a0 : Int) : Prop :=
  inI a0 ∧ ((a0 < 0 → Q 0 st) ∧ (¬ a0 < 0 → inI a0 ∧ inI (st 7 1 0 0) ∧ ((st 7 1 0 0 ≤ a0 → Q 0 st) ∧ (¬ st 7 1 0 0 ≤ a0 → inI a0 ∧ ((500 ≤ a0 → Q 0 st) ∧ (¬ 500 ≤ a0 → (0 : Int) ≤ a0 ∧ a0 < 500 ∧ Q (st 21 0 0 a0) st))))))
def f7_kindOfByte_j28   (Q : Int → St → Prop) (a0 : Int) (st : St)  : Prop :=
  inI a0 ∧ ((a0 = 32 → Q 5 st) ∧ (¬ a0 = 32 → inI a0 ∧ ((a0 = 59 → Q 3 st) ∧ (¬ a0 = 59 → Q 4 st))))
def f7_kindOfByte_j14   (Q : Int → St → Prop) (a0 : Int) (st : St)  : Prop :=
  inI a0 ∧ ((a0 < 48 → f7_kindOfByte_j28 Q a0 st) ∧ (¬ a0 < 48 → inI a0 ∧ ((57 < a0 → f7_kindOfByte_j28 Q a0 st) ∧ (¬ 57 < a0 → Q 2 st))))
def f7_kindOfByte  (Q : Int → St → Prop) (st : St) (a0 : Int) : Prop :=
  inI a0 ∧ ((a0 < 97 → f7_kindOfByte_j14 Q a0 st) ∧ (¬ a0 < 97 → inI a0 ∧ ((122 < a0 → f7_kindOfByte_j14 Q a0 st) ∧ (¬ 122 < a0 → Q 1 st))))
def f7_startToken  (Q : St → Prop) (st : St) (a0 : Int) (a1 : Int) : Prop :=
  inI (st 7 6 0 0) ∧ ((500 ≤ st 7 6 0 0 → Q st) ∧ (¬ 500 ≤ st 7 6 0 0 → (0 : Int) ≤ st 7 6 0 0 ∧ st 7 6 0 0 < 500 ∧ ∀ st5 : St, st5 = up st 22 0 0 (st 7 6 0 0) a0 → (0 : Int) ≤ st5 7 6 0 0 ∧ st5 7 6 0 0 < 500 ∧ ∀ st8 : St, st8 = up st5 23 0 0 (st5 7 6 0 0) a1 → (0 : Int) ≤ st8 7 6 0 0 ∧ st8 7 6 0 0 < 500 ∧ ∀ st11 : St, st11 = up st8 25 0 0 (st8 7 6 0 0) 0 → ∀ st12 : St, st12 = up st11 7 6 0 0 ((st11 7 6 0 0) + 1) → Q st12))
def f7_hasToken  (Q : Int → St → Prop) (st : St) (a0 : Int) : Prop :=
  inI a0 ∧ ((a0 < 0 → Q 0 st) ∧ (¬ a0 < 0 → inI a0 ∧ inI (st 7 6 0 0) ∧ ((st 7 6 0 0 ≤ a0 → Q 0 st) ∧ (¬ st 7 6 0 0 ≤ a0 → inI a0 ∧ ((500 ≤ a0 → Q 0 st) ∧ (¬ 500 ≤ a0 → Q 1 st))))))
def f7_lengthenToken  (Q : St → Prop) (st : St) (a0 : Int) : Prop :=
  ∀ x1 : Int, x1 = (st 7 6 0 0) - 1 → f7_hasToken (fun z2 st3 => inI z2 ∧ ((z2 = 0 → Q st3) ∧ (¬ z2 = 0 → (0 : Int) ≤ x1 ∧ x1 < 500 ∧ ∀ st8 : St, st8 = up st3 24 0 0 x1 (a0 + 1) → (0 : Int) ≤ x1 ∧ x1 < 500 ∧ inI (st8 22 0 0 x1) ∧ ((st8 22 0 0 x1 = 2 → (0 : Int) ≤ x1 ∧ x1 < 500 ∧ f7_byteAt (fun z15 st16 => inI ((((st8 25 0 0 x1) * 10) + z15) - 48) ∧ (0 : Int) ≤ x1 ∧ x1 < 500 ∧ ∀ st20 : St, st20 = up st16 25 0 0 x1 (imin ((((st8 25 0 0 x1) * 10) + z15) - 48) 10000000) → Q st20) st8 a0) ∧ (¬ st8 22 0 0 x1 = 2 → Q st8))))) st x1
def f7_split_j74  (B9 : St → Int → Int → Prop) (Q : St → Prop)  (st : St) (v2x74 : Int) (v3x74 : Int) : Prop :=
  ∀ x26 : Int, x26 = v2x74 + 1 → B9 st v3x74 x26
def f7_split_j64  (B9 : St → Int → Int → Prop) (Q : St → Prop)  (st : St) (v2x64 : Int) (v3x64 : Int) : Prop :=
  inI v3x64 ∧ ((v3x64 = 5 → f7_split_j74 B9 Q st v2x64 v3x64) ∧ (¬ v3x64 = 5 → f7_lengthenToken (fun st25 => f7_split_j74 B9 Q st25 v2x64 v3x64) st v2x64))
def f7_split_j46  (B9 : St → Int → Int → Prop) (Q : St → Prop)  (st : St) (v2x46 : Int) (v3x46 : Int) (s0x46 : Int) : Prop :=
  inI s0x46 ∧ ((s0x46 = 0 → inI v3x46 ∧ ((v3x46 = 5 → f7_split_j64 B9 Q st v2x46 v3x46) ∧ (¬ v3x46 = 5 → f7_startToken (fun st21 => f7_split_j64 B9 Q st21 v2x46 v3x46) st v3x46 v2x46))) ∧ (¬ s0x46 = 0 → f7_split_j64 B9 Q st v2x46 v3x46))
def f7_split_j45  (B9 : St → Int → Int → Prop) (Q : St → Prop)  (st : St) (v2x45 : Int) (v3x45 : Int) : Prop :=
  f7_split_j46 B9 Q st v2x45 v3x45 0
def f7_split_j41  (B9 : St → Int → Int → Prop) (Q : St → Prop)  (st : St) (v2x41 : Int) (v3x41 : Int) : Prop :=
  f7_split_j46 B9 Q st v2x41 v3x41 1
def f7_split_l9   (Q : St → Prop)  : Nat → St → Int → Int → Prop
  | 0, _, _, _ => False
  | n + 1, st, v1x9, v2x9 =>
  inI v2x9 ∧ inI (st 7 1 0 0) ∧ ((st 7 1 0 0 ≤ v2x9 → Q st) ∧ (¬ st 7 1 0 0 ≤ v2x9 → f7_byteAt (fun z5 st6 => f7_kindOfByte (fun z7 st8 => inI z7 ∧ inI v1x9 ∧ ((z7 = v1x9 → inI z7 ∧ ((z7 = 1 → f7_split_j41 (fun st v1x9 v2x9 => f7_split_l9 Q n st v1x9 v2x9) Q st8 v2x9 z7) ∧ (¬ z7 = 1 → inI z7 ∧ ((z7 = 2 → f7_split_j41 (fun st v1x9 v2x9 => f7_split_l9 Q n st v1x9 v2x9) Q st8 v2x9 z7) ∧ (¬ z7 = 2 → f7_split_j45 (fun st v1x9 v2x9 => f7_split_l9 Q n st v1x9 v2x9) Q st8 v2x9 z7))))) ∧ (¬ z7 = v1x9 → f7_split_j45 (fun st v1x9 v2x9 => f7_split_l9 Q n st v1x9 v2x9) Q st8 v2x9 z7))) st6 z5) st v2x9))
def f7_split  (Q : St → Prop) (st : St)  : Prop :=
  ∀ st1 : St, st1 = up st 7 6 0 0 0 → ∃ k, f7_split_l9 Q k st1 5 0
def f7_isWord_l42 (a1 : Nat)  (Q : Int → St → Prop) (a0 : Int) : Nat → St → Int → Prop
  | 0, _, _ => False
  | n + 1, st, v3x42 =>
  inI v3x42 ∧ inI (wlen a1) ∧ ((wlen a1 ≤ v3x42 → Q 1 st) ∧ (¬ wlen a1 ≤ v3x42 → (0 : Int) ≤ a0 ∧ a0 < 500 ∧ f7_byteAt (fun z21 st22 => 0 ≤ v3x42 ∧ v3x42 < wlen a1 ∧ inI z21 ∧ inI (wch a1 v3x42) ∧ ((z21 = wch a1 v3x42 → ∀ x28 : Int, x28 = v3x42 + 1 → f7_isWord_l42 a1 Q a0 n st22 x28) ∧ (¬ z21 = wch a1 v3x42 → Q 0 st22))) st ((st 23 0 0 a0) + v3x42)))
def f7_isWord (a1 : Nat) (Q : Int → St → Prop) (st : St) (a0 : Int) : Prop :=
  f7_hasToken (fun z1 st2 => inI z1 ∧ ((z1 = 0 → Q 0 st2) ∧ (¬ z1 = 0 → (0 : Int) ≤ a0 ∧ a0 < 500 ∧ inI (st2 22 0 0 a0) ∧ ((st2 22 0 0 a0 = 1 → (0 : Int) ≤ a0 ∧ a0 < 500 ∧ (0 : Int) ≤ a0 ∧ a0 < 500 ∧ inI ((st2 24 0 0 a0) - (st2 23 0 0 a0)) ∧ inI (wlen a1) ∧ (((st2 24 0 0 a0) - (st2 23 0 0 a0) = wlen a1 → ∃ k, f7_isWord_l42 a1 Q a0 k st2 0) ∧ (¬ (st2 24 0 0 a0) - (st2 23 0 0 a0) = wlen a1 → Q 0 st2))) ∧ (¬ st2 22 0 0 a0 = 1 → Q 0 st2))))) st a0
def f7_startOf  (Q : Int → St → Prop) (st : St) (a0 : Int) : Prop :=
  inI a0 ∧ ((a0 < 0 → Q (st 7 1 0 0) st) ∧ (¬ a0 < 0 → inI a0 ∧ inI (st 7 6 0 0) ∧ ((st 7 6 0 0 ≤ a0 → Q (st 7 1 0 0) st) ∧ (¬ st 7 6 0 0 ≤ a0 → inI a0 ∧ ((500 ≤ a0 → Q (st 7 1 0 0) st) ∧ (¬ 500 ≤ a0 → (0 : Int) ≤ a0 ∧ a0 < 500 ∧ Q (st 23 0 0 a0) st))))))
def f5_fail  (Q : Int → St → Prop) (st : St) (a0 : Int) (a1 : Int) : Prop :=
  ∀ st1 : St, st1 = up st 5 3 0 0 a0 → ∀ st2 : St, st2 = up st1 5 4 0 0 a1 → Q 0 st2
def f5_takeWord (a0 : Nat) (Q : Int → St → Prop) (st : St)  : Prop :=
  f7_isWord a0 (fun z1 st2 => inI z1 ∧ ((z1 = 0 → f7_startOf (fun z6 st7 => f5_fail (fun z8 st9 => (z8 = 0 ∨ z8 = 1) ∧ Q z8 st9) st7 (-2) z6) st2 (st2 5 2 0 0)) ∧ (¬ z1 = 0 → ∀ st5 : St, st5 = up st2 5 2 0 0 ((st2 5 2 0 0) + 1) → Q 1 st5))) st (st 5 2 0 0)
def f7_kindOf  (Q : Int → St → Prop) (st : St) (a0 : Int) : Prop :=
  inI a0 ∧ ((a0 < 0 → Q 0 st) ∧ (¬ a0 < 0 → inI a0 ∧ inI (st 7 6 0 0) ∧ ((st 7 6 0 0 ≤ a0 → Q 0 st) ∧ (¬ st 7 6 0 0 ≤ a0 → inI a0 ∧ ((500 ≤ a0 → Q 0 st) ∧ (¬ 500 ≤ a0 → (0 : Int) ≤ a0 ∧ a0 < 500 ∧ Q (st 22 0 0 a0) st))))))
def f7_valueOf  (Q : Int → St → Prop) (st : St) (a0 : Int) : Prop :=
  inI a0 ∧ ((a0 < 0 → Q 0 st) ∧ (¬ a0 < 0 → inI a0 ∧ inI (st 7 6 0 0) ∧ ((st 7 6 0 0 ≤ a0 → Q 0 st) ∧ (¬ st 7 6 0 0 ≤ a0 → inI a0 ∧ ((500 ≤ a0 → Q 0 st) ∧ (¬ 500 ≤ a0 → (0 : Int) ≤ a0 ∧ a0 < 500 ∧ Q (st 25 0 0 a0) st))))))
def f5_takeNumber_j57   (Q : Int → St → Prop)  (st : St)  : Prop :=
  f7_startOf (fun z18 st19 => f5_fail (fun z20 st21 => Q (-1) st21) st19 (-3) z18) st (st 5 2 0 0)
def f5_takeNumber  (Q : Int → St → Prop) (st : St) (a0 : Int) (a1 : Int) : Prop :=
  f7_kindOf (fun z1 st2 => inI z1 ∧ ((z1 = 2 → f7_valueOf (fun z5 st6 => inI z5 ∧ inI a0 ∧ ((z5 < a0 → f5_takeNumber_j57 Q st6) ∧ (¬ z5 < a0 → inI z5 ∧ inI a1 ∧ ((z5 ≤ a1 → ∀ st13 : St, st13 = up st6 5 2 0 0 ((st6 5 2 0 0) + 1) → Q z5 st13) ∧ (¬ z5 ≤ a1 → f5_takeNumber_j57 Q st6))))) st2 (st2 5 2 0 0)) ∧ (¬ z1 = 2 → f7_startOf (fun z14 st15 => f5_fail (fun z16 st17 => Q (-1) st17) st15 (-2) z14) st2 (st2 5 2 0 0)))) st (st 5 2 0 0)
def f5_takeSemicolon  (Q : Int → St → Prop) (st : St)  : Prop :=
  f7_kindOf (fun z1 st2 => inI z1 ∧ ((z1 = 3 → ∀ st5 : St, st5 = up st2 5 2 0 0 ((st2 5 2 0 0) + 1) → Q 1 st5) ∧ (¬ z1 = 3 → f7_startOf (fun z6 st7 => f5_fail (fun z8 st9 => (z8 = 0 ∨ z8 = 1) ∧ Q z8 st9) st7 (-2) z6) st2 (st2 5 2 0 0)))) st (st 5 2 0 0)
def f5_readHead  (Q : Int → St → Prop) (st : St)  : Prop :=
  f5_takeWord 0 (fun z1 st2 => inI z1 ∧ ((z1 = 0 → Q 0 st2) ∧ (¬ z1 = 0 → f5_takeNumber (fun z5 st6 => inI z5 ∧ ((z5 = (-1) → Q 0 st6) ∧ (¬ z5 = (-1) → f5_takeWord 1 (fun z9 st10 => inI z9 ∧ ((z9 = 0 → Q 0 st10) ∧ (¬ z9 = 0 → f5_takeNumber (fun z13 st14 => inI z13 ∧ ((z13 = (-1) → Q 0 st14) ∧ (¬ z13 = (-1) → ∀ st17 : St, st17 = up st14 0 0 2 0 z5 → ∀ st18 : St, st18 = up st17 0 1 2 0 z13 → f5_takeSemicolon (fun z19 st20 => (z19 = 0 ∨ z19 = 1) ∧ Q z19 st20) st18))) st10 1 999999))) st6))) st2 2 30))) st
def f6_isFull (o : Int) (Q : Int → St → Prop) (st : St)  : Prop :=
  inI (st 6 2 o 0) ∧ inI (rcap o) ∧ ((rcap o ≤ st 6 2 o 0 → Q 1 st) ∧ (¬ rcap o ≤ st 6 2 o 0 → inI (st 6 2 o 0) ∧ inI (rcap o) ∧ ((st 6 2 o 0 < rcap o → Q 0 st) ∧ (¬ st 6 2 o 0 < rcap o → Q 1 st))))
def f5_takeNameFor (a0 : Int) (Q : Int → St → Prop) (st : St)  : Prop :=
  f6_isFull a0 (fun z1 st2 => inI z1 ∧ ((z1 = 0 → ∀ st5 : St, st5 = up st2 5 2 0 0 ((st2 5 2 0 0) + 1) → Q 1 st5) ∧ (¬ z1 = 0 → f7_startOf (fun z6 st7 => f5_fail (fun z8 st9 => (z8 = 0 ∨ z8 = 1) ∧ Q z8 st9) st7 (-5) z6) st2 (st2 5 2 0 0)))) st
def f5_takeFreePlace  (Q : Int → St → Prop) (st : St) (a0 : Int) (a1 : Int) : Prop :=
  f7_startOf (fun z1 st2 => f5_takeNumber (fun z3 st4 => inI z3 ∧ ((z3 = (-1) → Q z3 st4) ∧ (¬ z3 = (-1) → f0_isTaken 2 (fun z7 st8 => inI z7 ∧ ((z7 = 0 → Q z3 st8) ∧ (¬ z7 = 0 → f5_fail (fun z11 st12 => Q (-1) st12) st8 (-4) z1))) st4 z3))) st2 a0 a1) st (st 5 2 0 0)
def f6_countUpTo_j34 (o : Int) (B4 : St → Int → Int → Prop) (Q : Int → St → Prop) (a0 : Int) (st : St) (v2x34 : Int) (v3x34 : Int) : Prop :=
  ∀ x13 : Int, x13 = v3x34 + 1 → B4 st v2x34 x13
def f6_countUpTo_l4 (o : Int)  (Q : Int → St → Prop) (a0 : Int) : Nat → St → Int → Int → Prop
  | 0, _, _, _ => False
  | n + 1, st, v2x4, v3x4 =>
  inI v3x4 ∧ inI (st 6 2 o 0) ∧ ((st 6 2 o 0 ≤ v3x4 → Q v2x4 st) ∧ (¬ st 6 2 o 0 ≤ v3x4 → inI v3x4 ∧ inI (rcap o) ∧ ((rcap o ≤ v3x4 → Q v2x4 st) ∧ (¬ rcap o ≤ v3x4 → (0 : Int) ≤ v3x4 ∧ v3x4 < rcap o ∧ inI (st 10 0 o v3x4) ∧ inI a0 ∧ ((a0 < st 10 0 o v3x4 → f6_countUpTo_j34 o (fun st v2x4 v3x4 => f6_countUpTo_l4 o Q a0 n st v2x4 v3x4) Q a0 st v2x4 v3x4) ∧ (¬ a0 < st 10 0 o v3x4 → ∀ x12 : Int, x12 = v2x4 + 1 → f6_countUpTo_j34 o (fun st v2x4 v3x4 => f6_countUpTo_l4 o Q a0 n st v2x4 v3x4) Q a0 st x12 v3x4))))))
def f6_countUpTo (o : Int) (Q : Int → St → Prop) (st : St) (a0 : Int) : Prop :=
  ∃ k, f6_countUpTo_l4 o Q a0 k st 0 0
def f6_putAt_l27 (o : Int)  (Q : Int → St → Prop) (a0 : Int) (a1 : Int) (a2 : Int) : Nat → St → Int → Prop
  | 0, _, _ => False
  | n + 1, st, v4x27 =>
  inI v4x27 ∧ inI a0 ∧ ((v4x27 ≤ a0 → (0 : Int) ≤ a0 ∧ a0 < rcap o ∧ ∀ st16 : St, st16 = up st 10 0 o a0 a1 → (0 : Int) ≤ a0 ∧ a0 < rcap o ∧ ∀ st19 : St, st19 = up st16 11 0 o a0 a2 → ∀ st20 : St, st20 = up st19 6 2 o 0 ((st19 6 2 o 0) + 1) → Q a0 st20) ∧ (¬ v4x27 ≤ a0 → (0 : Int) ≤ v4x27 - 1 ∧ v4x27 - 1 < rcap o ∧ (0 : Int) ≤ v4x27 ∧ v4x27 < rcap o ∧ ∀ st25 : St, st25 = up st 10 0 o v4x27 (st 10 0 o (v4x27 - 1)) → (0 : Int) ≤ v4x27 - 1 ∧ v4x27 - 1 < rcap o ∧ (0 : Int) ≤ v4x27 ∧ v4x27 < rcap o ∧ ∀ st30 : St, st30 = up st25 11 0 o v4x27 (st25 11 0 o (v4x27 - 1)) → ∀ x31 : Int, x31 = v4x27 + (-1) → f6_putAt_l27 o Q a0 a1 a2 n st30 x31))
def f6_putAt (o : Int) (Q : Int → St → Prop) (st : St) (a0 : Int) (a1 : Int) (a2 : Int) : Prop :=
  f6_isFull o (fun z1 st2 => inI z1 ∧ ((z1 = 0 → inI a0 ∧ ((a0 < 0 → Q (-1) st2) ∧ (¬ a0 < 0 → inI a0 ∧ inI (st2 6 2 o 0) ∧ ((a0 ≤ st2 6 2 o 0 → ∀ x10 : Int, x10 = st2 6 2 o 0 → ∃ k, f6_putAt_l27 o Q a0 a1 a2 k st2 x10) ∧ (¬ a0 ≤ st2 6 2 o 0 → Q (-1) st2))))) ∧ (¬ z1 = 0 → Q (-1) st2))) st
def f6_putInOrder (o : Int) (Q : Int → St → Prop) (st : St) (a0 : Int) (a1 : Int) : Prop :=
  f6_countUpTo o (fun z1 st2 => f6_putAt o (fun z3 st4 => Q z3 st4) st2 z1 a0 a1) st a0
def f5_readSupport_j79   (Q : Int → St → Prop)  (st : St) (v1x79 : Int) (v2x79 : Int) : Prop :=
  f6_putInOrder (4 * 2) (fun z18 st19 => f5_takeSemicolon (fun z20 st21 => (z20 = 0 ∨ z20 = 1) ∧ Q z20 st21) st19) st v1x79 v2x79
def f5_readSupport  (Q : Int → St → Prop) (st : St)  : Prop :=
  f5_takeNameFor (4 * 2) (fun z1 st2 => inI z1 ∧ ((z1 = 0 → Q 0 st2) ∧ (¬ z1 = 0 → f5_takeFreePlace (fun z5 st6 => inI z5 ∧ ((z5 = (-1) → Q 0 st6) ∧ (¬ z5 = (-1) → f7_isWord 8 (fun z9 st10 => inI z9 ∧ ((z9 = 0 → f5_readSupport_j79 Q st10 z5 (-1)) ∧ (¬ z9 = 0 → ∀ st13 : St, st13 = up st10 5 2 0 0 ((st10 5 2 0 0) + 1) → f5_takeNumber (fun z14 st15 => inI z14 ∧ ((z14 = (-1) → Q 0 st15) ∧ (¬ z14 = (-1) → f5_readSupport_j79 Q st15 z5 z14))) st13 1 99999))) st6 (st6 5 2 0 0)))) st2 0 (st2 0 0 2 0)))) st
def f5_readHinge  (Q : Int → St → Prop) (st : St)  : Prop :=
  f5_takeNameFor (4 * 2 + 1) (fun z1 st2 => inI z1 ∧ ((z1 = 0 → Q 0 st2) ∧ (¬ z1 = 0 → f5_takeFreePlace (fun z5 st6 => inI z5 ∧ ((z5 = (-1) → Q 0 st6) ∧ (¬ z5 = (-1) → f6_putInOrder (4 * 2 + 1) (fun z9 st10 => f5_takeSemicolon (fun z11 st12 => (z11 = 0 ∨ z11 = 1) ∧ Q z11 st12) st10) st6 z5 0))) st2 1 ((st2 0 0 2 0) - 1)))) st
def f6_putLast (o : Int) (Q : Int → St → Prop) (st : St) (a0 : Int) (a1 : Int) : Prop :=
  f6_putAt o (fun z1 st2 => Q z1 st2) st (st 6 2 o 0) a0 a1
def f5_readWeight (a0 : Int) (a1 : Nat) (Q : Int → St → Prop) (st : St) (a2 : Int) : Prop :=
  f5_takeNameFor a0 (fun z1 st2 => inI z1 ∧ ((z1 = 0 → Q 0 st2) ∧ (¬ z1 = 0 → f5_takeNumber (fun z5 st6 => inI z5 ∧ ((z5 = (-1) → Q 0 st6) ∧ (¬ z5 = (-1) → f5_takeWord a1 (fun z9 st10 => inI z9 ∧ ((z9 = 0 → Q 0 st10) ∧ (¬ z9 = 0 → f5_takeNumber (fun z13 st14 => inI z13 ∧ ((z13 = (-1) → Q 0 st14) ∧ (¬ z13 = (-1) → f6_putLast a0 (fun z17 st18 => f5_takeSemicolon (fun z19 st20 => (z19 = 0 ∨ z19 = 1) ∧ Q z19 st20) st18) st14 z5 z13))) st10 0 a2))) st6))) st2 1 999))) st
def f5_readStatement  (Q : Int → St → Prop) (st : St)  : Prop :=
  f7_isWord 2 (fun z1 st2 => inI z1 ∧ ((z1 = 0 → f7_isWord 3 (fun z5 st6 => inI z5 ∧ ((z5 = 0 → f7_isWord 4 (fun z9 st10 => inI z9 ∧ ((z9 = 0 → f7_isWord 5 (fun z13 st14 => inI z13 ∧ ((z13 = 0 → f7_startOf (fun z17 st18 => f5_fail (fun z19 st20 => (z19 = 0 ∨ z19 = 1) ∧ Q z19 st20) st18 (-2) z17) st14 (st14 5 2 0 0)) ∧ (¬ z13 = 0 → f5_readWeight (4 * 2 + 3) 7 (fun z22 st23 => (z22 = 0 ∨ z22 = 1) ∧ Q z22 st23) st14 30))) st10 (st10 5 2 0 0)) ∧ (¬ z9 = 0 → f5_readWeight (4 * 2 + 2) 6 (fun z25 st26 => (z25 = 0 ∨ z25 = 1) ∧ Q z25 st26) st10 (st10 0 0 2 0)))) st6 (st6 5 2 0 0)) ∧ (¬ z5 = 0 → f5_readHinge (fun z28 st29 => (z28 = 0 ∨ z28 = 1) ∧ Q z28 st29) st6))) st2 (st2 5 2 0 0)) ∧ (¬ z1 = 0 → f5_readSupport (fun z31 st32 => (z31 = 0 ∨ z31 = 1) ∧ Q z31 st32) st2))) st (st 5 2 0 0)
def f5_checkHinges_j32   (Q : Int → St → Prop)  (st : St)  : Prop :=
  f5_fail (fun z7 st8 => (z7 = 0 ∨ z7 = 1) ∧ Q z7 st8) st (-6) (st 7 1 0 0)
def f5_checkHinges  (Q : Int → St → Prop) (st : St)  : Prop :=
  ∀ x1 : Int, x1 = st 6 2 (4 * 2) 0 → inI x1 ∧ ((x1 < 2 → f5_checkHinges_j32 Q st) ∧ (¬ x1 < 2 → inI (st 6 2 (4 * 2 + 1) 0) ∧ inI (x1 - 2) ∧ ((st 6 2 (4 * 2 + 1) 0 = x1 - 2 → Q 1 st) ∧ (¬ st 6 2 (4 * 2 + 1) 0 = x1 - 2 → f5_checkHinges_j32 Q st))))
def f5_readText_j80   (Q : Int → St → Prop)  (st : St)  : Prop :=
  f5_checkHinges (fun z24 st25 => (z24 = 0 ∨ z24 = 1) ∧ Q z24 st25) st
def f5_readText_l40   (Q : Int → St → Prop)  : Nat → St → Int → Prop
  | 0, _, _ => False
  | n + 1, st, v1x40 =>
  inI v1x40 ∧ inI (st 7 6 0 0) ∧ ((st 7 6 0 0 ≤ v1x40 → f5_readText_j80 Q st) ∧ (¬ st 7 6 0 0 ≤ v1x40 → f7_kindOf (fun z15 st16 => inI z15 ∧ ((z15 = 0 → f5_readText_j80 Q st16) ∧ (¬ z15 = 0 → f5_readStatement (fun z19 st20 => inI z19 ∧ ((z19 = 0 → Q 0 st20) ∧ (¬ z19 = 0 → ∀ x23 : Int, x23 = v1x40 + 1 → f5_readText_l40 Q n st20 x23))) st16))) st (st 5 2 0 0)))
def f5_readText  (Q : Int → St → Prop) (st : St)  : Prop :=
  ∀ st1 : St, st1 = up st 5 2 0 0 0 → ∀ st2 : St, st2 = up st1 5 3 0 0 0 → ∀ st3 : St, st3 = up st2 5 4 0 0 (-1) → f0_makeBare 2 (fun st5 => f7_split (fun st7 => f5_readHead (fun z8 st9 => inI z8 ∧ ((z8 = 0 → Q 0 st9) ∧ (¬ z8 = 0 → ∃ k, f5_readText_l40 Q k st9 0))) st7) st5) st3
def f6_setSecond (o : Int) (Q : St → Prop) (st : St) (a0 : Int) (a1 : Int) : Prop :=
  f6_has o (fun z1 st2 => inI z1 ∧ ((z1 = 0 → Q st2) ∧ (¬ z1 = 0 → (0 : Int) ≤ a0 ∧ a0 < rcap o ∧ ∀ st7 : St, st7 = up st2 11 0 o a0 a1 → Q st7))) st a0
def f6_sumOfFirsts_l4 (o : Int)  (Q : Int → St → Prop)  : Nat → St → Int → Int → Prop
  | 0, _, _, _ => False
  | n + 1, st, v1x4, v2x4 =>
  inI v2x4 ∧ inI (st 6 2 o 0) ∧ ((st 6 2 o 0 ≤ v2x4 → Q v1x4 st) ∧ (¬ st 6 2 o 0 ≤ v2x4 → f6_first o (fun z4 st5 => ∀ x6 : Int, x6 = v1x4 + z4 → ∀ x7 : Int, x7 = v2x4 + 1 → f6_sumOfFirsts_l4 o Q n st5 x6 x7) st v2x4))
def f6_sumOfFirsts (o : Int) (Q : Int → St → Prop) (st : St)  : Prop :=
  ∃ k, f6_sumOfFirsts_l4 o Q k st 0 0
def f6_remove_l21 (o : Int)  (Q : St → Prop)  : Nat → St → Int → Prop
  | 0, _, _ => False
  | n + 1, st, v2x21 =>
  inI v2x21 ∧ inI (st 6 2 o 0) ∧ ((st 6 2 o 0 ≤ v2x21 → Q st) ∧ (¬ st 6 2 o 0 ≤ v2x21 → (0 : Int) ≤ v2x21 + 1 ∧ v2x21 + 1 < rcap o ∧ (0 : Int) ≤ v2x21 ∧ v2x21 < rcap o ∧ ∀ st13 : St, st13 = up st 10 0 o v2x21 (st 10 0 o (v2x21 + 1)) → (0 : Int) ≤ v2x21 + 1 ∧ v2x21 + 1 < rcap o ∧ (0 : Int) ≤ v2x21 ∧ v2x21 < rcap o ∧ ∀ st18 : St, st18 = up st13 11 0 o v2x21 (st13 11 0 o (v2x21 + 1)) → ∀ x19 : Int, x19 = v2x21 + 1 → f6_remove_l21 o Q n st18 x19))
def f6_remove (o : Int) (Q : St → Prop) (st : St) (a0 : Int) : Prop :=
  f6_has o (fun z1 st2 => inI z1 ∧ ((z1 = 0 → Q st2) ∧ (¬ z1 = 0 → ∀ st5 : St, st5 = up st2 6 2 o 0 ((st2 6 2 o 0) - 1) → ∃ k, f6_remove_l21 o Q k st5 a0))) st a0
def f7_put  (Q : St → Prop) (st : St) (a0 : Int) : Prop :=
  inI (st 7 1 0 0) ∧ ((500 ≤ st 7 1 0 0 → Q st) ∧ (¬ 500 ≤ st 7 1 0 0 → (0 ≤ a0 ∧ a0 < 65536) ∧ (0 : Int) ≤ st 7 1 0 0 ∧ st 7 1 0 0 < 500 ∧ (0 ≤ a0 ∧ a0 < 65536) ∧ ∀ st7 : St, st7 = up st 21 0 0 (st 7 1 0 0) a0 → ∀ st8 : St, st8 = up st7 7 1 0 0 ((st7 7 1 0 0) + 1) → Q st8))
def f8_bytesIn_j22  (B5 : St → Int → Int → Prop) (Q : Int → St → Prop) (a0 : Int) (st : St) (v1x22 : Int) (v2x22 : Int) : Prop :=
  ∀ x6 : Int, x6 = v2x22 + (-8) → B5 st v1x22 x6
def f8_bytesIn_l5   (Q : Int → St → Prop) (a0 : Int) : Nat → St → Int → Int → Prop
  | 0, _, _, _ => False
  | n + 1, st, v1x5, v2x5 =>
  inI v2x5 ∧ ((v2x5 < 0 → Q v1x5 st) ∧ (¬ v2x5 < 0 → inI (iand (iushr a0 v2x5) 255) ∧ ((iand (iushr a0 v2x5) 255 = 0 → f8_bytesIn_j22 (fun st v1x5 v2x5 => f8_bytesIn_l5 Q a0 n st v1x5 v2x5) Q a0 st v1x5 v2x5) ∧ (¬ iand (iushr a0 v2x5) 255 = 0 → ∀ x5 : Int, x5 = v1x5 + 1 → f8_bytesIn_j22 (fun st v1x5 v2x5 => f8_bytesIn_l5 Q a0 n st v1x5 v2x5) Q a0 st x5 v2x5))))
def f8_bytesIn  (Q : Int → St → Prop) (st : St) (a0 : Int) : Prop :=
  ∃ k, f8_bytesIn_l5 Q a0 k st 0 24
def f8_putBytes_j30  (B3 : St → Int → Prop) (Q : St → Prop) (a0 : Int) (st : St) (v2x30 : Int) : Prop :=
  ∀ x8 : Int, x8 = v2x30 + (-8) → B3 st x8
def f8_putBytes_l3   (Q : St → Prop) (a0 : Int) : Nat → St → Int → Prop
  | 0, _, _ => False
  | n + 1, st, v2x3 =>
  inI v2x3 ∧ ((v2x3 < 0 → Q st) ∧ (¬ v2x3 < 0 → ∀ x3 : Int, x3 = iand (iushr a0 v2x3) 255 → inI x3 ∧ ((x3 = 0 → f8_putBytes_j30 (fun st v2x3 => f8_putBytes_l3 Q a0 n st v2x3) Q a0 st v2x3) ∧ (¬ x3 = 0 → f7_put (fun st7 => f8_putBytes_j30 (fun st v2x3 => f8_putBytes_l3 Q a0 n st v2x3) Q a0 st7 v2x3) st x3))))
def f8_putBytes  (Q : St → Prop) (st : St) (a0 : Int) : Prop :=
  ∃ k, f8_putBytes_l3 Q a0 k st 24
def f8_append  (Q : Int → St → Prop) (X : String → St → Prop) (st : St) (a0 : Int) (a1 : Int) (a2 : Int) (a3 : Int) (a4 : Int) : Prop :=
  f8_bytesIn (fun z1 st2 => f8_bytesIn (fun z3 st4 => f8_bytesIn (fun z5 st6 => f8_bytesIn (fun z7 st8 => f8_bytesIn (fun z9 st10 => ∀ x11 : Int, x11 = (((z1 + z3) + z5) + z7) + z9 → inI ((st10 7 1 0 0) + x11) ∧ (((st10 7 1 0 0) + x11 ≤ 500 → f8_putBytes (fun st15 => f8_putBytes (fun st17 => f8_putBytes (fun st19 => f8_putBytes (fun st21 => f8_putBytes (fun st23 => Q (st23 7 1 0 0) st23) st21 a4) st19 a3) st17 a2) st15 a1) st10 a0) ∧ (¬ (st10 7 1 0 0) + x11 ≤ 500 → X "java/lang/IllegalStateException" st10))) st8 a4) st6 a3) st4 a2) st2 a1) st a0
def f8_takeTrial  (Q : St → Prop) (st : St)  : Prop :=
  f2_remember 0 (fun st2 => f0_copyFrom 0 1 (fun st4 => f3_reckon 0 0 (fun z5 st6 => Q st6) st4) st2) st
def f8_load  (Q : Int → St → Prop) (st : St)  : Prop :=
  ∀ x1 : Int, x1 = st 7 1 0 0 → f5_readText (fun z2 st3 => ∀ st4 : St, st4 = up st3 7 1 0 0 0 → inI z2 ∧ ((z2 = 0 → ∀ st17 : St, st17 = up st4 8 1 0 0 (st4 5 4 0 0) → Q (st17 5 3 0 0) st17) ∧ (¬ z2 = 0 → f0_copyFrom 1 2 (fun st8 => f3_reckon 1 1 (fun z9 st10 => inI z9 ∧ ((z9 = 0 → ∀ st16 : St, st16 = up st10 8 1 0 0 x1 → Q (-7) st16) ∧ (¬ z9 = 0 → ∀ st13 : St, st13 = up st10 8 1 0 0 (-1) → f8_takeTrial (fun st15 => Q (st15 6 2 (4 * 0) 0) st15) st13))) st8) st4))) st
def f8_errorPosition  (Q : Int → St → Prop) (st : St)  : Prop :=
  Q (st 8 1 0 0) st
def f8_count  (Q : Int → St → Prop) (X : String → St → Prop) (st : St) (a0 : Int) : Prop :=
  inI a0 ∧ ((a0 = 0 → Q (st 0 0 0 0) st) ∧ (a0 = 1 → Q (st 6 2 (4 * 0) 0) st) ∧ (a0 = 2 → Q (st 6 2 (4 * 0 + 1) 0) st) ∧ (a0 = 3 → Q (st 6 2 (4 * 0 + 2) 0) st) ∧ (a0 = 4 → Q (st 6 2 (4 * 0 + 3) 0) st) ∧ (a0 = 5 → Q (st 0 1 0 0) st) ∧ (a0 = 6 → f6_sumOfFirsts (4 * 0 + 2) (fun z2 st3 => Q z2 st3) st) ∧ (a0 = 7 → f6_sumOfFirsts (4 * 0 + 3) (fun z4 st5 => Q z4 st5) st) ∧ (a0 = 8 → f0_lastHead 0 (fun z6 st7 => Q z6 st7) st) ∧ (a0 < 0 ∨ 8 < a0 → X "java/lang/IllegalArgumentException" st))
def f8_unit  (Q : Int → St → Prop) (st : St)  : Prop :=
  Q (st 3 4 0 0) st
def f8_needNumber (a0 : Int) (Q : St → Prop) (X : String → St → Prop) (st : St) (a1 : Int) : Prop :=
  f6_has a0 (fun z1 st2 => inI z1 ∧ ((z1 = 0 → X "java/lang/IndexOutOfBoundsException" st2) ∧ (¬ z1 = 0 → Q st2))) st a1
def f8_needRange_j10   (Q : St → Prop) (X : String → St → Prop)  (st : St)  : Prop :=
  X "java/lang/IllegalArgumentException" st
def f8_needRange  (Q : St → Prop) (X : String → St → Prop) (st : St) (a0 : Int) (a1 : Int) (a2 : Int) : Prop :=
  inI a0 ∧ inI a1 ∧ ((a0 < a1 → f8_needRange_j10 Q X st) ∧ (¬ a0 < a1 → inI a0 ∧ inI a2 ∧ ((a0 ≤ a2 → Q st) ∧ (¬ a0 ≤ a2 → f8_needRange_j10 Q X st))))
def f8_pairNumber (a0 : Int) (Q : Int → St → Prop) (X : String → St → Prop) (st : St) (a1 : Int) (a2 : Int) : Prop :=
  f8_needNumber a0 (fun st2 => f8_needRange (fun st4 => inI a2 ∧ ((a2 = 0 → f6_first a0 (fun z9 st10 => Q z9 st10) st4 a1) ∧ (¬ a2 = 0 → f6_second a0 (fun z7 st8 => Q z7 st8) st4 a1))) X st2 a2 0 1) X st a1
def f8_support  (Q : Int → St → Prop) (X : String → St → Prop) (st : St) (a0 : Int) (a1 : Int) : Prop :=
  f8_pairNumber (4 * 0) (fun z1 st2 => Q z1 st2) X st a0 a1
def f8_hinge  (Q : Int → St → Prop) (X : String → St → Prop) (st : St) (a0 : Int) : Prop :=
  f8_pairNumber (4 * 0 + 1) (fun z1 st2 => Q z1 st2) X st a0 0
def f8_weight  (Q : Int → St → Prop) (X : String → St → Prop) (st : St) (a0 : Int) (a1 : Int) : Prop :=
  f8_pairNumber (4 * 0 + 2) (fun z1 st2 => Q z1 st2) X st a0 a1
def f8_axle  (Q : Int → St → Prop) (X : String → St → Prop) (st : St) (a0 : Int) (a1 : Int) : Prop :=
  f8_pairNumber (4 * 0 + 3) (fun z1 st2 => Q z1 st2) X st a0 a1
def f8_needPlace  (Q : St → Prop) (X : String → St → Prop) (st : St) (a0 : Int) : Prop :=
  f0_hasPlace 0 (fun z1 st2 => inI z1 ∧ ((z1 = 0 → X "java/lang/IndexOutOfBoundsException" st2) ∧ (¬ z1 = 0 → Q st2))) st a0
def f8_part  (Q : Int → St → Prop) (X : String → St → Prop) (st : St) (a0 : Int) : Prop :=
  f8_needPlace (fun st2 => f6_countUpTo (4 * 0 + 1) (fun z3 st4 => Q z3 st4) st2 a0) X st a0
def f8_reactionLine  (Q : Int → St → Prop) (X : String → St → Prop) (st : St) (a0 : Int) (a1 : Int) : Prop :=
  f8_needNumber (4 * 0) (fun st2 => f8_needPlace (fun st4 => f3_at 0 (fun z5 st6 => Q z5 st6) st4 a0 a1) X st2 a1) X st a0
def f8_needField_j15   (Q : St → Prop) (X : String → St → Prop)  (st : St)  : Prop :=
  X "java/lang/IndexOutOfBoundsException" st
def f8_needField  (Q : St → Prop) (X : String → St → Prop) (st : St) (a0 : Int) : Prop :=
  inI a0 ∧ ((a0 < 0 → f8_needField_j15 Q X st) ∧ (¬ a0 < 0 → inI a0 ∧ inI (st 0 0 0 0) ∧ ((a0 < st 0 0 0 0 → Q st) ∧ (¬ a0 < st 0 0 0 0 → f8_needField_j15 Q X st))))
def f8_shearLine  (Q : Int → St → Prop) (X : String → St → Prop) (st : St) (a0 : Int) (a1 : Int) : Prop :=
  f8_needField (fun st2 => f8_needPlace (fun st4 => f1_underOne 0 0 0 (fun st6 => f1_shearIn 0 (fun z7 st8 => Q z7 st8) st6 a0) st4 a1) X st2 a1) X st a0
def f8_influenceOnMoment  (Q : Int → St → Prop) (st : St) (a0 : Int) (a1 : Int) : Prop :=
  f1_underOne 0 0 0 (fun st2 => f1_momentAt 0 (fun z3 st4 => Q z3 st4) st2 a0) st a1
def f8_momentLine  (Q : Int → St → Prop) (X : String → St → Prop) (st : St) (a0 : Int) (a1 : Int) : Prop :=
  f8_needPlace (fun st2 => f8_needPlace (fun st4 => f8_influenceOnMoment (fun z5 st6 => Q z5 st6) st4 a0 a1) X st2 a1) X st a0
def f8_area_l10   (Q : Int → St → Prop) (X : String → St → Prop) (a0 : Int) : Nat → St → Int → Int → Prop
  | 0, _, _, _ => False
  | n + 1, st, v2x10, v4x10 =>
  inI v4x10 ∧ inI (st 0 0 0 0) ∧ ((st 0 0 0 0 < v4x10 → Q v2x10 st) ∧ (¬ st 0 0 0 0 < v4x10 → f8_influenceOnMoment (fun z6 st7 => ∀ x8 : Int, x8 = v2x10 + z6 → ∀ x9 : Int, x9 = v4x10 + 1 → f8_area_l10 Q X a0 n st7 x8 x9) st a0 v4x10))
def f8_area  (Q : Int → St → Prop) (X : String → St → Prop) (st : St) (a0 : Int) : Prop :=
  f8_needPlace (fun st2 => ∃ k, f8_area_l10 Q X a0 k st2 0 0) X st a0
def f8_still_j37  (B9 : St → Int → Int → Prop) (Q : Int → St → Prop) (X : String → St → Prop) (a0 : Int) (st : St) (v2x37 : Int) (v3x37 : Int) : Prop :=
  ∀ x11 : Int, x11 = v3x37 + 1 → B9 st v2x37 x11
def f8_still_l9   (Q : Int → St → Prop) (X : String → St → Prop) (a0 : Int) : Nat → St → Int → Int → Prop
  | 0, _, _, _ => False
  | n + 1, st, v2x9, v3x9 =>
  inI v3x9 ∧ inI (st 0 0 0 0) ∧ ((st 0 0 0 0 < v3x9 → Q v2x9 st) ∧ (¬ st 0 0 0 0 < v3x9 → f8_influenceOnMoment (fun z6 st7 => inL z6 ∧ ((z6 = 0 → ∀ x10 : Int, x10 = ior v2x9 (ishl 1 v3x9) → f8_still_j37 (fun st v2x9 v3x9 => f8_still_l9 Q X a0 n st v2x9 v3x9) Q X a0 st7 x10 v3x9) ∧ (¬ z6 = 0 → f8_still_j37 (fun st v2x9 v3x9 => f8_still_l9 Q X a0 n st v2x9 v3x9) Q X a0 st7 v2x9 v3x9))) st a0 v3x9))
def f8_still  (Q : Int → St → Prop) (X : String → St → Prop) (st : St) (a0 : Int) : Prop :=
  f8_needPlace (fun st2 => ∃ k, f8_still_l9 Q X a0 k st2 0 0) X st a0
def f8_influenceFromRight_j58  (B5 : St → Int → Int → Prop) (Q : Int → St → Prop) (a0 : Int) (a1 : Int) (st : St) (v3x58 : Int) (v5x58 : Int) : Prop :=
  ∀ x18 : Int, x18 = v5x58 + 1 → B5 st v3x58 x18
def f8_influenceFromRight_l5   (Q : Int → St → Prop) (a0 : Int) (a1 : Int) : Nat → St → Int → Int → Prop
  | 0, _, _, _ => False
  | n + 1, st, v3x5, v5x5 =>
  inI v5x5 ∧ inI (st 6 2 (4 * 0) 0) ∧ ((st 6 2 (4 * 0) 0 ≤ v5x5 → inI a1 ∧ inI a0 ∧ ((a1 ≤ a0 → Q v3x5 st) ∧ (¬ a1 ≤ a0 → inI (a1 - a0) ∧ ∀ x8 : Int, x8 = v3x5 - ((st 3 4 0 0) * (a1 - a0)) → Q x8 st))) ∧ (¬ st 6 2 (4 * 0) 0 ≤ v5x5 → f6_first (4 * 0) (fun z9 st10 => ∀ x11 : Int, x11 = z9 - a0 → inI x11 ∧ ((x11 ≤ 0 → f8_influenceFromRight_j58 (fun st v3x5 v5x5 => f8_influenceFromRight_l5 Q a0 a1 n st v3x5 v5x5) Q a0 a1 st10 v3x5 v5x5) ∧ (¬ x11 ≤ 0 → f3_at 0 (fun z14 st15 => inI x11 ∧ ∀ x17 : Int, x17 = v3x5 + (z14 * x11) → f8_influenceFromRight_j58 (fun st v3x5 v5x5 => f8_influenceFromRight_l5 Q a0 a1 n st v3x5 v5x5) Q a0 a1 st15 x17 v5x5) st10 v5x5 a1))) st v5x5))
def f8_influenceFromRight  (Q : Int → St → Prop) (st : St) (a0 : Int) (a1 : Int) : Prop :=
  ∃ k, f8_influenceFromRight_l5 Q a0 a1 k st 0 0
def f8_gap  (Q : Int → St → Prop) (X : String → St → Prop) (st : St) (a0 : Int) (a1 : Int) : Prop :=
  f8_needPlace (fun st2 => f8_needPlace (fun st4 => f8_influenceOnMoment (fun z5 st6 => f8_influenceFromRight (fun z7 st8 => Q (z5 - z7) st8) st6 a0 a1) st4 a0 a1) X st2 a1) X st a0
def f8_needHead  (Q : St → Prop) (X : String → St → Prop) (st : St) (a0 : Int) : Prop :=
  f0_lastHead 0 (fun z1 st2 => f8_needRange (fun st4 => Q st4) X st2 a0 (-1) z1) st
def f8_reaction  (Q : Int → St → Prop) (X : String → St → Prop) (st : St) (a0 : Int) (a1 : Int) : Prop :=
  f8_needNumber (4 * 0) (fun st2 => f8_needHead (fun st4 => f1_underAll 0 0 0 (fun st6 => f1_reactionOf 0 (fun z7 st8 => Q z7 st8) st6 a0) st4 a1) X st2 a1) X st a0
def f8_shear  (Q : Int → St → Prop) (X : String → St → Prop) (st : St) (a0 : Int) (a1 : Int) : Prop :=
  f8_needField (fun st2 => f8_needHead (fun st4 => f1_underAll 0 0 0 (fun st6 => f1_shearIn 0 (fun z7 st8 => Q z7 st8) st6 a0) st4 a1) X st2 a1) X st a0
def f8_moment  (Q : Int → St → Prop) (X : String → St → Prop) (st : St) (a0 : Int) (a1 : Int) : Prop :=
  f8_needPlace (fun st2 => f8_needHead (fun st4 => f1_underAll 0 0 0 (fun st6 => f1_momentAt 0 (fun z7 st8 => Q z7 st8) st6 a0) st4 a1) X st2 a1) X st a0
def f8_worstHead_j106  (B18 : St → Int → Int → Int → Prop) (Q : Int → St → Prop) (a0 : Int) (a1 : Int) (a2 : Int) (v7x18 : Int) (st : St) (v4x106 : Int) (v5x106 : Int) (v8x106 : Int) : Prop :=
  ∀ x22 : Int, x22 = v8x106 + 1 → B18 st v4x106 v5x106 x22
def f8_worstHead_j98  (B18 : St → Int → Int → Int → Prop) (Q : Int → St → Prop) (a0 : Int) (a1 : Int) (a2 : Int) (v7x18 : Int) (st : St) (v8x98 : Int) (v9x98 : Int) : Prop :=
  f8_worstHead_j106 B18 Q a0 a1 a2 v7x18 st v8x98 v9x98 v8x98
def f8_worstHead_j86  (B18 : St → Int → Int → Int → Prop) (Q : Int → St → Prop) (a0 : Int) (a1 : Int) (a2 : Int) (v7x18 : Int) (st : St) (v4x86 : Int) (v5x86 : Int) (v8x86 : Int) (v9x86 : Int) (s0x86 : Int) : Prop :=
  inI v8x86 ∧ ((v8x86 = 0 → f8_worstHead_j98 B18 Q a0 a1 a2 v7x18 st v8x86 v9x86) ∧ (¬ v8x86 = 0 → inI s0x86 ∧ ((s0x86 = 0 → f8_worstHead_j106 B18 Q a0 a1 a2 v7x18 st v4x86 v5x86 v8x86) ∧ (¬ s0x86 = 0 → f8_worstHead_j98 B18 Q a0 a1 a2 v7x18 st v8x86 v9x86))))
def f8_worstHead_l18   (Q : Int → St → Prop) (a0 : Int) (a1 : Int) (a2 : Int) (v7x18 : Int) : Nat → St → Int → Int → Int → Prop
  | 0, _, _, _, _ => False
  | n + 1, st, v4x18, v5x18, v8x18 =>
  inI v8x18 ∧ inI v7x18 ∧ ((v7x18 < v8x18 → Q v4x18 st) ∧ (¬ v7x18 < v8x18 → f1_underAll 0 0 0 (fun st7 => f1_ofKind 0 (fun z8 st9 => inI a2 ∧ ((a2 = 0 → inL z8 ∧ inL v5x18 ∧ ((v5x18 ≤ z8 → f8_worstHead_j86 (fun st v4x18 v5x18 v8x18 => f8_worstHead_l18 Q a0 a1 a2 v7x18 n st v4x18 v5x18 v8x18) Q a0 a1 a2 v7x18 st9 v4x18 v5x18 v8x18 z8 0) ∧ (¬ v5x18 ≤ z8 → f8_worstHead_j86 (fun st v4x18 v5x18 v8x18 => f8_worstHead_l18 Q a0 a1 a2 v7x18 n st v4x18 v5x18 v8x18) Q a0 a1 a2 v7x18 st9 v4x18 v5x18 v8x18 z8 1))) ∧ (¬ a2 = 0 → inL z8 ∧ inL v5x18 ∧ ((z8 ≤ v5x18 → f8_worstHead_j86 (fun st v4x18 v5x18 v8x18 => f8_worstHead_l18 Q a0 a1 a2 v7x18 n st v4x18 v5x18 v8x18) Q a0 a1 a2 v7x18 st9 v4x18 v5x18 v8x18 z8 0) ∧ (¬ z8 ≤ v5x18 → f8_worstHead_j86 (fun st v4x18 v5x18 v8x18 => f8_worstHead_l18 Q a0 a1 a2 v7x18 n st v4x18 v5x18 v8x18) Q a0 a1 a2 v7x18 st9 v4x18 v5x18 v8x18 z8 1))))) st7 a0 a1) st v8x18))
def f8_worstHead  (Q : Int → St → Prop) (st : St) (a0 : Int) (a1 : Int) (a2 : Int) : Prop :=
  f0_lastHead 0 (fun z1 st2 => ∃ k, f8_worstHead_l18 Q a0 a1 a2 z1 k st2 0 0 0) st
def f8_worstForReaction  (Q : Int → St → Prop) (X : String → St → Prop) (st : St) (a0 : Int) (a1 : Int) : Prop :=
  f8_needNumber (4 * 0) (fun st2 => f8_worstHead (fun z3 st4 => Q z3 st4) st2 0 a0 a1) X st a0
def f8_worstForShear  (Q : Int → St → Prop) (X : String → St → Prop) (st : St) (a0 : Int) (a1 : Int) : Prop :=
  f8_needField (fun st2 => f8_worstHead (fun z3 st4 => Q z3 st4) st2 1 a0 a1) X st a0
def f8_worstForMoment  (Q : Int → St → Prop) (X : String → St → Prop) (st : St) (a0 : Int) (a1 : Int) : Prop :=
  f8_needPlace (fun st2 => f8_worstHead (fun z3 st4 => Q z3 st4) st2 2 a0 a1) X st a0
def f8_worstSection  (Q : Int → St → Prop) (st : St)  : Prop :=
  f4_find 0 0 0 (fun st2 => Q (st2 4 1 0 0) st2) st
def f8_reasonWithHead  (Q : Int → St → Prop) (st : St) (a0 : Int) : Prop :=
  f1_underAll 0 0 0 (fun st2 => f1_firstReason 0 0 0 (fun z3 st4 => Q z3 st4) st2) st a0
def f8_danger  (Q : Int → St → Prop) (X : String → St → Prop) (st : St) (a0 : Int) : Prop :=
  f8_needHead (fun st2 => f8_reasonWithHead (fun z3 st4 => Q z3 st4) st2 a0) X st a0
def f8_firstDanger_l10   (Q : Int → St → Prop) (v1x10 : Int) : Nat → St → Int → Prop
  | 0, _, _ => False
  | n + 1, st, v2x10 =>
  inI v2x10 ∧ inI v1x10 ∧ ((v1x10 < v2x10 → Q (-1) st) ∧ (¬ v1x10 < v2x10 → f8_reasonWithHead (fun z6 st7 => inI z6 ∧ ((z6 = 0 → ∀ x10 : Int, x10 = v2x10 + 1 → f8_firstDanger_l10 Q v1x10 n st7 x10) ∧ (¬ z6 = 0 → Q v2x10 st7))) st v2x10))
def f8_firstDanger  (Q : Int → St → Prop) (st : St)  : Prop :=
  f0_lastHead 0 (fun z1 st2 => ∃ k, f8_firstDanger_l10 Q z1 k st2 0) st
def f8_lifting_l12   (Q : Int → St → Prop) (v2x12 : Int) : Nat → St → Int → Int → Prop
  | 0, _, _, _ => False
  | n + 1, st, v1x12, v3x12 =>
  inI v3x12 ∧ inI v2x12 ∧ ((v2x12 < v3x12 → Q v1x12 st) ∧ (¬ v2x12 < v3x12 → f1_underAll 0 0 0 (fun st7 => f1_liftedSet 0 (fun z8 st9 => ∀ x10 : Int, x10 = ior v1x12 z8 → ∀ x11 : Int, x11 = v3x12 + 1 → f8_lifting_l12 Q v2x12 n st9 x10 x11) st7) st v3x12))
def f8_lifting  (Q : Int → St → Prop) (st : St)  : Prop :=
  f0_lastHead 0 (fun z1 st2 => ∃ k, f8_lifting_l12 Q z1 k st2 0 0) st
def f8_needHingePlace  (Q : St → Prop) (X : String → St → Prop) (st : St) (a0 : Int) : Prop :=
  f8_needRange (fun st2 => Q st2) X st a0 1 ((st 0 0 0 0) - 1)
def f8_tryHingeAt  (Q : Int → St → Prop) (st : St) (a0 : Int) (a1 : Int) : Prop :=
  f0_copyFrom 1 0 (fun st2 => f6_remove (4 * 1 + 1) (fun st4 => f0_isTaken 1 (fun z5 st6 => inI z5 ∧ ((z5 = 0 → f6_putInOrder (4 * 1 + 1) (fun z9 st10 => f3_reckon 1 1 (fun z11 st12 => inI z11 ∧ ((z11 = 0 → Q (-12) st12) ∧ (¬ z11 = 0 → Q z9 st12))) st10) st6 a1 0) ∧ (¬ z5 = 0 → Q (-11) st6))) st4 a1) st2 a0) st
def f8_tryHinge  (Q : Int → St → Prop) (X : String → St → Prop) (st : St) (a0 : Int) (a1 : Int) : Prop :=
  f8_needNumber (4 * 0 + 1) (fun st2 => f8_needHingePlace (fun st4 => f8_tryHingeAt (fun z5 st6 => inI z5 ∧ ((0 ≤ z5 → Q 0 st6) ∧ (¬ 0 ≤ z5 → Q z5 st6))) st4 a0 a1) X st2 a1) X st a0
def f8_isLess  (Q : Int → St → Prop) (st : St) (a0 : Int) (a1 : Int) (a2 : Int) (a3 : Int) : Prop :=
  inL a1 ∧ ((a1 ≤ 0 → Q 0 st) ∧ (¬ a1 ≤ 0 → inL a3 ∧ ((0 < a3 → inL a0 ∧ inL a1 ∧ ¬ a1 = 0 ∧ ∀ x8 : Int, x8 = Int.tdiv a0 a1 → inL a2 ∧ inL a3 ∧ ¬ a3 = 0 ∧ ∀ x12 : Int, x12 = Int.tdiv a2 a3 → inL x8 ∧ inL x12 ∧ ((x8 = x12 → inL a0 ∧ inL a1 ∧ ¬ a1 = 0 ∧ inL a2 ∧ inL a3 ∧ ¬ a3 = 0 ∧ inL ((Int.tmod a0 a1) * a3) ∧ inL ((Int.tmod a2 a3) * a1) ∧ (((Int.tmod a2 a3) * a1 ≤ (Int.tmod a0 a1) * a3 → Q 0 st) ∧ (¬ (Int.tmod a2 a3) * a1 ≤ (Int.tmod a0 a1) * a3 → Q 1 st))) ∧ (¬ x8 = x12 → inL x8 ∧ inL x12 ∧ ((x12 ≤ x8 → Q 0 st) ∧ (¬ x12 ≤ x8 → Q 1 st))))) ∧ (¬ 0 < a3 → Q 0 st))))
def f8_bestHinge_j114  (B22 : St → Int → Int → Int → Int → Prop) (Q : Int → St → Prop) (X : String → St → Prop) (a0 : Int) (st : St) (v2x114 : Int) (v3x114 : Int) (v5x114 : Int) (v7x114 : Int) : Prop :=
  ∀ x20 : Int, x20 = v7x114 + 1 → B22 st v2x114 v3x114 v5x114 x20
def f8_bestHinge_j94  (B22 : St → Int → Int → Int → Int → Prop) (Q : Int → St → Prop) (X : String → St → Prop) (a0 : Int) (st : St) (v7x94 : Int) : Prop :=
  ∀ x18 : Int, x18 = st 4 0 0 0 → ∀ x19 : Int, x19 = st 3 4 1 0 → f8_bestHinge_j114 B22 Q X a0 st v7x94 x18 x19 v7x94
def f8_bestHinge_l22   (Q : Int → St → Prop) (X : String → St → Prop) (a0 : Int) : Nat → St → Int → Int → Int → Int → Prop
  | 0, _, _, _, _, _ => False
  | n + 1, st, v2x22, v3x22, v5x22, v7x22 =>
  inI v7x22 ∧ inI (st 0 0 0 0) ∧ ((st 0 0 0 0 ≤ v7x22 → Q v2x22 st) ∧ (¬ st 0 0 0 0 ≤ v7x22 → f8_tryHingeAt (fun z6 st7 => inI z6 ∧ ((0 ≤ z6 → f4_find 1 1 0 (fun st11 => inI v2x22 ∧ ((v2x22 = (-1) → f8_bestHinge_j94 (fun st v2x22 v3x22 v5x22 v7x22 => f8_bestHinge_l22 Q X a0 n st v2x22 v3x22 v5x22 v7x22) Q X a0 st11 v7x22) ∧ (¬ v2x22 = (-1) → f8_isLess (fun z14 st15 => inI z14 ∧ ((z14 = 0 → f8_bestHinge_j114 (fun st v2x22 v3x22 v5x22 v7x22 => f8_bestHinge_l22 Q X a0 n st v2x22 v3x22 v5x22 v7x22) Q X a0 st15 v2x22 v3x22 v5x22 v7x22) ∧ (¬ z14 = 0 → f8_bestHinge_j94 (fun st v2x22 v3x22 v5x22 v7x22 => f8_bestHinge_l22 Q X a0 n st v2x22 v3x22 v5x22 v7x22) Q X a0 st15 v7x22))) st11 (st11 4 0 0 0) (st11 3 4 1 0) v3x22 v5x22))) st7) ∧ (¬ 0 ≤ z6 → f8_bestHinge_j114 (fun st v2x22 v3x22 v5x22 v7x22 => f8_bestHinge_l22 Q X a0 n st v2x22 v3x22 v5x22 v7x22) Q X a0 st7 v2x22 v3x22 v5x22 v7x22))) st a0 v7x22))
def f8_bestHinge  (Q : Int → St → Prop) (X : String → St → Prop) (st : St) (a0 : Int) : Prop :=
  f8_needNumber (4 * 0 + 1) (fun st2 => ∃ k, f8_bestHinge_l22 Q X a0 k st2 (-1) 0 1 1) X st a0
def f8_timesThatFit  (Q : Int → St → Prop) (st : St) (a0 : Int) (a1 : Int) : Prop :=
  inL a1 ∧ ((0 < a1 → inL a0 ∧ inL a1 ∧ ¬ a1 = 0 ∧ Q (Int.tdiv a0 a1) st) ∧ (¬ 0 < a1 → Q 999 st))
def f8_weightThatSupportsBear_j96  (B6 : St → Int → Int → Prop) (Q : Int → St → Prop)  (st : St) (v1x96 : Int) (v3x96 : Int) : Prop :=
  ∀ x23 : Int, x23 = v3x96 + 1 → B6 st v1x96 x23
def f8_weightThatSupportsBear_l6   (Q : Int → St → Prop)  : Nat → St → Int → Int → Prop
  | 0, _, _, _ => False
  | n + 1, st, v1x6, v3x6 =>
  inI v3x6 ∧ inI (st 6 2 (4 * 0) 0) ∧ ((st 6 2 (4 * 0) 0 ≤ v3x6 → Q v1x6 st) ∧ (¬ st 6 2 (4 * 0) 0 ≤ v3x6 → f1_reactionOf 1 (fun z4 st5 => f1_reactionOf 0 (fun z6 st7 => f8_timesThatFit (fun z8 st9 => inL v1x6 ∧ inL z8 ∧ ∀ x12 : Int, x12 = imin v1x6 z8 → f6_second (4 * 0) (fun z13 st14 => inI z13 ∧ ((z13 = (-1) → f8_weightThatSupportsBear_j96 (fun st v1x6 v3x6 => f8_weightThatSupportsBear_l6 Q n st v1x6 v3x6) Q st14 x12 v3x6) ∧ (¬ z13 = (-1) → inI z13 ∧ f8_timesThatFit (fun z18 st19 => inL x12 ∧ inL z18 ∧ ∀ x22 : Int, x22 = imin x12 z18 → f8_weightThatSupportsBear_j96 (fun st v1x6 v3x6 => f8_weightThatSupportsBear_l6 Q n st v1x6 v3x6) Q st19 x22 v3x6) st14 (((st14 3 4 0 0) * z13) - z4) z6))) st9 v3x6) st7 z4 (-z6)) st5 v3x6) st v3x6))
def f8_weightThatSupportsBear  (Q : Int → St → Prop) (st : St)  : Prop :=
  ∃ k, f8_weightThatSupportsBear_l6 Q k st 999 0
def f8_weightThatMomentsAllow_l24   (Q : Int → St → Prop) (v3x24 : Int) : Nat → St → Int → Int → Prop
  | 0, _, _, _ => False
  | n + 1, st, v1x24, v5x24 =>
  inI v5x24 ∧ inI (st 0 0 0 0) ∧ ((st 0 0 0 0 < v5x24 → Q v1x24 st) ∧ (¬ st 0 0 0 0 < v5x24 → f1_momentAt 1 (fun z6 st7 => f1_momentAt 0 (fun z8 st9 => f8_timesThatFit (fun z10 st11 => inL v1x24 ∧ inL z10 ∧ ∀ x14 : Int, x14 = imin v1x24 z10 → f8_timesThatFit (fun z15 st16 => inL x14 ∧ inL z15 ∧ ∀ x19 : Int, x19 = imin x14 z15 → ∀ x20 : Int, x20 = v5x24 + 1 → f8_weightThatMomentsAllow_l24 Q v3x24 n st16 x19 x20) st11 (v3x24 + z6) (-z8)) st9 (v3x24 - z6) z8) st7 v5x24) st v5x24))
def f8_weightThatMomentsAllow  (Q : Int → St → Prop) (st : St)  : Prop :=
  inI (st 0 1 0 0) ∧ ∀ x2 : Int, x2 = (st 3 4 0 0) * (st 0 1 0 0) → ∃ k, f8_weightThatMomentsAllow_l24 Q x2 k st 999 0
def f8_strongest_l42   (Q : Int → St → Prop)  : Nat → St → Int → Int → Prop
  | 0, _, _, _ => False
  | n + 1, st, v1x42, v3x42 =>
  inI v3x42 ∧ inI (st 0 0 0 0) ∧ ((st 0 0 0 0 < v3x42 → Q v1x42 st) ∧ (¬ st 0 0 0 0 < v3x42 → f1_underOne 0 0 0 (fun st11 => f8_weightThatSupportsBear (fun z12 st13 => inL v1x42 ∧ inL z12 ∧ ∀ x16 : Int, x16 = imin v1x42 z12 → f8_weightThatMomentsAllow (fun z17 st18 => inL x16 ∧ inL z17 ∧ ∀ x21 : Int, x21 = imin x16 z17 → ∀ x22 : Int, x22 = v3x42 + 1 → f8_strongest_l42 Q n st18 x21 x22) st13) st11) st v3x42))
def f8_strongest  (Q : Int → St → Prop) (st : St)  : Prop :=
  f1_underAll 1 0 0 (fun st2 => f1_firstReason 1 0 0 (fun z3 st4 => inI z3 ∧ ((z3 = 0 → ∃ k, f8_strongest_l42 Q k st4 999 0) ∧ (¬ z3 = 0 → Q 0 st4))) st2) st (-1)
def f8_moveSupport  (Q : Int → St → Prop) (X : String → St → Prop) (st : St) (a0 : Int) (a1 : Int) : Prop :=
  f8_needNumber (4 * 0) (fun st2 => f8_needPlace (fun st4 => f0_copyFrom 1 0 (fun st6 => f6_second (4 * 1) (fun z7 st8 => f6_remove (4 * 1) (fun st10 => f0_isTaken 1 (fun z11 st12 => inI z11 ∧ ((z11 = 0 → f6_putInOrder (4 * 1) (fun z15 st16 => f3_reckon 1 1 (fun z17 st18 => inI z17 ∧ ((z17 = 0 → Q (-12) st18) ∧ (¬ z17 = 0 → f8_takeTrial (fun st22 => Q z15 st22) st18))) st16) st12 a1 z7) ∧ (¬ z11 = 0 → Q (-11) st12))) st10 a1) st8 a0) st6 a0) st4) X st2 a1) X st a0
def f8_moveHinge  (Q : Int → St → Prop) (X : String → St → Prop) (st : St) (a0 : Int) (a1 : Int) : Prop :=
  f8_needNumber (4 * 0 + 1) (fun st2 => f8_needHingePlace (fun st4 => f8_tryHingeAt (fun z5 st6 => inI z5 ∧ ((z5 < 0 → Q z5 st6) ∧ (¬ z5 < 0 → f8_takeTrial (fun st10 => Q z5 st10) st6))) st4 a0 a1) X st2 a1) X st a0
def f8_addPair (a0 : Int) (Q : Int → St → Prop) (st : St) (a1 : Int) (a2 : Int) (a3 : Int) : Prop :=
  f6_isFull a0 (fun z1 st2 => inI z1 ∧ ((z1 = 0 → f2_remember 0 (fun st6 => f6_putLast a0 (fun z7 st8 => Q z7 st8) st6 a1 a2) st2) ∧ (¬ z1 = 0 → Q a3 st2))) st
def f8_addLoad  (Q : Int → St → Prop) (X : String → St → Prop) (st : St) (a0 : Int) (a1 : Int) : Prop :=
  f8_needPlace (fun st2 => f8_needRange (fun st4 => f8_addPair (4 * 0 + 2) (fun z5 st6 => Q z5 st6) st4 a0 a1 (-13)) X st2 a0 1 999) X st a1
def f8_dropPair (a0 : Int) (Q : Int → St → Prop) (X : String → St → Prop) (st : St) (a1 : Int) : Prop :=
  f8_needNumber a0 (fun st2 => f2_remember 0 (fun st4 => f6_first a0 (fun z5 st6 => f6_remove a0 (fun st8 => Q z5 st8) st6 a1) st4 a1) st2) X st a1
def f8_dropLoad  (Q : Int → St → Prop) (X : String → St → Prop) (st : St) (a0 : Int) : Prop :=
  f8_dropPair (4 * 0 + 2) (fun z1 st2 => Q z1 st2) X st a0
def f8_addAxle  (Q : Int → St → Prop) (X : String → St → Prop) (st : St) (a0 : Int) (a1 : Int) : Prop :=
  f8_needRange (fun st2 => f8_needRange (fun st4 => f8_addPair (4 * 0 + 3) (fun z5 st6 => Q z5 st6) st4 a0 a1 (-14)) X st2 a1 0 30) X st a0 1 999
def f8_dropAxle  (Q : Int → St → Prop) (X : String → St → Prop) (st : St) (a0 : Int) : Prop :=
  f8_dropPair (4 * 0 + 3) (fun z1 st2 => Q z1 st2) X st a0
def f8_setBearing_j26   (Q : Int → St → Prop) (X : String → St → Prop) (a0 : Int) (a1 : Int) (st : St)  : Prop :=
  f2_remember 0 (fun st8 => f6_second (4 * 0) (fun z9 st10 => f6_setSecond (4 * 0) (fun st12 => Q z9 st12) st10 a0 a1) st8 a0) st
def f8_setBearing  (Q : Int → St → Prop) (X : String → St → Prop) (st : St) (a0 : Int) (a1 : Int) : Prop :=
  f8_needNumber (4 * 0) (fun st2 => inI a1 ∧ ((a1 = (-1) → f8_setBearing_j26 Q X a0 a1 st2) ∧ (¬ a1 = (-1) → f8_needRange (fun st6 => f8_setBearing_j26 Q X a0 a1 st6) X st2 a1 1 99999))) X st a0
def f8_setMost  (Q : Int → St → Prop) (X : String → St → Prop) (st : St) (a0 : Int) : Prop :=
  f8_needRange (fun st2 => f2_remember 0 (fun st4 => ∀ x5 : Int, x5 = st4 0 1 0 0 → ∀ st6 : St, st6 = up st4 0 1 0 0 a0 → Q x5 st6) st2) X st a0 1 999999
def f8_undo  (Q : Int → St → Prop) (X : String → St → Prop) (st : St)  : Prop :=
  f2_takeBack 0 (fun z1 st2 => inI z1 ∧ ((z1 = 0 → X "java/lang/IllegalStateException" st2) ∧ (¬ z1 = 0 → f3_reckon 0 0 (fun z5 st6 => Q (st6 2 1 0 0) st6) st2))) st
def f8_needSlot_j9   (Q : St → Prop) (X : String → St → Prop)  (st : St)  : Prop :=
  X "java/lang/IndexOutOfBoundsException" st
def f8_needSlot  (Q : St → Prop) (X : String → St → Prop) (st : St) (a0 : Int) : Prop :=
  inI a0 ∧ ((a0 < 0 → f8_needSlot_j9 Q X st) ∧ (¬ a0 < 0 → inI a0 ∧ ((a0 < 2 → Q st) ∧ (¬ a0 < 2 → f8_needSlot_j9 Q X st))))
def f8_save  (Q : St → Prop) (X : String → St → Prop) (st : St) (a0 : Int) : Prop :=
  f8_needSlot (fun st2 => (0 : Int) ≤ a0 ∧ a0 < 2 ∧ f0_copyFrom (3 + a0) 0 (fun st6 => (0 : Int) ≤ a0 ∧ a0 < 2 ∧ ∀ st9 : St, st9 = up st6 27 0 0 a0 1 → Q st9) st2) X st a0
def f8_restore  (Q : Int → St → Prop) (X : String → St → Prop) (st : St) (a0 : Int) : Prop :=
  f8_needSlot (fun st2 => (0 : Int) ≤ a0 ∧ a0 < 2 ∧ inI (st2 27 0 0 a0) ∧ ((st2 27 0 0 a0 = 0 → X "java/lang/IllegalStateException" st2) ∧ (¬ st2 27 0 0 a0 = 0 → f2_remember 0 (fun st8 => (0 : Int) ≤ a0 ∧ a0 < 2 ∧ f0_copyFrom 0 (3 + a0) (fun st12 => f3_reckon 0 0 (fun z13 st14 => Q (st14 6 2 (4 * 0) 0) st14) st12) st8) st2))) X st a0
def f8_writeBeam_l15   (Q : Int → St → Prop)  : Nat → St → Int → Prop
  | 0, _, _ => False
  | n + 1, st, v1x15 =>
  inI v1x15 ∧ inI (st 8 13 0 0) ∧ ((st 8 13 0 0 ≤ v1x15 → Q (st 8 13 0 0) st) ∧ (¬ st 8 13 0 0 ≤ v1x15 → inI v1x15 ∧ ((31 ≤ v1x15 → Q (st 8 13 0 0) st) ∧ (¬ 31 ≤ v1x15 → f0_signAt 0 (fun z7 st8 => (0 : Int) ≤ v1x15 ∧ v1x15 < 31 ∧ (0 ≤ z7 ∧ z7 < 65536) ∧ ∀ st12 : St, st12 = up st8 28 0 0 v1x15 z7 → ∀ x13 : Int, x13 = v1x15 + 1 → f8_writeBeam_l15 Q n st12 x13) st v1x15))))
def f8_writeBeam  (Q : Int → St → Prop) (st : St)  : Prop :=
  ∀ st1 : St, st1 = up st 8 13 0 0 ((st 0 0 0 0) + 1) → ∃ k, f8_writeBeam_l15 Q k st1 0
def f8_writtenByte_j18   (Q : Int → St → Prop) (X : String → St → Prop)  (st : St)  : Prop :=
  X "java/lang/IndexOutOfBoundsException" st
def f8_writtenByte  (Q : Int → St → Prop) (X : String → St → Prop) (st : St) (a0 : Int) : Prop :=
  inI a0 ∧ ((a0 < 0 → f8_writtenByte_j18 Q X st) ∧ (¬ a0 < 0 → inI a0 ∧ inI (st 8 13 0 0) ∧ ((st 8 13 0 0 ≤ a0 → f8_writtenByte_j18 Q X st) ∧ (¬ st 8 13 0 0 ≤ a0 → inI a0 ∧ ((a0 < 31 → (0 : Int) ≤ a0 ∧ a0 < 31 ∧ Q (st 28 0 0 a0) st) ∧ (¬ a0 < 31 → f8_writtenByte_j18 Q X st))))))
def f9_thrown  (Q : Int → St → Prop) (st : St)  : Prop :=
  Q (st 9 6 0 0) st
def f9_isIn  (Q : Int → St → Prop) (st : St) (a0 : Int) (a1 : Int) (a2 : Int) : Prop :=
  inI a0 ∧ inI a1 ∧ ((a0 < a1 → Q 0 st) ∧ (¬ a0 < a1 → inI a0 ∧ inI a2 ∧ ((a2 < a0 → Q 0 st) ∧ (¬ a2 < a0 → Q 1 st))))
def f9_copies_l3 (a0 : Int) (a2 : Int)  (Q : St → Prop) (a1 : Int) (a3 : Int) : Nat → St → Int → Prop
  | 0, _, _ => False
  | n + 1, st, v4x3 =>
  inI v4x3 ∧ ((47 ≤ v4x3 → Q st) ∧ (¬ 47 ≤ v4x3 → (0 : Int) ≤ a3 + v4x3 ∧ a3 + v4x3 < mlen a2 ∧ (0 : Int) ≤ a1 + v4x3 ∧ a1 + v4x3 < mlen a0 ∧ ∀ st7 : St, st7 = up st 30 0 a0 (a1 + v4x3) (st 30 0 a2 (a3 + v4x3)) → ∀ x8 : Int, x8 = v4x3 + 1 → f9_copies_l3 a0 a2 Q a1 a3 n st7 x8))
def f9_copies (a0 : Int) (a2 : Int) (Q : St → Prop) (st : St) (a1 : Int) (a3 : Int) : Prop :=
  ∃ k, f9_copies_l3 a0 a2 Q a1 a3 k st 0
def f9_keeps_j49 (a0 : Int)  (Q : St → Prop)  (st : St)  : Prop :=
  f9_copies 2 a0 (fun st4 => ∀ st5 : St, st5 = up st4 9 5 0 0 ((st4 9 5 0 0) + 1) → Q st5) st (47 * (st 9 5 0 0)) 0
def f9_keeps_l11 (a0 : Int)  (Q : St → Prop)  : Nat → St → Int → Prop
  | 0, _, _ => False
  | n + 1, st, v2x11 =>
  inI v2x11 ∧ ((329 ≤ v2x11 → ∀ st8 : St, st8 = up st 9 5 0 0 ((st 9 5 0 0) - 1) → f9_keeps_j49 a0 Q st8) ∧ (¬ 329 ≤ v2x11 → (0 : Int) ≤ v2x11 + 47 ∧ v2x11 + 47 < mlen 2 ∧ (0 : Int) ≤ v2x11 ∧ v2x11 < mlen 2 ∧ ∀ st13 : St, st13 = up st 30 0 2 v2x11 (st 30 0 2 (v2x11 + 47)) → ∀ x14 : Int, x14 = v2x11 + 1 → f9_keeps_l11 a0 Q n st13 x14))
def f9_keeps (a0 : Int) (Q : St → Prop) (st : St)  : Prop :=
  inI (st 9 5 0 0) ∧ ((st 9 5 0 0 = 8 → ∃ k, f9_keeps_l11 a0 Q k st 0) ∧ (¬ st 9 5 0 0 = 8 → f9_keeps_j49 a0 Q st))
def f9_undo_j13   (Q : Int → St → Prop)  (st : St) (s0x13 : Int) : Prop :=
  ∀ st3 : St, st3 = up st 9 6 0 0 s0x13 → inI (st3 9 6 0 0) ∧ ((st3 9 6 0 0 ≤ 0 → ∀ st6 : St, st6 = up st3 9 5 0 0 ((st3 9 5 0 0) - 1) → f9_copies 0 2 (fun st8 => Q (st8 9 5 0 0) st8) st6 0 (47 * (st6 9 5 0 0))) ∧ (¬ st3 9 6 0 0 ≤ 0 → Q 0 st3))
def f9_undo  (Q : Int → St → Prop) (st : St)  : Prop :=
  inI (st 9 5 0 0) ∧ ((st 9 5 0 0 = 0 → f9_undo_j13 Q st 1) ∧ (¬ st 9 5 0 0 = 0 → f9_undo_j13 Q st 0))
def f9_save_j15   (Q : St → Prop) (a0 : Int) (st : St) (s0x15 : Int) : Prop :=
  ∀ st5 : St, st5 = up st 9 6 0 0 s0x15 → inI (st5 9 6 0 0) ∧ ((st5 9 6 0 0 ≤ 0 → f9_copies 3 0 (fun st9 => (0 : Int) ≤ a0 ∧ a0 < 2 ∧ ∀ st12 : St, st12 = up st9 34 0 0 a0 1 → Q st12) st5 (47 * a0) 0) ∧ (¬ st5 9 6 0 0 ≤ 0 → Q st5))
def f9_save  (Q : St → Prop) (st : St) (a0 : Int) : Prop :=
  f9_isIn (fun z1 st2 => inI z1 ∧ ((z1 = 0 → f9_save_j15 Q a0 st2 1) ∧ (¬ z1 = 0 → f9_save_j15 Q a0 st2 0))) st a0 0 1
def f9_restore_j28   (Q : Int → St → Prop) (a0 : Int) (st : St) (s0x28 : Int) : Prop :=
  ∀ st9 : St, st9 = up st 9 6 0 0 s0x28 → inI (st9 9 6 0 0) ∧ ((st9 9 6 0 0 ≤ 0 → f9_keeps 0 (fun st13 => f9_copies 0 3 (fun st15 => Q (st15 30 0 0 2) st15) st13 0 (47 * a0)) st9) ∧ (¬ st9 9 6 0 0 ≤ 0 → Q 0 st9))
def f9_restore  (Q : Int → St → Prop) (st : St) (a0 : Int) : Prop :=
  f9_isIn (fun z1 st2 => inI z1 ∧ ((z1 = 0 → f9_restore_j28 Q a0 st2 1) ∧ (¬ z1 = 0 → (0 : Int) ≤ a0 ∧ a0 < 2 ∧ inI (st2 34 0 0 a0) ∧ ((st2 34 0 0 a0 = 0 → f9_restore_j28 Q a0 st2 2) ∧ (¬ st2 34 0 0 a0 = 0 → f9_restore_j28 Q a0 st2 0))))) st a0 0 1
def f9_byteOf_j42   (Q : Int → St → Prop) (a0 : Int) (st : St) (s0x42 : Int) : Prop :=
  inI a0 ∧ Q (iand (ishr s0x42 (24 - (8 * (Int.tmod a0 4)))) 255) st
def f9_byteOf  (Q : Int → St → Prop) (st : St) (a0 : Int) (a1 : Int) (a2 : Int) (a3 : Int) (a4 : Int) (a5 : Int) : Prop :=
  inI a0 ∧ ((4 ≤ a0 → inI a0 ∧ ((8 ≤ a0 → inI a0 ∧ ((12 ≤ a0 → inI a0 ∧ ((16 ≤ a0 → f9_byteOf_j42 Q a0 st a5) ∧ (¬ 16 ≤ a0 → f9_byteOf_j42 Q a0 st a4))) ∧ (¬ 12 ≤ a0 → f9_byteOf_j42 Q a0 st a3))) ∧ (¬ 8 ≤ a0 → f9_byteOf_j42 Q a0 st a2))) ∧ (¬ 4 ≤ a0 → f9_byteOf_j42 Q a0 st a1))
def f9_append_j128  (B78 : St → Int → Prop) (Q : Int → St → Prop) (a0 : Int) (a1 : Int) (a2 : Int) (a3 : Int) (a4 : Int) (st : St) (v7x128 : Int) : Prop :=
  ∀ x24 : Int, x24 = v7x128 + 1 → B78 st x24
def f9_append_l78   (Q : Int → St → Prop) (a0 : Int) (a1 : Int) (a2 : Int) (a3 : Int) (a4 : Int) : Nat → St → Int → Prop
  | 0, _, _ => False
  | n + 1, st, v7x78 =>
  inI v7x78 ∧ ((20 ≤ v7x78 → Q (st 9 8 0 0) st) ∧ (¬ 20 ≤ v7x78 → f9_byteOf (fun z16 st17 => inI z16 ∧ ((z16 = 0 → f9_append_j128 (fun st v7x78 => f9_append_l78 Q a0 a1 a2 a3 a4 n st v7x78) Q a0 a1 a2 a3 a4 st17 v7x78) ∧ (¬ z16 = 0 → (0 : Int) ≤ st17 9 8 0 0 ∧ st17 9 8 0 0 < mlen 4 ∧ ∀ st22 : St, st22 = up st17 30 0 4 (st17 9 8 0 0) z16 → ∀ st23 : St, st23 = up st22 9 8 0 0 ((st22 9 8 0 0) + 1) → f9_append_j128 (fun st v7x78 => f9_append_l78 Q a0 a1 a2 a3 a4 n st v7x78) Q a0 a1 a2 a3 a4 st23 v7x78))) st v7x78 a0 a1 a2 a3 a4))
def f9_append_j63   (Q : Int → St → Prop) (a0 : Int) (a1 : Int) (a2 : Int) (a3 : Int) (a4 : Int) (st : St) (s0x63 : Int) : Prop :=
  ∀ st11 : St, st11 = up st 9 6 0 0 s0x63 → inI (st11 9 6 0 0) ∧ ((st11 9 6 0 0 ≤ 0 → ∃ k, f9_append_l78 Q a0 a1 a2 a3 a4 k st11 0) ∧ (¬ st11 9 6 0 0 ≤ 0 → Q 0 st11))
def f9_append_j35  (B6 : St → Int → Int → Prop) (Q : Int → St → Prop) (a0 : Int) (a1 : Int) (a2 : Int) (a3 : Int) (a4 : Int) (st : St) (v7x35 : Int) (s0x35 : Int) (s1x35 : Int) : Prop :=
  ∀ x9 : Int, x9 = s1x35 + s0x35 → ∀ x10 : Int, x10 = v7x35 + 1 → B6 st x9 x10
def f9_append_l6   (Q : Int → St → Prop) (a0 : Int) (a1 : Int) (a2 : Int) (a3 : Int) (a4 : Int) : Nat → St → Int → Int → Prop
  | 0, _, _, _ => False
  | n + 1, st, v6x6, v7x6 =>
  inI v7x6 ∧ ((20 ≤ v7x6 → inI ((st 9 8 0 0) + v6x6) ∧ (((st 9 8 0 0) + v6x6 ≤ 500 → f9_append_j63 Q a0 a1 a2 a3 a4 st 0) ∧ (¬ (st 9 8 0 0) + v6x6 ≤ 500 → f9_append_j63 Q a0 a1 a2 a3 a4 st 1))) ∧ (¬ 20 ≤ v7x6 → f9_byteOf (fun z5 st6 => inI z5 ∧ ((z5 = 0 → f9_append_j35 (fun st v6x6 v7x6 => f9_append_l6 Q a0 a1 a2 a3 a4 n st v6x6 v7x6) Q a0 a1 a2 a3 a4 st6 v7x6 0 v6x6) ∧ (¬ z5 = 0 → f9_append_j35 (fun st v6x6 v7x6 => f9_append_l6 Q a0 a1 a2 a3 a4 n st v6x6 v7x6) Q a0 a1 a2 a3 a4 st6 v7x6 1 v6x6))) st v7x6 a0 a1 a2 a3 a4))
def f9_append  (Q : Int → St → Prop) (st : St) (a0 : Int) (a1 : Int) (a2 : Int) (a3 : Int) (a4 : Int) : Prop :=
  ∃ k, f9_append_l6 Q a0 a1 a2 a3 a4 k st 0 0
def f9_see  (Q : Int → St → Prop) (st : St) (a0 : Int) : Prop :=
  inI a0 ∧ inI (st 9 8 0 0) ∧ ((st 9 8 0 0 ≤ a0 → Q (-1) st) ∧ (¬ st 9 8 0 0 ≤ a0 → (0 : Int) ≤ a0 ∧ a0 < mlen 4 ∧ Q (st 30 0 4 a0) st))
def f9_isLetter  (Q : Int → St → Prop) (st : St) (a0 : Int) : Prop :=
  f9_see (fun z1 st2 => f9_isIn (fun z3 st4 => (z3 = 0 ∨ z3 = 1) ∧ Q z3 st4) st2 z1 97 122) st a0
def f9_isDigit  (Q : Int → St → Prop) (st : St) (a0 : Int) : Prop :=
  f9_see (fun z1 st2 => f9_isIn (fun z3 st4 => (z3 = 0 ∨ z3 = 1) ∧ Q z3 st4) st2 z1 48 57) st a0
def f9_next_l120   (Q : St → Prop)  : Nat → St → Prop
  | 0, _ => False
  | n + 1, st =>
  f9_isDigit (fun z23 st24 => inI z23 ∧ ((z23 = 0 → ∀ st27 : St, st27 = up st24 9 11 0 0 1 → Q st27) ∧ (¬ z23 = 0 → f9_see (fun z28 st29 => inI (((10 * (st24 9 12 0 0)) + z28) - 48) ∧ ∀ st31 : St, st31 = up st29 9 12 0 0 (imin 10000000 (((10 * (st24 9 12 0 0)) + z28) - 48)) → ∀ st32 : St, st32 = up st31 9 10 0 0 ((st31 9 10 0 0) + 1) → f9_next_l120 Q n st32) st24 (st24 9 10 0 0)))) st (st 9 10 0 0)
def f9_next_l77   (Q : St → Prop)  : Nat → St → Prop
  | 0, _ => False
  | n + 1, st =>
  f9_isLetter (fun z33 st34 => inI z33 ∧ ((z33 = 0 → ∀ st37 : St, st37 = up st34 9 11 0 0 0 → Q st37) ∧ (¬ z33 = 0 → ∀ st38 : St, st38 = up st34 9 10 0 0 ((st34 9 10 0 0) + 1) → f9_next_l77 Q n st38))) st (st 9 10 0 0)
def f9_next_l8   (Q : St → Prop)  : Nat → St → Prop
  | 0, _ => False
  | n + 1, st =>
  f9_see (fun z2 st3 => inI z2 ∧ ((z2 = 32 → ∀ st22 : St, st22 = up st3 9 9 0 0 ((st3 9 9 0 0) + 1) → f9_next_l8 Q n st22) ∧ (¬ z2 = 32 → ∀ st6 : St, st6 = up st3 9 10 0 0 (st3 9 9 0 0) → ∀ st7 : St, st7 = up st6 9 12 0 0 0 → inI (st7 9 9 0 0) ∧ inI (st7 9 8 0 0) ∧ ((st7 9 9 0 0 < st7 9 8 0 0 → f9_isLetter (fun z11 st12 => inI z11 ∧ ((z11 = 0 → f9_isDigit (fun z15 st16 => inI z15 ∧ ((z15 = 0 → ∀ st19 : St, st19 = up st16 9 10 0 0 ((st16 9 10 0 0) + 1) → ∀ st20 : St, st20 = up st19 9 11 0 0 2 → Q st20) ∧ (¬ z15 = 0 → ∃ k, f9_next_l120 Q k st16))) st12 (st12 9 9 0 0)) ∧ (¬ z11 = 0 → ∃ k, f9_next_l77 Q k st12))) st7 (st7 9 9 0 0)) ∧ (¬ st7 9 9 0 0 < st7 9 8 0 0 → ∀ st21 : St, st21 = up st7 9 11 0 0 3 → Q st21))))) st (st 9 9 0 0)
def f9_next  (Q : St → Prop) (st : St)  : Prop :=
  ∀ st1 : St, st1 = up st 9 9 0 0 (st 9 10 0 0) → ∃ k, f9_next_l8 Q k st1
def f9_isWord_l34 (a0 : Nat)  (Q : Int → St → Prop)  : Nat → St → Int → Prop
  | 0, _, _ => False
  | n + 1, st, v2x34 =>
  inI v2x34 ∧ inI (wlen a0) ∧ ((wlen a0 ≤ v2x34 → Q 1 st) ∧ (¬ wlen a0 ≤ v2x34 → (0 : Int) ≤ (st 9 9 0 0) + v2x34 ∧ (st 9 9 0 0) + v2x34 < mlen 4 ∧ 0 ≤ v2x34 ∧ v2x34 < wlen a0 ∧ inI (st 30 0 4 ((st 9 9 0 0) + v2x34)) ∧ inI (wch a0 v2x34) ∧ ((st 30 0 4 ((st 9 9 0 0) + v2x34) = wch a0 v2x34 → ∀ x18 : Int, x18 = v2x34 + 1 → f9_isWord_l34 a0 Q n st x18) ∧ (¬ st 30 0 4 ((st 9 9 0 0) + v2x34) = wch a0 v2x34 → Q 0 st))))
def f9_isWord (a0 : Nat) (Q : Int → St → Prop) (st : St)  : Prop :=
  inI (st 9 13 0 0) ∧ ((st 9 13 0 0 = 0 → inI (st 9 11 0 0) ∧ ((st 9 11 0 0 = 0 → inI ((st 9 10 0 0) - (st 9 9 0 0)) ∧ inI (wlen a0) ∧ (((st 9 10 0 0) - (st 9 9 0 0) = wlen a0 → ∃ k, f9_isWord_l34 a0 Q k st 0) ∧ (¬ (st 9 10 0 0) - (st 9 9 0 0) = wlen a0 → Q 0 st))) ∧ (¬ st 9 11 0 0 = 0 → Q 0 st))) ∧ (¬ st 9 13 0 0 = 0 → Q 0 st))
def f9_fails  (Q : St → Prop) (st : St) (a0 : Int) : Prop :=
  inI (st 9 13 0 0) ∧ ((st 9 13 0 0 = 0 → ∀ st3 : St, st3 = up st 9 13 0 0 a0 → ∀ st4 : St, st4 = up st3 9 14 0 0 (st3 9 9 0 0) → Q st4) ∧ (¬ st 9 13 0 0 = 0 → Q st))
def f9_must_j10   (Q : St → Prop)  (st : St)  : Prop :=
  inI (st 9 13 0 0) ∧ ((st 9 13 0 0 = 0 → f9_next (fun st8 => Q st8) st) ∧ (¬ st 9 13 0 0 = 0 → Q st))
def f9_must  (Q : St → Prop) (st : St) (a0 : Int) : Prop :=
  inI a0 ∧ ((a0 = 0 → f9_fails (fun st4 => f9_must_j10 Q st4) st (-2)) ∧ (¬ a0 = 0 → f9_must_j10 Q st))
def f9_mustEnd_j27   (Q : St → Prop)  (st : St) (s0x27 : Int) : Prop :=
  f9_must (fun st8 => Q st8) st s0x27
def f9_mustEnd_j26   (Q : St → Prop)  (st : St)  : Prop :=
  f9_mustEnd_j27 Q st 0
def f9_mustEnd  (Q : St → Prop) (st : St)  : Prop :=
  inI (st 9 11 0 0) ∧ ((st 9 11 0 0 = 2 → f9_see (fun z3 st4 => inI z3 ∧ ((z3 = 59 → f9_mustEnd_j27 Q st4 1) ∧ (¬ z3 = 59 → f9_mustEnd_j26 Q st4))) st (st 9 9 0 0)) ∧ (¬ st 9 11 0 0 = 2 → f9_mustEnd_j26 Q st))
def f9_stands_j46   (Q : Int → St → Prop)  (st : St)  : Prop :=
  inI (st 9 13 0 0) ∧ ((st 9 13 0 0 = 0 → Q (st 9 12 0 0) st) ∧ (¬ st 9 13 0 0 = 0 → Q 0 st))
def f9_stands_j21   (Q : Int → St → Prop) (a0 : Int) (a1 : Int) (st : St)  : Prop :=
  inI (st 9 13 0 0) ∧ ((st 9 13 0 0 = 0 → f9_isIn (fun z9 st10 => inI z9 ∧ ((z9 = 0 → f9_fails (fun st14 => f9_stands_j46 Q st14) st10 (-3)) ∧ (¬ z9 = 0 → f9_stands_j46 Q st10))) st (st 9 12 0 0) a0 a1) ∧ (¬ st 9 13 0 0 = 0 → f9_stands_j46 Q st))
def f9_stands  (Q : Int → St → Prop) (st : St) (a0 : Int) (a1 : Int) : Prop :=
  inI (st 9 13 0 0) ∧ ((st 9 13 0 0 = 0 → inI (st 9 11 0 0) ∧ ((st 9 11 0 0 = 1 → f9_stands_j21 Q a0 a1 st) ∧ (¬ st 9 11 0 0 = 1 → f9_fails (fun st6 => f9_stands_j21 Q a0 a1 st6) st (-2)))) ∧ (¬ st 9 13 0 0 = 0 → f9_stands_j21 Q a0 a1 st))
def f9_takes  (Q : Int → St → Prop) (st : St) (a0 : Int) (a1 : Int) : Prop :=
  f9_stands (fun z1 st2 => inI (st2 9 13 0 0) ∧ ((st2 9 13 0 0 = 0 → f9_next (fun st6 => Q z1 st6) st2) ∧ (¬ st2 9 13 0 0 = 0 → Q z1 st2))) st a0 a1
def f9_placeOf  (Q : Int → St → Prop) (st : St) (a0 : Int) : Prop :=
  (0 : Int) ≤ 6 + (2 * a0) ∧ 6 + (2 * a0) < mlen 0 ∧ Q (st 30 0 0 (6 + (2 * a0))) st
def f9_supportAt_l2   (Q : Int → St → Prop) (a0 : Int) : Nat → St → Int → Prop
  | 0, _, _ => False
  | n + 1, st, v2x2 =>
  inI v2x2 ∧ inI (st 30 0 0 2) ∧ ((st 30 0 0 2 ≤ v2x2 → Q (-1) st) ∧ (¬ st 30 0 0 2 ≤ v2x2 → f9_placeOf (fun z4 st5 => inI z4 ∧ inI a0 ∧ ((z4 = a0 → Q v2x2 st5) ∧ (¬ z4 = a0 → ∀ x9 : Int, x9 = v2x2 + 1 → f9_supportAt_l2 Q a0 n st5 x9))) st v2x2))
def f9_supportAt  (Q : Int → St → Prop) (st : St) (a0 : Int) : Prop :=
  ∃ k, f9_supportAt_l2 Q a0 k st 0
def f9_hingeAt_l2   (Q : Int → St → Prop) (a0 : Int) : Nat → St → Int → Prop
  | 0, _, _ => False
  | n + 1, st, v2x2 =>
  inI v2x2 ∧ inI (st 30 0 0 3) ∧ ((st 30 0 0 3 ≤ v2x2 → Q (-1) st) ∧ (¬ st 30 0 0 3 ≤ v2x2 → (0 : Int) ≤ 16 + v2x2 ∧ 16 + v2x2 < mlen 0 ∧ inI (st 30 0 0 (16 + v2x2)) ∧ inI a0 ∧ ((st 30 0 0 (16 + v2x2) = a0 → Q v2x2 st) ∧ (¬ st 30 0 0 (16 + v2x2) = a0 → ∀ x9 : Int, x9 = v2x2 + 1 → f9_hingeAt_l2 Q a0 n st x9))))
def f9_hingeAt  (Q : Int → St → Prop) (st : St) (a0 : Int) : Prop :=
  ∃ k, f9_hingeAt_l2 Q a0 k st 0
def f9_takesPlace_j38   (Q : Int → St → Prop)  (st : St) (v3x38 : Int) : Prop :=
  inI (st 9 13 0 0) ∧ ((st 9 13 0 0 = 0 → f9_next (fun st16 => Q v3x38 st16) st) ∧ (¬ st 9 13 0 0 = 0 → Q v3x38 st))
def f9_takesPlace_j32   (Q : Int → St → Prop)  (st : St) (v3x32 : Int) : Prop :=
  f9_fails (fun st18 => f9_takesPlace_j38 Q st18 v3x32) st (-4)
def f9_takesPlace  (Q : Int → St → Prop) (st : St) (a0 : Int) (a1 : Int) : Prop :=
  f9_stands (fun z1 st2 => inI (st2 9 13 0 0) ∧ ((st2 9 13 0 0 = 0 → f9_supportAt (fun z5 st6 => inI z5 ∧ ((z5 = (-1) → f9_hingeAt (fun z9 st10 => inI z9 ∧ ((z9 = (-1) → f9_takesPlace_j38 Q st10 z1) ∧ (¬ z9 = (-1) → f9_takesPlace_j32 Q st10 z1))) st6 z1) ∧ (¬ z5 = (-1) → f9_takesPlace_j32 Q st6 z1))) st2 z1) ∧ (¬ st2 9 13 0 0 = 0 → f9_takesPlace_j38 Q st2 z1))) st a0 a1
def f9_begins_j16   (Q : St → Prop)  (st : St)  : Prop :=
  f9_must (fun st9 => Q st9) st 1
def f9_begins  (Q : St → Prop) (st : St) (a0 : Int) (a1 : Int) : Prop :=
  (0 : Int) ≤ a0 ∧ a0 < mlen 0 ∧ inI (st 30 0 0 a0) ∧ inI a1 ∧ ((st 30 0 0 a0 = a1 → f9_fails (fun st7 => f9_begins_j16 Q st7) st (-5)) ∧ (¬ st 30 0 0 a0 = a1 → f9_begins_j16 Q st))
def f9_addsSupport_j78   (Q : St → Prop) (a0 : Int) (a1 : Int) (st : St) (v3x78 : Int) : Prop :=
  (0 : Int) ≤ 6 + (2 * v3x78) ∧ 6 + (2 * v3x78) < mlen 0 ∧ ∀ st22 : St, st22 = up st 30 0 0 (6 + (2 * v3x78)) a0 → (0 : Int) ≤ (6 + (2 * v3x78)) + 1 ∧ (6 + (2 * v3x78)) + 1 < mlen 0 ∧ ∀ st25 : St, st25 = up st22 30 0 0 ((6 + (2 * v3x78)) + 1) a1 → ∀ st26 : St, st26 = up st25 30 0 0 2 ((st25 30 0 0 2) + 1) → Q st26
def f9_addsSupport_l7   (Q : St → Prop) (a0 : Int) (a1 : Int) : Nat → St → Int → Prop
  | 0, _, _ => False
  | n + 1, st, v3x7 =>
  inI v3x7 ∧ ((v3x7 ≤ 0 → f9_addsSupport_j78 Q a0 a1 st v3x7) ∧ (¬ v3x7 ≤ 0 → f9_placeOf (fun z4 st5 => inI z4 ∧ inI a0 ∧ ((z4 ≤ a0 → f9_addsSupport_j78 Q a0 a1 st5 v3x7) ∧ (¬ z4 ≤ a0 → (0 : Int) ≤ (6 + (2 * v3x7)) - 2 ∧ (6 + (2 * v3x7)) - 2 < mlen 0 ∧ (0 : Int) ≤ 6 + (2 * v3x7) ∧ 6 + (2 * v3x7) < mlen 0 ∧ ∀ st13 : St, st13 = up st5 30 0 0 (6 + (2 * v3x7)) (st5 30 0 0 ((6 + (2 * v3x7)) - 2)) → (0 : Int) ≤ (6 + (2 * v3x7)) - 1 ∧ (6 + (2 * v3x7)) - 1 < mlen 0 ∧ (0 : Int) ≤ (6 + (2 * v3x7)) + 1 ∧ (6 + (2 * v3x7)) + 1 < mlen 0 ∧ ∀ st18 : St, st18 = up st13 30 0 0 ((6 + (2 * v3x7)) + 1) (st13 30 0 0 ((6 + (2 * v3x7)) - 1)) → ∀ x19 : Int, x19 = v3x7 + (-1) → f9_addsSupport_l7 Q a0 a1 n st18 x19))) st (v3x7 - 1)))
def f9_addsSupport  (Q : St → Prop) (st : St) (a0 : Int) (a1 : Int) : Prop :=
  ∀ x1 : Int, x1 = st 30 0 0 2 → ∃ k, f9_addsSupport_l7 Q a0 a1 k st x1
def f9_readsSupport_j41   (Q : St → Prop)  (st : St) (v1x41 : Int) (v2x41 : Int) : Prop :=
  f9_mustEnd (fun st14 => inI (st14 9 13 0 0) ∧ ((st14 9 13 0 0 = 0 → f9_addsSupport (fun st18 => Q st18) st14 v1x41 v2x41) ∧ (¬ st14 9 13 0 0 = 0 → Q st14))) st
def f9_readsSupport  (Q : St → Prop) (st : St)  : Prop :=
  f9_begins (fun st2 => f9_takesPlace (fun z3 st4 => f9_isWord 8 (fun z5 st6 => inI z5 ∧ ((z5 = 0 → f9_readsSupport_j41 Q st6 z3 (-1)) ∧ (¬ z5 = 0 → f9_next (fun st10 => f9_takes (fun z11 st12 => f9_readsSupport_j41 Q st12 z3 z11) st10 1 99999) st6))) st4) st2 0 (st2 30 0 0 0)) st 2 5
def f9_addsHinge_j52   (Q : St → Prop) (a0 : Int) (st : St) (v2x52 : Int) : Prop :=
  (0 : Int) ≤ 16 + v2x52 ∧ 16 + v2x52 < mlen 0 ∧ ∀ st17 : St, st17 = up st 30 0 0 (16 + v2x52) a0 → ∀ st18 : St, st18 = up st17 30 0 0 3 ((st17 30 0 0 3) + 1) → Q st18
def f9_addsHinge_l7   (Q : St → Prop) (a0 : Int) : Nat → St → Int → Prop
  | 0, _, _ => False
  | n + 1, st, v2x7 =>
  inI v2x7 ∧ ((v2x7 ≤ 0 → f9_addsHinge_j52 Q a0 st v2x7) ∧ (¬ v2x7 ≤ 0 → (0 : Int) ≤ (16 + v2x7) - 1 ∧ (16 + v2x7) - 1 < mlen 0 ∧ inI (st 30 0 0 ((16 + v2x7) - 1)) ∧ inI a0 ∧ ((st 30 0 0 ((16 + v2x7) - 1) ≤ a0 → f9_addsHinge_j52 Q a0 st v2x7) ∧ (¬ st 30 0 0 ((16 + v2x7) - 1) ≤ a0 → (0 : Int) ≤ (16 + v2x7) - 1 ∧ (16 + v2x7) - 1 < mlen 0 ∧ (0 : Int) ≤ 16 + v2x7 ∧ 16 + v2x7 < mlen 0 ∧ ∀ st13 : St, st13 = up st 30 0 0 (16 + v2x7) (st 30 0 0 ((16 + v2x7) - 1)) → ∀ x14 : Int, x14 = v2x7 + (-1) → f9_addsHinge_l7 Q a0 n st13 x14))))
def f9_addsHinge  (Q : St → Prop) (st : St) (a0 : Int) : Prop :=
  ∀ x1 : Int, x1 = st 30 0 0 3 → ∃ k, f9_addsHinge_l7 Q a0 k st x1
def f9_readsHinge  (Q : St → Prop) (st : St)  : Prop :=
  f9_begins (fun st2 => f9_takesPlace (fun z3 st4 => f9_mustEnd (fun st6 => inI (st6 9 13 0 0) ∧ ((st6 9 13 0 0 = 0 → f9_addsHinge (fun st10 => Q st10) st6 z3) ∧ (¬ st6 9 13 0 0 = 0 → Q st6))) st4) st2 1 ((st2 30 0 0 0) - 1)) st 3 3
def f9_readsPair (a3 : Nat) (Q : St → Prop) (st : St) (a0 : Int) (a1 : Int) (a2 : Int) (a4 : Int) : Prop :=
  f9_begins (fun st2 => f9_takes (fun z3 st4 => f9_isWord a3 (fun z5 st6 => f9_must (fun st8 => f9_takes (fun z9 st10 => f9_mustEnd (fun st12 => inI (st12 9 13 0 0) ∧ ((st12 9 13 0 0 = 0 → (0 : Int) ≤ a0 ∧ a0 < mlen 0 ∧ (0 : Int) ≤ a2 + (2 * (st12 30 0 0 a0)) ∧ a2 + (2 * (st12 30 0 0 a0)) < mlen 0 ∧ ∀ st19 : St, st19 = up st12 30 0 0 (a2 + (2 * (st12 30 0 0 a0))) z3 → (0 : Int) ≤ a0 ∧ a0 < mlen 0 ∧ (0 : Int) ≤ (a2 + (2 * (st19 30 0 0 a0))) + 1 ∧ (a2 + (2 * (st19 30 0 0 a0))) + 1 < mlen 0 ∧ ∀ st24 : St, st24 = up st19 30 0 0 ((a2 + (2 * (st19 30 0 0 a0))) + 1) z9 → (0 : Int) ≤ a0 ∧ a0 < mlen 0 ∧ (0 : Int) ≤ a0 ∧ a0 < mlen 0 ∧ ∀ st29 : St, st29 = up st24 30 0 0 a0 ((st24 30 0 0 a0) + 1) → Q st29) ∧ (¬ st12 9 13 0 0 = 0 → Q st12))) st10) st8 0 a4) st6 z5) st4) st2 1 999) st a0 a1
def f9_readsStatement_j88   (Q : Int → St → Prop)  (st : St)  : Prop :=
  inI (st 9 13 0 0) ∧ ((st 9 13 0 0 = 0 → Q 1 st) ∧ (¬ st 9 13 0 0 = 0 → Q 0 st))
def f9_readsStatement  (Q : Int → St → Prop) (st : St)  : Prop :=
  f9_isWord 2 (fun z1 st2 => inI z1 ∧ ((z1 = 0 → f9_isWord 3 (fun z5 st6 => inI z5 ∧ ((z5 = 0 → f9_isWord 4 (fun z9 st10 => inI z9 ∧ ((z9 = 0 → f9_isWord 5 (fun z13 st14 => inI z13 ∧ ((z13 = 0 → Q 0 st14) ∧ (¬ z13 = 0 → f9_readsPair 7 (fun st18 => f9_readsStatement_j88 Q st18) st14 5 6 35 30))) st10) ∧ (¬ z9 = 0 → f9_readsPair 6 (fun st20 => f9_readsStatement_j88 Q st20) st10 4 8 19 (st10 30 0 0 0)))) st6) ∧ (¬ z5 = 0 → f9_readsHinge (fun st22 => f9_readsStatement_j88 Q st22) st6))) st2) ∧ (¬ z1 = 0 → f9_readsSupport (fun st24 => f9_readsStatement_j88 Q st24) st2))) st
def f9_lever  (Q : Int → St → Prop) (st : St) (a0 : Int) (a1 : Int) : Prop :=
  inI a0 ∧ ((a0 = 0 → Q 1 st) ∧ (¬ a0 = 0 → inI a0 ∧ ((a0 = 1 → inI a1 ∧ Q a1 st) ∧ (¬ a0 = 1 → (0 : Int) ≤ (16 + a0) - 2 ∧ (16 + a0) - 2 < mlen 0 ∧ inI ((st 30 0 0 ((16 + a0) - 2)) - a1) ∧ inI (imax 0 ((st 30 0 0 ((16 + a0) - 2)) - a1)) ∧ Q (imax 0 ((st 30 0 0 ((16 + a0) - 2)) - a1)) st))))
def f9_pivotOf_l2   (Q : Int → St → Prop) (a1 : Int) (a2 : Int) : Nat → St → Int → Prop
  | 0, _, _ => False
  | n + 1, st, v3x2 =>
  inI v3x2 ∧ inI a2 ∧ ((a2 ≤ v3x2 → Q v3x2 st) ∧ (¬ a2 ≤ v3x2 → (0 : Int) ≤ (a2 * v3x2) + a1 ∧ (a2 * v3x2) + a1 < 25 ∧ inL (st 36 0 0 ((a2 * v3x2) + a1)) ∧ ((st 36 0 0 ((a2 * v3x2) + a1) = 0 → ∀ x8 : Int, x8 = v3x2 + 1 → f9_pivotOf_l2 Q a1 a2 n st x8) ∧ (¬ st 36 0 0 ((a2 * v3x2) + a1) = 0 → Q v3x2 st))))
def f9_pivotOf  (Q : Int → St → Prop) (st : St) (a1 : Int) (a2 : Int) : Prop :=
  ∃ k, f9_pivotOf_l2 Q a1 a2 k st a1
def f9_changes_l3   (Q : St → Prop) (a0 : Int) (a1 : Int) (a2 : Int) : Nat → St → Int → Prop
  | 0, _, _ => False
  | n + 1, st, v4x3 =>
  inI v4x3 ∧ inI a2 ∧ ((a2 ≤ v4x3 → Q st) ∧ (¬ a2 ≤ v4x3 → (0 : Int) ≤ (a2 * a0) + v4x3 ∧ (a2 * a0) + v4x3 < 25 ∧ ∀ x6 : Int, x6 = st 36 0 0 ((a2 * a0) + v4x3) → (0 : Int) ≤ (a2 * a1) + v4x3 ∧ (a2 * a1) + v4x3 < 25 ∧ (0 : Int) ≤ (a2 * a0) + v4x3 ∧ (a2 * a0) + v4x3 < 25 ∧ ∀ st11 : St, st11 = up st 36 0 0 ((a2 * a0) + v4x3) (st 36 0 0 ((a2 * a1) + v4x3)) → (0 : Int) ≤ (a2 * a1) + v4x3 ∧ (a2 * a1) + v4x3 < 25 ∧ ∀ st14 : St, st14 = up st11 36 0 0 ((a2 * a1) + v4x3) x6 → ∀ x15 : Int, x15 = v4x3 + 1 → f9_changes_l3 Q a0 a1 a2 n st14 x15))
def f9_changes  (Q : St → Prop) (st : St) (a0 : Int) (a1 : Int) (a2 : Int) : Prop :=
  ∃ k, f9_changes_l3 Q a0 a1 a2 k st 0
def f9_determinant_l73  (B8 : St → Int → Int → Int → Prop) (B61 : St → Int → Prop) (Q : Int → St → Prop) (a0 : Int) (v2x61 : Int) (v4x61 : Int) (v6x61 : Int) (v8x73 : Int) : Nat → St → Int → Prop
  | 0, _, _ => False
  | n + 1, st, v9x73 =>
  inI v9x73 ∧ inI a0 ∧ ((a0 ≤ v9x73 → ∀ x29 : Int, x29 = v8x73 + 1 → B61 st x29) ∧ (¬ a0 ≤ v9x73 → (0 : Int) ≤ (a0 * v8x73) + v9x73 ∧ (a0 * v8x73) + v9x73 < 25 ∧ (0 : Int) ≤ (a0 * v6x61) + v6x61 ∧ (a0 * v6x61) + v6x61 < 25 ∧ (0 : Int) ≤ (a0 * v8x73) + v6x61 ∧ (a0 * v8x73) + v6x61 < 25 ∧ (0 : Int) ≤ (a0 * v6x61) + v9x73 ∧ (a0 * v6x61) + v9x73 < 25 ∧ inL (((st 36 0 0 ((a0 * v8x73) + v9x73)) * (st 36 0 0 ((a0 * v6x61) + v6x61))) - ((st 36 0 0 ((a0 * v8x73) + v6x61)) * (st 36 0 0 ((a0 * v6x61) + v9x73)))) ∧ inL v4x61 ∧ ¬ v4x61 = 0 ∧ (0 : Int) ≤ (a0 * v8x73) + v9x73 ∧ (a0 * v8x73) + v9x73 < 25 ∧ ∀ st43 : St, st43 = up st 36 0 0 ((a0 * v8x73) + v9x73) (Int.tdiv (((st 36 0 0 ((a0 * v8x73) + v9x73)) * (st 36 0 0 ((a0 * v6x61) + v6x61))) - ((st 36 0 0 ((a0 * v8x73) + v6x61)) * (st 36 0 0 ((a0 * v6x61) + v9x73)))) v4x61) → ∀ x44 : Int, x44 = v9x73 + 1 → f9_determinant_l73 B8 B61 Q a0 v2x61 v4x61 v6x61 v8x73 n st43 x44))
def f9_determinant_l61  (B8 : St → Int → Int → Int → Prop) (Q : Int → St → Prop) (a0 : Int) (v2x61 : Int) (v4x61 : Int) (v6x61 : Int) : Nat → St → Int → Prop
  | 0, _, _ => False
  | n + 1, st, v8x61 =>
  inI v8x61 ∧ inI a0 ∧ ((a0 ≤ v8x61 → (0 : Int) ≤ (a0 * v6x61) + v6x61 ∧ (a0 * v6x61) + v6x61 < 25 ∧ ∀ x23 : Int, x23 = st 36 0 0 ((a0 * v6x61) + v6x61) → ∀ x24 : Int, x24 = v6x61 + 1 → B8 st v2x61 x23 x24) ∧ (¬ a0 ≤ v8x61 → ∀ x25 : Int, x25 = v6x61 + 1 → ∃ k, f9_determinant_l73 B8 (fun st v8x61 => f9_determinant_l61 B8 Q a0 v2x61 v4x61 v6x61 n st v8x61) Q a0 v2x61 v4x61 v6x61 v8x61 k st x25))
def f9_determinant_j46  (B8 : St → Int → Int → Int → Prop) (Q : Int → St → Prop) (a0 : Int) (st : St) (v2x46 : Int) (v4x46 : Int) (v6x46 : Int) (v7x46 : Int) : Prop :=
  f9_changes (fun st16 => ∀ x17 : Int, x17 = v6x46 + 1 → ∃ k, f9_determinant_l61 B8 Q a0 v2x46 v4x46 v6x46 k st16 x17) st v6x46 v7x46 a0
def f9_determinant_l8   (Q : Int → St → Prop) (a0 : Int) : Nat → St → Int → Int → Int → Prop
  | 0, _, _, _, _ => False
  | n + 1, st, v2x8, v4x8, v6x8 =>
  inI v6x8 ∧ inI (a0 - 1) ∧ ((a0 - 1 ≤ v6x8 → (0 : Int) ≤ (a0 * a0) - 1 ∧ (a0 * a0) - 1 < 25 ∧ Q (v2x8 * (st 36 0 0 ((a0 * a0) - 1))) st) ∧ (¬ a0 - 1 ≤ v6x8 → f9_pivotOf (fun z6 st7 => inI z6 ∧ inI a0 ∧ ((z6 = a0 → Q 0 st7) ∧ (¬ z6 = a0 → inI z6 ∧ inI v6x8 ∧ ((z6 = v6x8 → f9_determinant_j46 (fun st v2x8 v4x8 v6x8 => f9_determinant_l8 Q a0 n st v2x8 v4x8 v6x8) Q a0 st7 v2x8 v4x8 v6x8 z6) ∧ (¬ z6 = v6x8 → ∀ x14 : Int, x14 = -v2x8 → f9_determinant_j46 (fun st v2x8 v4x8 v6x8 => f9_determinant_l8 Q a0 n st v2x8 v4x8 v6x8) Q a0 st7 x14 v4x8 v6x8 z6))))) st v6x8 a0))
def f9_determinant  (Q : Int → St → Prop) (st : St) (a0 : Int) : Prop :=
  ∃ k, f9_determinant_l8 Q a0 k st 1 1 0
def f9_reckons_j55  (B10 : St → Int → Prop) (B19 : St → Int → Prop) (Q : Int → St → Prop) (a0 : Int) (a1 : Int) (v3x10 : Int) (v4x19 : Int) (st : St) (v5x55 : Int) (s0x55 : Int) (s1x55 : Int) (s3x55 : Int) : Prop :=
  f9_lever (fun z16 st17 => (0 : Int) ≤ s3x55 ∧ s3x55 < 25 ∧ ∀ st20 : St, st20 = up st17 36 0 0 s3x55 z16 → ∀ x21 : Int, x21 = v5x55 + 1 → B19 st20 x21) st s1x55 s0x55
def f9_reckons_l19  (B10 : St → Int → Prop) (Q : Int → St → Prop) (a0 : Int) (a1 : Int) (v3x10 : Int) (v4x19 : Int) : Nat → St → Int → Prop
  | 0, _, _ => False
  | n + 1, st, v5x19 =>
  inI v5x19 ∧ inI v3x10 ∧ ((v3x10 ≤ v5x19 → ∀ x10 : Int, x10 = v4x19 + 1 → B10 st x10) ∧ (¬ v3x10 ≤ v5x19 → inI v5x19 ∧ inI a0 ∧ ((v5x19 = a0 → f9_reckons_j55 B10 (fun st v5x19 => f9_reckons_l19 B10 Q a0 a1 v3x10 v4x19 n st v5x19) Q a0 a1 v3x10 v4x19 st v5x19 a1 v4x19 ((v3x10 * v4x19) + v5x19)) ∧ (¬ v5x19 = a0 → f9_placeOf (fun z14 st15 => f9_reckons_j55 B10 (fun st v5x19 => f9_reckons_l19 B10 Q a0 a1 v3x10 v4x19 n st v5x19) Q a0 a1 v3x10 v4x19 st15 v5x19 z14 v4x19 ((v3x10 * v4x19) + v5x19)) st v5x19))))
def f9_reckons_l10   (Q : Int → St → Prop) (a0 : Int) (a1 : Int) (v3x10 : Int) : Nat → St → Int → Prop
  | 0, _, _ => False
  | n + 1, st, v4x10 =>
  inI v4x10 ∧ inI v3x10 ∧ ((v3x10 ≤ v4x10 → f9_determinant (fun z5 st6 => Q z5 st6) st v3x10) ∧ (¬ v3x10 ≤ v4x10 → ∃ k, f9_reckons_l19 (fun st v4x10 => f9_reckons_l10 Q a0 a1 v3x10 n st v4x10) Q a0 a1 v3x10 v4x10 k st 0))
def f9_reckons  (Q : Int → St → Prop) (st : St) (a0 : Int) (a1 : Int) : Prop :=
  ∀ x1 : Int, x1 = st 30 0 0 2 → ∃ k, f9_reckons_l10 Q a0 a1 x1 k st 0
def f9_isStanding  (Q : Int → St → Prop) (st : St)  : Prop :=
  f9_reckons (fun z1 st2 => inL z1 ∧ ((z1 = 0 → Q 0 st2) ∧ (¬ z1 = 0 → Q 1 st2))) st (-1) 0
def f9_load_j253   (Q : Int → St → Prop)  (st : St)  : Prop :=
  inI (st 9 13 0 0) ∧ ((st 9 13 0 0 = 0 → f9_keeps 1 (fun st70 => Q (st70 30 0 0 2) st70) st) ∧ (¬ st 9 13 0 0 = 0 → Q (st 9 13 0 0) st))
def f9_load_j225   (Q : Int → St → Prop)  (st : St) (s0x225 : Int) : Prop :=
  ∀ st61 : St, st61 = up st 9 15 0 0 s0x225 → ∀ st62 : St, st62 = up st61 9 8 0 0 0 → inI (st62 9 13 0 0) ∧ ((st62 9 13 0 0 = 0 → f9_load_j253 Q st62) ∧ (¬ st62 9 13 0 0 = 0 → f9_copies 0 1 (fun st66 => f9_load_j253 Q st66) st62 0 0))
def f9_load_j209   (Q : Int → St → Prop)  (st : St)  : Prop :=
  inI (st 9 13 0 0) ∧ ((st 9 13 0 0 = 0 → f9_load_j225 Q st (-1)) ∧ (¬ st 9 13 0 0 = 0 → f9_load_j225 Q st (st 9 14 0 0)))
def f9_load_j189   (Q : Int → St → Prop)  (st : St)  : Prop :=
  inI (st 9 13 0 0) ∧ ((st 9 13 0 0 = 0 → f9_isStanding (fun z51 st52 => inI z51 ∧ ((z51 = 0 → f9_fails (fun st56 => f9_load_j209 Q st56) st52 (-7)) ∧ (¬ z51 = 0 → f9_load_j209 Q st52))) st) ∧ (¬ st 9 13 0 0 = 0 → f9_load_j209 Q st))
def f9_load_j183   (Q : Int → St → Prop)  (st : St)  : Prop :=
  f9_fails (fun st58 => f9_load_j189 Q st58) st (-6)
def f9_load_j149   (Q : Int → St → Prop)  (st : St)  : Prop :=
  inI (st 9 13 0 0) ∧ ((st 9 13 0 0 = 0 → inI (st 30 0 0 2) ∧ ((st 30 0 0 2 < 2 → f9_load_j183 Q st) ∧ (¬ st 30 0 0 2 < 2 → inI (st 30 0 0 3) ∧ inI ((st 30 0 0 2) - 2) ∧ ((st 30 0 0 3 = (st 30 0 0 2) - 2 → f9_load_j189 Q st) ∧ (¬ st 30 0 0 3 = (st 30 0 0 2) - 2 → f9_load_j183 Q st))))) ∧ (¬ st 9 13 0 0 = 0 → f9_load_j189 Q st))
def f9_load_l116   (Q : Int → St → Prop)  : Nat → St → Int → Prop
  | 0, _, _ => False
  | n + 1, st, v1x116 =>
  inI v1x116 ∧ ((v1x116 = 0 → inI (st 9 13 0 0) ∧ ((st 9 13 0 0 = 0 → inI (st 9 11 0 0) ∧ ((st 9 11 0 0 = 3 → f9_load_j149 Q st) ∧ (¬ st 9 11 0 0 = 3 → f9_fails (fun st39 => f9_load_j149 Q st39) st (-2)))) ∧ (¬ st 9 13 0 0 = 0 → f9_load_j149 Q st))) ∧ (¬ v1x116 = 0 → f9_readsStatement (fun z40 st41 => f9_load_l116 Q n st41 z40) st))
def f9_load_j115   (Q : Int → St → Prop)  (st : St) (s0x115 : Int) : Prop :=
  ∃ k, f9_load_l116 Q k st s0x115
def f9_load_l30   (Q : Int → St → Prop)  : Nat → St → Int → Prop
  | 0, _, _ => False
  | n + 1, st, v1x30 =>
  inI v1x30 ∧ ((47 ≤ v1x30 → f9_next (fun st9 => f9_isWord 0 (fun z10 st11 => f9_must (fun st13 => f9_takes (fun z14 st15 => ∀ st16 : St, st16 = up st15 30 0 0 0 z14 → f9_isWord 1 (fun z17 st18 => f9_must (fun st20 => f9_takes (fun z21 st22 => ∀ st23 : St, st23 = up st22 30 0 0 1 z21 → f9_mustEnd (fun st25 => inI (st25 9 13 0 0) ∧ ((st25 9 13 0 0 = 0 → f9_load_j115 Q st25 1) ∧ (¬ st25 9 13 0 0 = 0 → f9_load_j115 Q st25 0))) st23) st20 1 999999) st18 z17) st16) st13 2 30) st11 z10) st9) st) ∧ (¬ 47 ≤ v1x30 → (0 : Int) ≤ v1x30 ∧ v1x30 < mlen 0 ∧ ∀ st30 : St, st30 = up st 30 0 0 v1x30 0 → ∀ x31 : Int, x31 = v1x30 + 1 → f9_load_l30 Q n st30 x31))
def f9_load  (Q : Int → St → Prop) (st : St)  : Prop :=
  ∀ st1 : St, st1 = up st 9 6 0 0 0 → ∀ st2 : St, st2 = up st1 9 10 0 0 0 → ∀ st3 : St, st3 = up st2 9 13 0 0 0 → f9_copies 1 0 (fun st5 => ∃ k, f9_load_l30 Q k st5 0) st3 0 0
def f9_errorPosition  (Q : Int → St → Prop) (st : St)  : Prop :=
  ∀ st1 : St, st1 = up st 9 6 0 0 0 → Q (st1 9 15 0 0) st1
def f9_bearsOf  (Q : Int → St → Prop) (st : St) (a0 : Int) : Prop :=
  (0 : Int) ≤ (6 + (2 * a0)) + 1 ∧ (6 + (2 * a0)) + 1 < mlen 0 ∧ Q (st 30 0 0 ((6 + (2 * a0)) + 1)) st
def f9_dropsSupport_l17   (Q : St → Prop)  : Nat → St → Int → Prop
  | 0, _, _ => False
  | n + 1, st, v2x17 =>
  inI v2x17 ∧ inI (6 + (2 * (st 30 0 0 2))) ∧ ((6 + (2 * (st 30 0 0 2)) ≤ v2x17 → Q st) ∧ (¬ 6 + (2 * (st 30 0 0 2)) ≤ v2x17 → (0 : Int) ≤ v2x17 + 2 ∧ v2x17 + 2 < mlen 0 ∧ (0 : Int) ≤ v2x17 ∧ v2x17 < mlen 0 ∧ ∀ st10 : St, st10 = up st 30 0 0 v2x17 (st 30 0 0 (v2x17 + 2)) → ∀ x11 : Int, x11 = v2x17 + 1 → f9_dropsSupport_l17 Q n st10 x11))
def f9_dropsSupport  (Q : St → Prop) (st : St) (a0 : Int) : Prop :=
  ∀ st1 : St, st1 = up st 30 0 0 2 ((st 30 0 0 2) - 1) → ∀ x2 : Int, x2 = 6 + (2 * a0) → ∃ k, f9_dropsSupport_l17 Q k st1 x2
def f9_dropsHinge_l12   (Q : St → Prop)  : Nat → St → Int → Prop
  | 0, _, _ => False
  | n + 1, st, v2x12 =>
  inI v2x12 ∧ inI (st 30 0 0 3) ∧ ((st 30 0 0 3 ≤ v2x12 → Q st) ∧ (¬ st 30 0 0 3 ≤ v2x12 → (0 : Int) ≤ (16 + v2x12) + 1 ∧ (16 + v2x12) + 1 < mlen 0 ∧ (0 : Int) ≤ 16 + v2x12 ∧ 16 + v2x12 < mlen 0 ∧ ∀ st9 : St, st9 = up st 30 0 0 (16 + v2x12) (st 30 0 0 ((16 + v2x12) + 1)) → ∀ x10 : Int, x10 = v2x12 + 1 → f9_dropsHinge_l12 Q n st9 x10))
def f9_dropsHinge  (Q : St → Prop) (st : St) (a0 : Int) : Prop :=
  ∀ st1 : St, st1 = up st 30 0 0 3 ((st 30 0 0 3) - 1) → ∃ k, f9_dropsHinge_l12 Q k st1 a0
def f9_common_l28   (Q : Int → St → Prop)  : Nat → St → Int → Int → Prop
  | 0, _, _, _ => False
  | n + 1, st, v4x28, v6x28 =>
  inL v6x28 ∧ ((v6x28 = 0 → Q v4x28 st) ∧ (¬ v6x28 = 0 → inL v4x28 ∧ inL v6x28 ∧ ¬ v6x28 = 0 ∧ ∀ x10 : Int, x10 = Int.tmod v4x28 v6x28 → f9_common_l28 Q n st v6x28 x10))
def f9_common_j26   (Q : Int → St → Prop)  (st : St) (v4x26 : Int) (s0x26 : Int) : Prop :=
  ∃ k, f9_common_l28 Q k st v4x26 s0x26
def f9_common_j12   (Q : Int → St → Prop) (a1 : Int) (st : St) (s0x12 : Int) : Prop :=
  inL a1 ∧ ((0 ≤ a1 → f9_common_j26 Q st s0x12 a1) ∧ (¬ 0 ≤ a1 → f9_common_j26 Q st s0x12 (-a1)))
def f9_common  (Q : Int → St → Prop) (st : St) (a0 : Int) (a1 : Int) : Prop :=
  inL a0 ∧ ((0 ≤ a0 → f9_common_j12 Q a1 st a0) ∧ (¬ 0 ≤ a0 → f9_common_j12 Q a1 st (-a0)))
def f9_places  (Q : Int → St → Prop) (st : St)  : Prop :=
  Q ((st 30 0 0 0) + 1) st
def f9_lays_l91   (Q : St → Prop) (v1x91 : Int) (v3x91 : Int) : Nat → St → Int → Prop
  | 0, _, _ => False
  | n + 1, st, v5x91 =>
  inI v5x91 ∧ inI (31 * (st 30 0 0 2)) ∧ ((31 * (st 30 0 0 2) ≤ v5x91 → inL v1x91 ∧ inL v3x91 ∧ ¬ v3x91 = 0 ∧ ∀ st29 : St, st29 = up st 9 18 0 0 (Int.tdiv v1x91 v3x91) → Q st29) ∧ (¬ 31 * (st 30 0 0 2) ≤ v5x91 → (0 : Int) ≤ v5x91 ∧ v5x91 < 155 ∧ inL (st 37 0 0 v5x91) ∧ inL v3x91 ∧ ¬ v3x91 = 0 ∧ (0 : Int) ≤ v5x91 ∧ v5x91 < 155 ∧ ∀ st37 : St, st37 = up st 37 0 0 v5x91 (Int.tdiv (st 37 0 0 v5x91) v3x91) → ∀ x38 : Int, x38 = v5x91 + 1 → f9_lays_l91 Q v1x91 v3x91 n st37 x38))
def f9_lays_j88   (Q : St → Prop)  (st : St) (v1x88 : Int) (v3x88 : Int) : Prop :=
  ∃ k, f9_lays_l91 Q v1x88 v3x88 k st 0
def f9_lays_l26  (B12 : St → Int → Int → Prop) (Q : St → Prop) (v1x12 : Int) (v5x26 : Int) : Nat → St → Int → Int → Prop
  | 0, _, _, _ => False
  | n + 1, st, v3x26, v6x26 =>
  f9_places (fun z9 st10 => inI v6x26 ∧ inI z9 ∧ ((z9 ≤ v6x26 → ∀ x14 : Int, x14 = v5x26 + 1 → B12 st10 v3x26 x14) ∧ (¬ z9 ≤ v6x26 → f9_reckons (fun z15 st16 => (0 : Int) ≤ (31 * v5x26) + v6x26 ∧ (31 * v5x26) + v6x26 < 155 ∧ ∀ st19 : St, st19 = up st16 37 0 0 ((31 * v5x26) + v6x26) z15 → f9_common (fun z20 st21 => ∀ x22 : Int, x22 = v6x26 + 1 → f9_lays_l26 B12 Q v1x12 v5x26 n st21 z20 x22) st19 v3x26 z15) st10 v5x26 v6x26))) st
def f9_lays_l12   (Q : St → Prop) (v1x12 : Int) : Nat → St → Int → Int → Prop
  | 0, _, _, _ => False
  | n + 1, st, v3x12, v5x12 =>
  inI v5x12 ∧ inI (st 30 0 0 2) ∧ ((st 30 0 0 2 ≤ v5x12 → inL v1x12 ∧ ((0 ≤ v1x12 → f9_lays_j88 Q st v1x12 v3x12) ∧ (¬ 0 ≤ v1x12 → ∀ x8 : Int, x8 = -v3x12 → f9_lays_j88 Q st v1x12 x8))) ∧ (¬ st 30 0 0 2 ≤ v5x12 → ∃ k, f9_lays_l26 (fun st v3x12 v5x12 => f9_lays_l12 Q v1x12 n st v3x12 v5x12) Q v1x12 v5x12 k st v3x12 0))
def f9_lays  (Q : St → Prop) (st : St)  : Prop :=
  f9_reckons (fun z1 st2 => ∃ k, f9_lays_l12 Q z1 k st2 z1 0) st (-1) 0
def f9_reactionBy  (Q : Int → St → Prop) (st : St) (a0 : Int) (a1 : Int) : Prop :=
  (0 : Int) ≤ (31 * a0) + a1 ∧ (31 * a0) + a1 < 155 ∧ Q (st 37 0 0 ((31 * a0) + a1)) st
def f9_shearBy_j51  (B18 : St → Int → Int → Prop) (Q : Int → St → Prop) (a0 : Int) (a1 : Int) (st : St) (v5x51 : Int) (s0x51 : Int) (s1x51 : Int) : Prop :=
  ∀ x14 : Int, x14 = s1x51 + s0x51 → ∀ x15 : Int, x15 = v5x51 + 1 → B18 st x14 x15
def f9_shearBy_l18   (Q : Int → St → Prop) (a0 : Int) (a1 : Int) : Nat → St → Int → Int → Prop
  | 0, _, _, _ => False
  | n + 1, st, v3x18, v5x18 =>
  inI v5x18 ∧ inI (st 30 0 0 2) ∧ ((st 30 0 0 2 ≤ v5x18 → Q v3x18 st) ∧ (¬ st 30 0 0 2 ≤ v5x18 → f9_placeOf (fun z7 st8 => inI z7 ∧ inI a0 ∧ ((a0 < z7 → f9_shearBy_j51 (fun st v3x18 v5x18 => f9_shearBy_l18 Q a0 a1 n st v3x18 v5x18) Q a0 a1 st8 v5x18 0 v3x18) ∧ (¬ a0 < z7 → f9_reactionBy (fun z12 st13 => f9_shearBy_j51 (fun st v3x18 v5x18 => f9_shearBy_l18 Q a0 a1 n st v3x18 v5x18) Q a0 a1 st13 v5x18 z12 v3x18) st8 v5x18 a1))) st v5x18))
def f9_shearBy_j14   (Q : Int → St → Prop) (a0 : Int) (a1 : Int) (st : St) (s0x14 : Int) : Prop :=
  ∃ k, f9_shearBy_l18 Q a0 a1 k st s0x14 0
def f9_shearBy  (Q : Int → St → Prop) (st : St) (a0 : Int) (a1 : Int) : Prop :=
  inI a1 ∧ inI a0 ∧ ((a0 < a1 → f9_shearBy_j14 Q a0 a1 st 0) ∧ (¬ a0 < a1 → f9_shearBy_j14 Q a0 a1 st (-(st 9 18 0 0))))
def f9_momentBy_j66  (B23 : St → Int → Int → Prop) (Q : Int → St → Prop) (a0 : Int) (a1 : Int) (st : St) (v5x66 : Int) (s0x66 : Int) (s1x66 : Int) : Prop :=
  ∀ x18 : Int, x18 = s1x66 + s0x66 → ∀ x19 : Int, x19 = v5x66 + 1 → B23 st x18 x19
def f9_momentBy_l23   (Q : Int → St → Prop) (a0 : Int) (a1 : Int) : Nat → St → Int → Int → Prop
  | 0, _, _, _ => False
  | n + 1, st, v3x23, v5x23 =>
  inI v5x23 ∧ inI (st 30 0 0 2) ∧ ((st 30 0 0 2 ≤ v5x23 → Q v3x23 st) ∧ (¬ st 30 0 0 2 ≤ v5x23 → f9_placeOf (fun z8 st9 => inI z8 ∧ inI a0 ∧ ((a0 ≤ z8 → f9_momentBy_j66 (fun st v3x23 v5x23 => f9_momentBy_l23 Q a0 a1 n st v3x23 v5x23) Q a0 a1 st9 v5x23 0 v3x23) ∧ (¬ a0 ≤ z8 → f9_reactionBy (fun z13 st14 => f9_placeOf (fun z15 st16 => inI (a0 - z15) ∧ f9_momentBy_j66 (fun st v3x23 v5x23 => f9_momentBy_l23 Q a0 a1 n st v3x23 v5x23) Q a0 a1 st16 v5x23 (z13 * (a0 - z15)) v3x23) st14 v5x23) st9 v5x23 a1))) st v5x23))
def f9_momentBy_j19   (Q : Int → St → Prop) (a0 : Int) (a1 : Int) (st : St) (s0x19 : Int) : Prop :=
  ∃ k, f9_momentBy_l23 Q a0 a1 k st s0x19 0
def f9_momentBy  (Q : Int → St → Prop) (st : St) (a0 : Int) (a1 : Int) : Prop :=
  inI a1 ∧ inI a0 ∧ ((a0 ≤ a1 → f9_momentBy_j19 Q a0 a1 st 0) ∧ (¬ a0 ≤ a1 → inI (a0 - a1) ∧ f9_momentBy_j19 Q a0 a1 st ((-(st 9 18 0 0)) * (a0 - a1))))
def f9_rightBy_j66  (B23 : St → Int → Int → Prop) (Q : Int → St → Prop) (a0 : Int) (a1 : Int) (st : St) (v5x66 : Int) (s0x66 : Int) (s1x66 : Int) : Prop :=
  ∀ x18 : Int, x18 = s1x66 + s0x66 → ∀ x19 : Int, x19 = v5x66 + 1 → B23 st x18 x19
def f9_rightBy_l23   (Q : Int → St → Prop) (a0 : Int) (a1 : Int) : Nat → St → Int → Int → Prop
  | 0, _, _, _ => False
  | n + 1, st, v3x23, v5x23 =>
  inI v5x23 ∧ inI (st 30 0 0 2) ∧ ((st 30 0 0 2 ≤ v5x23 → Q v3x23 st) ∧ (¬ st 30 0 0 2 ≤ v5x23 → f9_placeOf (fun z8 st9 => inI z8 ∧ inI a0 ∧ ((z8 ≤ a0 → f9_rightBy_j66 (fun st v3x23 v5x23 => f9_rightBy_l23 Q a0 a1 n st v3x23 v5x23) Q a0 a1 st9 v5x23 0 v3x23) ∧ (¬ z8 ≤ a0 → f9_reactionBy (fun z13 st14 => f9_placeOf (fun z15 st16 => inI (z15 - a0) ∧ f9_rightBy_j66 (fun st v3x23 v5x23 => f9_rightBy_l23 Q a0 a1 n st v3x23 v5x23) Q a0 a1 st16 v5x23 (z13 * (z15 - a0)) v3x23) st14 v5x23) st9 v5x23 a1))) st v5x23))
def f9_rightBy_j19   (Q : Int → St → Prop) (a0 : Int) (a1 : Int) (st : St) (s0x19 : Int) : Prop :=
  ∃ k, f9_rightBy_l23 Q a0 a1 k st s0x19 0
def f9_rightBy  (Q : Int → St → Prop) (st : St) (a0 : Int) (a1 : Int) : Prop :=
  inI a1 ∧ inI a0 ∧ ((a1 ≤ a0 → f9_rightBy_j19 Q a0 a1 st 0) ∧ (¬ a1 ≤ a0 → inI (a1 - a0) ∧ f9_rightBy_j19 Q a0 a1 st ((-(st 9 18 0 0)) * (a1 - a0))))
def f9_weights_l5   (Q : Int → St → Prop) (a0 : Int) (a1 : Int) : Nat → St → Int → Int → Prop
  | 0, _, _, _ => False
  | n + 1, st, v3x5, v4x5 =>
  inI v4x5 ∧ inI a1 ∧ ((a1 ≤ v4x5 → Q v3x5 st) ∧ (¬ a1 ≤ v4x5 → (0 : Int) ≤ a0 + (2 * v4x5) ∧ a0 + (2 * v4x5) < mlen 0 ∧ ∀ x6 : Int, x6 = v3x5 + (st 30 0 0 (a0 + (2 * v4x5))) → ∀ x7 : Int, x7 = v4x5 + 1 → f9_weights_l5 Q a0 a1 n st x6 x7))
def f9_weights  (Q : Int → St → Prop) (st : St) (a0 : Int) (a1 : Int) : Prop :=
  ∃ k, f9_weights_l5 Q a0 a1 k st 0 0
def f9_lastHead_l15   (Q : Int → St → Prop)  : Nat → St → Int → Int → Prop
  | 0, _, _, _ => False
  | n + 1, st, v1x15, v2x15 =>
  inI v2x15 ∧ inI (st 30 0 0 5) ∧ ((st 30 0 0 5 ≤ v2x15 → Q ((st 30 0 0 0) + v1x15) st) ∧ (¬ st 30 0 0 5 ≤ v2x15 → (0 : Int) ≤ (35 + (2 * v2x15)) + 1 ∧ (35 + (2 * v2x15)) + 1 < mlen 0 ∧ inI v1x15 ∧ inI (st 30 0 0 ((35 + (2 * v2x15)) + 1)) ∧ ∀ x10 : Int, x10 = imax v1x15 (st 30 0 0 ((35 + (2 * v2x15)) + 1)) → ∀ x11 : Int, x11 = v2x15 + 1 → f9_lastHead_l15 Q n st x10 x11))
def f9_lastHead  (Q : Int → St → Prop) (st : St)  : Prop :=
  inI (st 30 0 0 5) ∧ ((st 30 0 0 5 = 0 → Q 0 st) ∧ (¬ st 30 0 0 5 = 0 → ∃ k, f9_lastHead_l15 Q k st 0 0))
def f9_count_j16   (Q : Int → St → Prop) (a0 : Int) (st : St) (s0x16 : Int) : Prop :=
  ∀ st5 : St, st5 = up st 9 6 0 0 s0x16 → inI (st5 9 6 0 0) ∧ ((st5 9 6 0 0 ≤ 0 → inI a0 ∧ ((a0 = 0 → Q (st5 30 0 0 0) st5) ∧ (a0 = 1 → Q (st5 30 0 0 2) st5) ∧ (a0 = 2 → Q (st5 30 0 0 3) st5) ∧ (a0 = 3 → Q (st5 30 0 0 4) st5) ∧ (a0 = 4 → Q (st5 30 0 0 5) st5) ∧ (a0 = 5 → Q (st5 30 0 0 1) st5) ∧ (a0 = 6 → f9_weights (fun z9 st10 => Q z9 st10) st5 19 (st5 30 0 0 4)) ∧ (a0 = 7 → f9_weights (fun z11 st12 => Q z11 st12) st5 35 (st5 30 0 0 5)) ∧ (a0 < 0 ∨ 7 < a0 → f9_lastHead (fun z13 st14 => Q z13 st14) st5))) ∧ (¬ st5 9 6 0 0 ≤ 0 → Q 0 st5))
def f9_count  (Q : Int → St → Prop) (st : St) (a0 : Int) : Prop :=
  f9_isIn (fun z1 st2 => inI z1 ∧ ((z1 = 0 → f9_count_j16 Q a0 st2 1) ∧ (¬ z1 = 0 → f9_count_j16 Q a0 st2 0))) st a0 0 8
def f9_unit  (Q : Int → St → Prop) (st : St)  : Prop :=
  ∀ st1 : St, st1 = up st 9 6 0 0 0 → f9_lays (fun st3 => Q (st3 9 18 0 0) st3) st1
def f9_isSupport  (Q : Int → St → Prop) (st : St) (a0 : Int) : Prop :=
  f9_isIn (fun z1 st2 => (z1 = 0 ∨ z1 = 1) ∧ Q z1 st2) st a0 0 ((st 30 0 0 2) - 1)
def f9_isHinge  (Q : Int → St → Prop) (st : St) (a0 : Int) : Prop :=
  f9_isIn (fun z1 st2 => (z1 = 0 ∨ z1 = 1) ∧ Q z1 st2) st a0 0 ((st 30 0 0 3) - 1)
def f9_isPlace  (Q : Int → St → Prop) (st : St) (a0 : Int) : Prop :=
  f9_isIn (fun z1 st2 => (z1 = 0 ∨ z1 = 1) ∧ Q z1 st2) st a0 0 (st 30 0 0 0)
def f9_isField  (Q : Int → St → Prop) (st : St) (a0 : Int) : Prop :=
  f9_isIn (fun z1 st2 => (z1 = 0 ∨ z1 = 1) ∧ Q z1 st2) st a0 0 ((st 30 0 0 0) - 1)
def f9_support_j27   (Q : Int → St → Prop) (a0 : Int) (a1 : Int) (st : St) (s0x27 : Int) : Prop :=
  ∀ st9 : St, st9 = up st 9 6 0 0 s0x27 → inI (st9 9 6 0 0) ∧ ((st9 9 6 0 0 ≤ 0 → (0 : Int) ≤ (6 + (2 * a0)) + a1 ∧ (6 + (2 * a0)) + a1 < mlen 0 ∧ Q (st9 30 0 0 ((6 + (2 * a0)) + a1)) st9) ∧ (¬ st9 9 6 0 0 ≤ 0 → Q 0 st9))
def f9_support  (Q : Int → St → Prop) (st : St) (a0 : Int) (a1 : Int) : Prop :=
  f9_isSupport (fun z1 st2 => inI z1 ∧ ((z1 = 0 → f9_support_j27 Q a0 a1 st2 1) ∧ (¬ z1 = 0 → f9_isIn (fun z5 st6 => inI z5 ∧ ((z5 = 0 → f9_support_j27 Q a0 a1 st6 2) ∧ (¬ z5 = 0 → f9_support_j27 Q a0 a1 st6 0))) st2 a1 0 1))) st a0
def f9_hinge_j14   (Q : Int → St → Prop) (a0 : Int) (st : St) (s0x14 : Int) : Prop :=
  ∀ st5 : St, st5 = up st 9 6 0 0 s0x14 → inI (st5 9 6 0 0) ∧ ((st5 9 6 0 0 ≤ 0 → (0 : Int) ≤ 16 + a0 ∧ 16 + a0 < mlen 0 ∧ Q (st5 30 0 0 (16 + a0)) st5) ∧ (¬ st5 9 6 0 0 ≤ 0 → Q 0 st5))
def f9_hinge  (Q : Int → St → Prop) (st : St) (a0 : Int) : Prop :=
  f9_isHinge (fun z1 st2 => inI z1 ∧ ((z1 = 0 → f9_hinge_j14 Q a0 st2 1) ∧ (¬ z1 = 0 → f9_hinge_j14 Q a0 st2 0))) st a0
def f9_weight_j35   (Q : Int → St → Prop) (a0 : Int) (a1 : Int) (st : St) (s0x35 : Int) : Prop :=
  ∀ st9 : St, st9 = up st 9 6 0 0 s0x35 → inI (st9 9 6 0 0) ∧ ((st9 9 6 0 0 ≤ 0 → (0 : Int) ≤ (19 + (2 * a0)) + a1 ∧ (19 + (2 * a0)) + a1 < mlen 0 ∧ Q (st9 30 0 0 ((19 + (2 * a0)) + a1)) st9) ∧ (¬ st9 9 6 0 0 ≤ 0 → Q 0 st9))
def f9_weight  (Q : Int → St → Prop) (st : St) (a0 : Int) (a1 : Int) : Prop :=
  f9_isIn (fun z1 st2 => inI z1 ∧ ((z1 = 0 → f9_weight_j35 Q a0 a1 st2 1) ∧ (¬ z1 = 0 → f9_isIn (fun z5 st6 => inI z5 ∧ ((z5 = 0 → f9_weight_j35 Q a0 a1 st6 2) ∧ (¬ z5 = 0 → f9_weight_j35 Q a0 a1 st6 0))) st2 a1 0 1))) st a0 0 ((st 30 0 0 4) - 1)
def f9_axle_j35   (Q : Int → St → Prop) (a0 : Int) (a1 : Int) (st : St) (s0x35 : Int) : Prop :=
  ∀ st9 : St, st9 = up st 9 6 0 0 s0x35 → inI (st9 9 6 0 0) ∧ ((st9 9 6 0 0 ≤ 0 → (0 : Int) ≤ (35 + (2 * a0)) + a1 ∧ (35 + (2 * a0)) + a1 < mlen 0 ∧ Q (st9 30 0 0 ((35 + (2 * a0)) + a1)) st9) ∧ (¬ st9 9 6 0 0 ≤ 0 → Q 0 st9))
def f9_axle  (Q : Int → St → Prop) (st : St) (a0 : Int) (a1 : Int) : Prop :=
  f9_isIn (fun z1 st2 => inI z1 ∧ ((z1 = 0 → f9_axle_j35 Q a0 a1 st2 1) ∧ (¬ z1 = 0 → f9_isIn (fun z5 st6 => inI z5 ∧ ((z5 = 0 → f9_axle_j35 Q a0 a1 st6 2) ∧ (¬ z5 = 0 → f9_axle_j35 Q a0 a1 st6 0))) st2 a1 0 1))) st a0 0 ((st 30 0 0 5) - 1)
def f9_part_j59  (B30 : St → Int → Int → Prop) (Q : Int → St → Prop) (a0 : Int) (st : St) (v3x59 : Int) (s0x59 : Int) (s1x59 : Int) : Prop :=
  ∀ x16 : Int, x16 = s1x59 + s0x59 → ∀ x17 : Int, x17 = v3x59 + 1 → B30 st x16 x17
def f9_part_l30   (Q : Int → St → Prop) (a0 : Int) : Nat → St → Int → Int → Prop
  | 0, _, _, _ => False
  | n + 1, st, v2x30, v3x30 =>
  inI v3x30 ∧ inI (st 30 0 0 3) ∧ ((st 30 0 0 3 ≤ v3x30 → Q v2x30 st) ∧ (¬ st 30 0 0 3 ≤ v3x30 → (0 : Int) ≤ 16 + v3x30 ∧ 16 + v3x30 < mlen 0 ∧ inI (st 30 0 0 (16 + v3x30)) ∧ inI a0 ∧ ((a0 < st 30 0 0 (16 + v3x30) → f9_part_j59 (fun st v2x30 v3x30 => f9_part_l30 Q a0 n st v2x30 v3x30) Q a0 st v3x30 0 v2x30) ∧ (¬ a0 < st 30 0 0 (16 + v3x30) → f9_part_j59 (fun st v2x30 v3x30 => f9_part_l30 Q a0 n st v2x30 v3x30) Q a0 st v3x30 1 v2x30))))
def f9_part_j14   (Q : Int → St → Prop) (a0 : Int) (st : St) (s0x14 : Int) : Prop :=
  ∀ st5 : St, st5 = up st 9 6 0 0 s0x14 → inI (st5 9 6 0 0) ∧ ((st5 9 6 0 0 ≤ 0 → ∃ k, f9_part_l30 Q a0 k st5 0 0) ∧ (¬ st5 9 6 0 0 ≤ 0 → Q 0 st5))
def f9_part  (Q : Int → St → Prop) (st : St) (a0 : Int) : Prop :=
  f9_isPlace (fun z1 st2 => inI z1 ∧ ((z1 = 0 → f9_part_j14 Q a0 st2 1) ∧ (¬ z1 = 0 → f9_part_j14 Q a0 st2 0))) st a0
def f9_reactionLine_j22   (Q : Int → St → Prop) (a0 : Int) (a1 : Int) (st : St) (s0x22 : Int) : Prop :=
  ∀ st9 : St, st9 = up st 9 6 0 0 s0x22 → inI (st9 9 6 0 0) ∧ ((st9 9 6 0 0 ≤ 0 → f9_lays (fun st13 => f9_reactionBy (fun z14 st15 => Q z14 st15) st13 a0 a1) st9) ∧ (¬ st9 9 6 0 0 ≤ 0 → Q 0 st9))
def f9_reactionLine_j21   (Q : Int → St → Prop) (a0 : Int) (a1 : Int) (st : St)  : Prop :=
  f9_reactionLine_j22 Q a0 a1 st 1
def f9_reactionLine  (Q : Int → St → Prop) (st : St) (a0 : Int) (a1 : Int) : Prop :=
  f9_isSupport (fun z1 st2 => inI z1 ∧ ((z1 = 0 → f9_reactionLine_j21 Q a0 a1 st2) ∧ (¬ z1 = 0 → f9_isPlace (fun z5 st6 => inI z5 ∧ ((z5 = 0 → f9_reactionLine_j21 Q a0 a1 st6) ∧ (¬ z5 = 0 → f9_reactionLine_j22 Q a0 a1 st6 0))) st2 a1))) st a0
def f9_shearLine_j22   (Q : Int → St → Prop) (a0 : Int) (a1 : Int) (st : St) (s0x22 : Int) : Prop :=
  ∀ st9 : St, st9 = up st 9 6 0 0 s0x22 → inI (st9 9 6 0 0) ∧ ((st9 9 6 0 0 ≤ 0 → f9_lays (fun st13 => f9_shearBy (fun z14 st15 => Q z14 st15) st13 a0 a1) st9) ∧ (¬ st9 9 6 0 0 ≤ 0 → Q 0 st9))
def f9_shearLine_j21   (Q : Int → St → Prop) (a0 : Int) (a1 : Int) (st : St)  : Prop :=
  f9_shearLine_j22 Q a0 a1 st 1
def f9_shearLine  (Q : Int → St → Prop) (st : St) (a0 : Int) (a1 : Int) : Prop :=
  f9_isField (fun z1 st2 => inI z1 ∧ ((z1 = 0 → f9_shearLine_j21 Q a0 a1 st2) ∧ (¬ z1 = 0 → f9_isPlace (fun z5 st6 => inI z5 ∧ ((z5 = 0 → f9_shearLine_j21 Q a0 a1 st6) ∧ (¬ z5 = 0 → f9_shearLine_j22 Q a0 a1 st6 0))) st2 a1))) st a0
def f9_momentLine_j22   (Q : Int → St → Prop) (a0 : Int) (a1 : Int) (st : St) (s0x22 : Int) : Prop :=
  ∀ st9 : St, st9 = up st 9 6 0 0 s0x22 → inI (st9 9 6 0 0) ∧ ((st9 9 6 0 0 ≤ 0 → f9_lays (fun st13 => f9_momentBy (fun z14 st15 => Q z14 st15) st13 a0 a1) st9) ∧ (¬ st9 9 6 0 0 ≤ 0 → Q 0 st9))
def f9_momentLine_j21   (Q : Int → St → Prop) (a0 : Int) (a1 : Int) (st : St)  : Prop :=
  f9_momentLine_j22 Q a0 a1 st 1
def f9_momentLine  (Q : Int → St → Prop) (st : St) (a0 : Int) (a1 : Int) : Prop :=
  f9_isPlace (fun z1 st2 => inI z1 ∧ ((z1 = 0 → f9_momentLine_j21 Q a0 a1 st2) ∧ (¬ z1 = 0 → f9_isPlace (fun z5 st6 => inI z5 ∧ ((z5 = 0 → f9_momentLine_j21 Q a0 a1 st6) ∧ (¬ z5 = 0 → f9_momentLine_j22 Q a0 a1 st6 0))) st2 a1))) st a0
def f9_area_l35   (Q : Int → St → Prop) (a0 : Int) : Nat → St → Int → Int → Prop
  | 0, _, _, _ => False
  | n + 1, st, v2x35, v4x35 =>
  f9_places (fun z10 st11 => inI v4x35 ∧ inI z10 ∧ ((z10 ≤ v4x35 → Q v2x35 st11) ∧ (¬ z10 ≤ v4x35 → f9_momentBy (fun z15 st16 => ∀ x17 : Int, x17 = v2x35 + z15 → ∀ x18 : Int, x18 = v4x35 + 1 → f9_area_l35 Q a0 n st16 x17 x18) st11 a0 v4x35))) st
def f9_area_j14   (Q : Int → St → Prop) (a0 : Int) (st : St) (s0x14 : Int) : Prop :=
  ∀ st5 : St, st5 = up st 9 6 0 0 s0x14 → inI (st5 9 6 0 0) ∧ ((st5 9 6 0 0 ≤ 0 → f9_lays (fun st9 => ∃ k, f9_area_l35 Q a0 k st9 0 0) st5) ∧ (¬ st5 9 6 0 0 ≤ 0 → Q 0 st5))
def f9_area  (Q : Int → St → Prop) (st : St) (a0 : Int) : Prop :=
  f9_isPlace (fun z1 st2 => inI z1 ∧ ((z1 = 0 → f9_area_j14 Q a0 st2 1) ∧ (¬ z1 = 0 → f9_area_j14 Q a0 st2 0))) st a0
def f9_still_j61  (B34 : St → Int → Int → Prop) (Q : Int → St → Prop) (a0 : Int) (st : St) (v3x61 : Int) (s0x61 : Int) (s1x61 : Int) : Prop :=
  ∀ x19 : Int, x19 = ior s1x61 s0x61 → ∀ x20 : Int, x20 = v3x61 + 1 → B34 st x19 x20
def f9_still_l34   (Q : Int → St → Prop) (a0 : Int) : Nat → St → Int → Int → Prop
  | 0, _, _, _ => False
  | n + 1, st, v2x34, v3x34 =>
  f9_places (fun z10 st11 => inI v3x34 ∧ inI z10 ∧ ((z10 ≤ v3x34 → Q v2x34 st11) ∧ (¬ z10 ≤ v3x34 → f9_momentBy (fun z15 st16 => inL z15 ∧ ((z15 = 0 → f9_still_j61 (fun st v2x34 v3x34 => f9_still_l34 Q a0 n st v2x34 v3x34) Q a0 st16 v3x34 (ishl 1 v3x34) v2x34) ∧ (¬ z15 = 0 → f9_still_j61 (fun st v2x34 v3x34 => f9_still_l34 Q a0 n st v2x34 v3x34) Q a0 st16 v3x34 0 v2x34))) st11 a0 v3x34))) st
def f9_still_j14   (Q : Int → St → Prop) (a0 : Int) (st : St) (s0x14 : Int) : Prop :=
  ∀ st5 : St, st5 = up st 9 6 0 0 s0x14 → inI (st5 9 6 0 0) ∧ ((st5 9 6 0 0 ≤ 0 → f9_lays (fun st9 => ∃ k, f9_still_l34 Q a0 k st9 0 0) st5) ∧ (¬ st5 9 6 0 0 ≤ 0 → Q 0 st5))
def f9_still  (Q : Int → St → Prop) (st : St) (a0 : Int) : Prop :=
  f9_isPlace (fun z1 st2 => inI z1 ∧ ((z1 = 0 → f9_still_j14 Q a0 st2 1) ∧ (¬ z1 = 0 → f9_still_j14 Q a0 st2 0))) st a0
def f9_gap_j22   (Q : Int → St → Prop) (a0 : Int) (a1 : Int) (st : St) (s0x22 : Int) : Prop :=
  ∀ st9 : St, st9 = up st 9 6 0 0 s0x22 → inI (st9 9 6 0 0) ∧ ((st9 9 6 0 0 ≤ 0 → f9_lays (fun st13 => f9_momentBy (fun z14 st15 => f9_rightBy (fun z16 st17 => Q (z14 - z16) st17) st15 a0 a1) st13 a0 a1) st9) ∧ (¬ st9 9 6 0 0 ≤ 0 → Q 0 st9))
def f9_gap_j21   (Q : Int → St → Prop) (a0 : Int) (a1 : Int) (st : St)  : Prop :=
  f9_gap_j22 Q a0 a1 st 1
def f9_gap  (Q : Int → St → Prop) (st : St) (a0 : Int) (a1 : Int) : Prop :=
  f9_isPlace (fun z1 st2 => inI z1 ∧ ((z1 = 0 → f9_gap_j21 Q a0 a1 st2) ∧ (¬ z1 = 0 → f9_isPlace (fun z5 st6 => inI z5 ∧ ((z5 = 0 → f9_gap_j21 Q a0 a1 st6) ∧ (¬ z5 = 0 → f9_gap_j22 Q a0 a1 st6 0))) st2 a1))) st a0
def f9_by  (Q : Int → St → Prop) (st : St) (a0 : Int) (a1 : Int) (a2 : Int) : Prop :=
  inI a0 ∧ ((a0 = 0 → f9_reactionBy (fun z9 st10 => Q z9 st10) st a1 a2) ∧ (¬ a0 = 0 → inI a0 ∧ ((a0 = 1 → f9_shearBy (fun z7 st8 => Q z7 st8) st a1 a2) ∧ (¬ a0 = 1 → f9_momentBy (fun z5 st6 => Q z5 st6) st a1 a2))))
def f9_isOn  (Q : Int → St → Prop) (st : St) (a0 : Int) (a1 : Int) : Prop :=
  inI a1 ∧ ((a1 = (-1) → Q 0 st) ∧ (¬ a1 = (-1) → (0 : Int) ≤ (35 + (2 * a0)) + 1 ∧ (35 + (2 * a0)) + 1 < mlen 0 ∧ f9_isPlace (fun z5 st6 => inI z5 ∧ ((z5 = 0 → Q 0 st6) ∧ (¬ z5 = 0 → Q 1 st6))) st (a1 - (st 30 0 0 ((35 + (2 * a0)) + 1)))))
def f9_all_j127  (B65 : St → Int → Int → Prop) (Q : Int → St → Prop) (a0 : Int) (a1 : Int) (a2 : Int) (st : St) (v4x127 : Int) (v6x127 : Int) : Prop :=
  ∀ x28 : Int, x28 = v6x127 + 1 → B65 st v4x127 x28
def f9_all_l65   (Q : Int → St → Prop) (a0 : Int) (a1 : Int) (a2 : Int) : Nat → St → Int → Int → Prop
  | 0, _, _, _ => False
  | n + 1, st, v4x65, v6x65 =>
  inI v6x65 ∧ inI (st 30 0 0 5) ∧ ((st 30 0 0 5 ≤ v6x65 → Q v4x65 st) ∧ (¬ st 30 0 0 5 ≤ v6x65 → f9_isOn (fun z16 st17 => inI z16 ∧ ((z16 = 0 → f9_all_j127 (fun st v4x65 v6x65 => f9_all_l65 Q a0 a1 a2 n st v4x65 v6x65) Q a0 a1 a2 st17 v4x65 v6x65) ∧ (¬ z16 = 0 → (0 : Int) ≤ 35 + (2 * v6x65) ∧ 35 + (2 * v6x65) < mlen 0 ∧ inI (st17 30 0 0 (35 + (2 * v6x65))) ∧ (0 : Int) ≤ (35 + (2 * v6x65)) + 1 ∧ (35 + (2 * v6x65)) + 1 < mlen 0 ∧ f9_by (fun z25 st26 => ∀ x27 : Int, x27 = v4x65 + ((st17 30 0 0 (35 + (2 * v6x65))) * z25) → f9_all_j127 (fun st v4x65 v6x65 => f9_all_l65 Q a0 a1 a2 n st v4x65 v6x65) Q a0 a1 a2 st26 x27 v6x65) st17 a0 a1 (a2 - (st17 30 0 0 ((35 + (2 * v6x65)) + 1)))))) st v6x65 a2))
def f9_all_l6   (Q : Int → St → Prop) (a0 : Int) (a1 : Int) (a2 : Int) : Nat → St → Int → Int → Prop
  | 0, _, _, _ => False
  | n + 1, st, v4x6, v6x6 =>
  inI v6x6 ∧ inI (st 30 0 0 4) ∧ ((st 30 0 0 4 ≤ v6x6 → ∃ k, f9_all_l65 Q a0 a1 a2 k st v4x6 0) ∧ (¬ st 30 0 0 4 ≤ v6x6 → (0 : Int) ≤ 19 + (2 * v6x6) ∧ 19 + (2 * v6x6) < mlen 0 ∧ inI (st 30 0 0 (19 + (2 * v6x6))) ∧ (0 : Int) ≤ (19 + (2 * v6x6)) + 1 ∧ (19 + (2 * v6x6)) + 1 < mlen 0 ∧ f9_by (fun z9 st10 => ∀ x11 : Int, x11 = v4x6 + ((st 30 0 0 (19 + (2 * v6x6))) * z9) → ∀ x12 : Int, x12 = v6x6 + 1 → f9_all_l6 Q a0 a1 a2 n st10 x11 x12) st a0 a1 (st 30 0 0 ((19 + (2 * v6x6)) + 1))))
def f9_all  (Q : Int → St → Prop) (st : St) (a0 : Int) (a1 : Int) (a2 : Int) : Prop :=
  ∃ k, f9_all_l6 Q a0 a1 a2 k st 0 0
def f9_isHead  (Q : Int → St → Prop) (st : St) (a0 : Int) : Prop :=
  f9_lastHead (fun z1 st2 => f9_isIn (fun z3 st4 => (z3 = 0 ∨ z3 = 1) ∧ Q z3 st4) st2 a0 (-1) z1) st
def f9_reaction_j26   (Q : Int → St → Prop) (a0 : Int) (a1 : Int) (st : St) (s0x26 : Int) : Prop :=
  ∀ st9 : St, st9 = up st 9 6 0 0 s0x26 → inI (st9 9 6 0 0) ∧ ((st9 9 6 0 0 ≤ 0 → f9_lays (fun st13 => f9_all (fun z14 st15 => Q z14 st15) st13 0 a0 a1) st9) ∧ (¬ st9 9 6 0 0 ≤ 0 → Q 0 st9))
def f9_reaction  (Q : Int → St → Prop) (st : St) (a0 : Int) (a1 : Int) : Prop :=
  f9_isSupport (fun z1 st2 => inI z1 ∧ ((z1 = 0 → f9_reaction_j26 Q a0 a1 st2 1) ∧ (¬ z1 = 0 → f9_isHead (fun z5 st6 => inI z5 ∧ ((z5 = 0 → f9_reaction_j26 Q a0 a1 st6 2) ∧ (¬ z5 = 0 → f9_reaction_j26 Q a0 a1 st6 0))) st2 a1))) st a0
def f9_shear_j26   (Q : Int → St → Prop) (a0 : Int) (a1 : Int) (st : St) (s0x26 : Int) : Prop :=
  ∀ st9 : St, st9 = up st 9 6 0 0 s0x26 → inI (st9 9 6 0 0) ∧ ((st9 9 6 0 0 ≤ 0 → f9_lays (fun st13 => f9_all (fun z14 st15 => Q z14 st15) st13 1 a0 a1) st9) ∧ (¬ st9 9 6 0 0 ≤ 0 → Q 0 st9))
def f9_shear  (Q : Int → St → Prop) (st : St) (a0 : Int) (a1 : Int) : Prop :=
  f9_isField (fun z1 st2 => inI z1 ∧ ((z1 = 0 → f9_shear_j26 Q a0 a1 st2 1) ∧ (¬ z1 = 0 → f9_isHead (fun z5 st6 => inI z5 ∧ ((z5 = 0 → f9_shear_j26 Q a0 a1 st6 2) ∧ (¬ z5 = 0 → f9_shear_j26 Q a0 a1 st6 0))) st2 a1))) st a0
def f9_moment_j26   (Q : Int → St → Prop) (a0 : Int) (a1 : Int) (st : St) (s0x26 : Int) : Prop :=
  ∀ st9 : St, st9 = up st 9 6 0 0 s0x26 → inI (st9 9 6 0 0) ∧ ((st9 9 6 0 0 ≤ 0 → f9_lays (fun st13 => f9_all (fun z14 st15 => Q z14 st15) st13 2 a0 a1) st9) ∧ (¬ st9 9 6 0 0 ≤ 0 → Q 0 st9))
def f9_moment  (Q : Int → St → Prop) (st : St) (a0 : Int) (a1 : Int) : Prop :=
  f9_isPlace (fun z1 st2 => inI z1 ∧ ((z1 = 0 → f9_moment_j26 Q a0 a1 st2 1) ∧ (¬ z1 = 0 → f9_isHead (fun z5 st6 => inI z5 ∧ ((z5 = 0 → f9_moment_j26 Q a0 a1 st6 2) ∧ (¬ z5 = 0 → f9_moment_j26 Q a0 a1 st6 0))) st2 a1))) st a0
def f9_worst_j72  (B19 : St → Int → Int → Int → Prop) (Q : Int → St → Prop) (a0 : Int) (a1 : Int) (a2 : Int) (st : St) (v4x72 : Int) (v5x72 : Int) (v7x72 : Int) : Prop :=
  ∀ x20 : Int, x20 = v7x72 + 1 → B19 st v4x72 v5x72 x20
def f9_worst_j64  (B19 : St → Int → Int → Int → Prop) (Q : Int → St → Prop) (a0 : Int) (a1 : Int) (a2 : Int) (st : St) (v7x64 : Int) (v8x64 : Int) : Prop :=
  f9_worst_j72 B19 Q a0 a1 a2 st v7x64 v8x64 v7x64
def f9_worst_l19   (Q : Int → St → Prop) (a0 : Int) (a1 : Int) (a2 : Int) : Nat → St → Int → Int → Int → Prop
  | 0, _, _, _, _ => False
  | n + 1, st, v4x19, v5x19, v7x19 =>
  f9_lastHead (fun z5 st6 => inI v7x19 ∧ inI z5 ∧ ((z5 < v7x19 → Q v4x19 st6) ∧ (¬ z5 < v7x19 → f9_all (fun z10 st11 => inI a2 ∧ ((a2 = 0 → inL z10 ∧ inL v5x19 ∧ ((z10 < v5x19 → f9_worst_j64 (fun st v4x19 v5x19 v7x19 => f9_worst_l19 Q a0 a1 a2 n st v4x19 v5x19 v7x19) Q a0 a1 a2 st11 v7x19 z10) ∧ (¬ z10 < v5x19 → f9_worst_j72 (fun st v4x19 v5x19 v7x19 => f9_worst_l19 Q a0 a1 a2 n st v4x19 v5x19 v7x19) Q a0 a1 a2 st11 v4x19 v5x19 v7x19))) ∧ (¬ a2 = 0 → inL z10 ∧ inL v5x19 ∧ ((v5x19 < z10 → f9_worst_j64 (fun st v4x19 v5x19 v7x19 => f9_worst_l19 Q a0 a1 a2 n st v4x19 v5x19 v7x19) Q a0 a1 a2 st11 v7x19 z10) ∧ (¬ v5x19 < z10 → f9_worst_j72 (fun st v4x19 v5x19 v7x19 => f9_worst_l19 Q a0 a1 a2 n st v4x19 v5x19 v7x19) Q a0 a1 a2 st11 v4x19 v5x19 v7x19))))) st6 a0 a1 v7x19))) st
def f9_worst  (Q : Int → St → Prop) (st : St) (a0 : Int) (a1 : Int) (a2 : Int) : Prop :=
  f9_lays (fun st2 => f9_all (fun z3 st4 => ∃ k, f9_worst_l19 Q a0 a1 a2 k st4 0 z3 1) st2 a0 a1 0) st
def f9_worstForReaction_j14   (Q : Int → St → Prop) (a0 : Int) (a1 : Int) (st : St) (s0x14 : Int) : Prop :=
  ∀ st5 : St, st5 = up st 9 6 0 0 s0x14 → inI (st5 9 6 0 0) ∧ ((st5 9 6 0 0 ≤ 0 → f9_worst (fun z8 st9 => Q z8 st9) st5 0 a0 a1) ∧ (¬ st5 9 6 0 0 ≤ 0 → Q 0 st5))
def f9_worstForReaction  (Q : Int → St → Prop) (st : St) (a0 : Int) (a1 : Int) : Prop :=
  f9_isSupport (fun z1 st2 => inI z1 ∧ ((z1 = 0 → f9_worstForReaction_j14 Q a0 a1 st2 1) ∧ (¬ z1 = 0 → f9_worstForReaction_j14 Q a0 a1 st2 0))) st a0
def f9_worstForShear_j14   (Q : Int → St → Prop) (a0 : Int) (a1 : Int) (st : St) (s0x14 : Int) : Prop :=
  ∀ st5 : St, st5 = up st 9 6 0 0 s0x14 → inI (st5 9 6 0 0) ∧ ((st5 9 6 0 0 ≤ 0 → f9_worst (fun z8 st9 => Q z8 st9) st5 1 a0 a1) ∧ (¬ st5 9 6 0 0 ≤ 0 → Q 0 st5))
def f9_worstForShear  (Q : Int → St → Prop) (st : St) (a0 : Int) (a1 : Int) : Prop :=
  f9_isField (fun z1 st2 => inI z1 ∧ ((z1 = 0 → f9_worstForShear_j14 Q a0 a1 st2 1) ∧ (¬ z1 = 0 → f9_worstForShear_j14 Q a0 a1 st2 0))) st a0
def f9_worstForMoment_j14   (Q : Int → St → Prop) (a0 : Int) (a1 : Int) (st : St) (s0x14 : Int) : Prop :=
  ∀ st5 : St, st5 = up st 9 6 0 0 s0x14 → inI (st5 9 6 0 0) ∧ ((st5 9 6 0 0 ≤ 0 → f9_worst (fun z8 st9 => Q z8 st9) st5 2 a0 a1) ∧ (¬ st5 9 6 0 0 ≤ 0 → Q 0 st5))
def f9_worstForMoment  (Q : Int → St → Prop) (st : St) (a0 : Int) (a1 : Int) : Prop :=
  f9_isPlace (fun z1 st2 => inI z1 ∧ ((z1 = 0 → f9_worstForMoment_j14 Q a0 a1 st2 1) ∧ (¬ z1 = 0 → f9_worstForMoment_j14 Q a0 a1 st2 0))) st a0
def f9_size  (Q : Int → St → Prop) (st : St) (a0 : Int) : Prop :=
  inL a0 ∧ ((0 ≤ a0 → Q a0 st) ∧ (¬ 0 ≤ a0 → Q (-a0) st))
def f9_greatestAt_l5   (Q : Int → St → Prop) (a0 : Int) : Nat → St → Int → Int → Prop
  | 0, _, _, _ => False
  | n + 1, st, v2x5, v4x5 =>
  f9_lastHead (fun z1 st2 => inI v4x5 ∧ inI z1 ∧ ((z1 < v4x5 → Q v2x5 st2) ∧ (¬ z1 < v4x5 → f9_all (fun z6 st7 => f9_size (fun z8 st9 => inL v2x5 ∧ inL z8 ∧ ∀ x12 : Int, x12 = imaxl v2x5 z8 → ∀ x13 : Int, x13 = v4x5 + 1 → f9_greatestAt_l5 Q a0 n st9 x12 x13) st7 z6) st2 2 a0 v4x5))) st
def f9_greatestAt  (Q : Int → St → Prop) (st : St) (a0 : Int) : Prop :=
  ∃ k, f9_greatestAt_l5 Q a0 k st 0 0
def f9_worstPlace_j42  (B9 : St → Int → Int → Int → Prop) (Q : Int → St → Prop)  (st : St) (v1x42 : Int) (v2x42 : Int) (v4x42 : Int) : Prop :=
  ∀ x11 : Int, x11 = v4x42 + 1 → B9 st v1x42 v2x42 x11
def f9_worstPlace_l9   (Q : Int → St → Prop)  : Nat → St → Int → Int → Int → Prop
  | 0, _, _, _, _ => False
  | n + 1, st, v1x9, v2x9, v4x9 =>
  f9_places (fun z1 st2 => inI v4x9 ∧ inI z1 ∧ ((z1 ≤ v4x9 → Q v1x9 st2) ∧ (¬ z1 ≤ v4x9 → f9_greatestAt (fun z6 st7 => inL z6 ∧ inL v2x9 ∧ ((v2x9 < z6 → f9_worstPlace_j42 (fun st v1x9 v2x9 v4x9 => f9_worstPlace_l9 Q n st v1x9 v2x9 v4x9) Q st7 v4x9 z6 v4x9) ∧ (¬ v2x9 < z6 → f9_worstPlace_j42 (fun st v1x9 v2x9 v4x9 => f9_worstPlace_l9 Q n st v1x9 v2x9 v4x9) Q st7 v1x9 v2x9 v4x9))) st2 v4x9))) st
def f9_worstPlace  (Q : Int → St → Prop) (st : St)  : Prop :=
  ∃ k, f9_worstPlace_l9 Q k st 0 (-1) 0
def f9_worstSection  (Q : Int → St → Prop) (st : St)  : Prop :=
  ∀ st1 : St, st1 = up st 9 6 0 0 0 → f9_lays (fun st3 => f9_worstPlace (fun z4 st5 => Q z4 st5) st3) st1
def f9_dangerAt_l110   (Q : Int → St → Prop) (a0 : Int) : Nat → St → Int → Prop
  | 0, _, _ => False
  | n + 1, st, v4x110 =>
  f9_places (fun z29 st30 => inI v4x110 ∧ inI z29 ∧ ((z29 ≤ v4x110 → Q 0 st30) ∧ (¬ z29 ≤ v4x110 → f9_all (fun z34 st35 => f9_size (fun z36 st37 => inI (st37 30 0 0 1) ∧ inL z36 ∧ inL ((st37 30 0 0 1) * (st37 9 18 0 0)) ∧ ((z36 ≤ (st37 30 0 0 1) * (st37 9 18 0 0) → ∀ x42 : Int, x42 = v4x110 + 1 → f9_dangerAt_l110 Q a0 n st37 x42) ∧ (¬ z36 ≤ (st37 30 0 0 1) * (st37 9 18 0 0) → Q 3 st37))) st35 z34) st30 2 v4x110 a0))) st
def f9_dangerAt_j97   (Q : Int → St → Prop)  (st : St) (v2x97 : Int) : Prop :=
  inI v2x97 ∧ ((v2x97 = 0 → Q 2 st) ∧ (¬ v2x97 = 0 → Q 1 st))
def f9_dangerAt_j82  (B7 : St → Int → Int → Int → Prop) (Q : Int → St → Prop) (a0 : Int) (st : St) (v2x82 : Int) (v4x82 : Int) (s0x82 : Int) : Prop :=
  ∀ x26 : Int, x26 = v4x82 + 1 → B7 st v2x82 s0x82 x26
def f9_dangerAt_j81  (B7 : St → Int → Int → Int → Prop) (Q : Int → St → Prop) (a0 : Int) (st : St) (v2x81 : Int) (v4x81 : Int) : Prop :=
  f9_dangerAt_j82 B7 Q a0 st v2x81 v4x81 0
def f9_dangerAt_j77  (B7 : St → Int → Int → Int → Prop) (Q : Int → St → Prop) (a0 : Int) (st : St) (v2x77 : Int) (v4x77 : Int) : Prop :=
  f9_dangerAt_j82 B7 Q a0 st v2x77 v4x77 1
def f9_dangerAt_j44  (B7 : St → Int → Int → Int → Prop) (Q : Int → St → Prop) (a0 : Int) (st : St) (v3x44 : Int) (v4x44 : Int) (v5x44 : Int) (s0x44 : Int) : Prop :=
  inI v3x44 ∧ ((v3x44 = 0 → f9_bearsOf (fun z16 st17 => inI z16 ∧ ((z16 = (-1) → f9_dangerAt_j81 B7 Q a0 st17 s0x44 v4x44) ∧ (¬ z16 = (-1) → f9_bearsOf (fun z20 st21 => inI z20 ∧ inL v5x44 ∧ inL (z20 * (st21 9 18 0 0)) ∧ ((v5x44 ≤ z20 * (st21 9 18 0 0) → f9_dangerAt_j81 B7 Q a0 st21 s0x44 v4x44) ∧ (¬ v5x44 ≤ z20 * (st21 9 18 0 0) → f9_dangerAt_j77 B7 Q a0 st21 s0x44 v4x44))) st17 v4x44))) st v4x44) ∧ (¬ v3x44 = 0 → f9_dangerAt_j77 B7 Q a0 st s0x44 v4x44))
def f9_dangerAt_j39  (B7 : St → Int → Int → Int → Prop) (Q : Int → St → Prop) (a0 : Int) (st : St) (v3x39 : Int) (v4x39 : Int) (v5x39 : Int) : Prop :=
  f9_dangerAt_j44 B7 Q a0 st v3x39 v4x39 v5x39 1
def f9_dangerAt_l7   (Q : Int → St → Prop) (a0 : Int) : Nat → St → Int → Int → Int → Prop
  | 0, _, _, _, _ => False
  | n + 1, st, v2x7, v3x7, v4x7 =>
  inI v4x7 ∧ inI (st 30 0 0 2) ∧ ((st 30 0 0 2 ≤ v4x7 → inI v2x7 ∧ ((v2x7 = 0 → inI v3x7 ∧ ((v3x7 = 0 → ∃ k, f9_dangerAt_l110 Q a0 k st 0) ∧ (¬ v3x7 = 0 → f9_dangerAt_j97 Q st v2x7))) ∧ (¬ v2x7 = 0 → f9_dangerAt_j97 Q st v2x7))) ∧ (¬ st 30 0 0 2 ≤ v4x7 → f9_all (fun z8 st9 => inI v2x7 ∧ ((v2x7 = 0 → inL z8 ∧ ((0 ≤ z8 → f9_dangerAt_j44 (fun st v2x7 v3x7 v4x7 => f9_dangerAt_l7 Q a0 n st v2x7 v3x7 v4x7) Q a0 st9 v3x7 v4x7 z8 0) ∧ (¬ 0 ≤ z8 → f9_dangerAt_j39 (fun st v2x7 v3x7 v4x7 => f9_dangerAt_l7 Q a0 n st v2x7 v3x7 v4x7) Q a0 st9 v3x7 v4x7 z8))) ∧ (¬ v2x7 = 0 → f9_dangerAt_j39 (fun st v2x7 v3x7 v4x7 => f9_dangerAt_l7 Q a0 n st v2x7 v3x7 v4x7) Q a0 st9 v3x7 v4x7 z8))) st 0 v4x7 a0))
def f9_dangerAt  (Q : Int → St → Prop) (st : St) (a0 : Int) : Prop :=
  ∃ k, f9_dangerAt_l7 Q a0 k st 0 0 0
def f9_danger_j14   (Q : Int → St → Prop) (a0 : Int) (st : St) (s0x14 : Int) : Prop :=
  ∀ st5 : St, st5 = up st 9 6 0 0 s0x14 → inI (st5 9 6 0 0) ∧ ((st5 9 6 0 0 ≤ 0 → f9_lays (fun st9 => f9_dangerAt (fun z10 st11 => Q z10 st11) st9 a0) st5) ∧ (¬ st5 9 6 0 0 ≤ 0 → Q 0 st5))
def f9_danger  (Q : Int → St → Prop) (st : St) (a0 : Int) : Prop :=
  f9_isHead (fun z1 st2 => inI z1 ∧ ((z1 = 0 → f9_danger_j14 Q a0 st2 1) ∧ (¬ z1 = 0 → f9_danger_j14 Q a0 st2 0))) st a0
def f9_firstBad_l2   (Q : Int → St → Prop)  : Nat → St → Int → Prop
  | 0, _, _ => False
  | n + 1, st, v1x2 =>
  f9_lastHead (fun z1 st2 => inI v1x2 ∧ inI z1 ∧ ((z1 < v1x2 → Q (-1) st2) ∧ (¬ z1 < v1x2 → f9_dangerAt (fun z6 st7 => inI z6 ∧ ((z6 ≤ 0 → ∀ x10 : Int, x10 = v1x2 + 1 → f9_firstBad_l2 Q n st7 x10) ∧ (¬ z6 ≤ 0 → Q v1x2 st7))) st2 v1x2))) st
def f9_firstBad  (Q : Int → St → Prop) (st : St)  : Prop :=
  ∃ k, f9_firstBad_l2 Q k st 0
def f9_firstDanger  (Q : Int → St → Prop) (st : St)  : Prop :=
  ∀ st1 : St, st1 = up st 9 6 0 0 0 → f9_lays (fun st3 => f9_firstBad (fun z4 st5 => Q z4 st5) st3) st1
def f9_lifting_j53  (B13 : St → Int → Int → Prop) (B25 : St → Int → Int → Prop) (Q : Int → St → Prop) (v2x25 : Int) (st : St) (v3x53 : Int) (s0x53 : Int) (s1x53 : Int) : Prop :=
  ∀ x17 : Int, x17 = ior s1x53 s0x53 → ∀ x18 : Int, x18 = v3x53 + 1 → B25 st x17 x18
def f9_lifting_l25  (B13 : St → Int → Int → Prop) (Q : Int → St → Prop) (v2x25 : Int) : Nat → St → Int → Int → Prop
  | 0, _, _, _ => False
  | n + 1, st, v1x25, v3x25 =>
  f9_lastHead (fun z7 st8 => inI v3x25 ∧ inI z7 ∧ ((z7 < v3x25 → ∀ x12 : Int, x12 = v2x25 + 1 → B13 st8 v1x25 x12) ∧ (¬ z7 < v3x25 → f9_all (fun z13 st14 => inL z13 ∧ ((0 ≤ z13 → f9_lifting_j53 B13 (fun st v1x25 v3x25 => f9_lifting_l25 B13 Q v2x25 n st v1x25 v3x25) Q v2x25 st14 v3x25 0 v1x25) ∧ (¬ 0 ≤ z13 → f9_lifting_j53 B13 (fun st v1x25 v3x25 => f9_lifting_l25 B13 Q v2x25 n st v1x25 v3x25) Q v2x25 st14 v3x25 (ishl 1 v2x25) v1x25))) st8 0 v2x25 v3x25))) st
def f9_lifting_l13   (Q : Int → St → Prop)  : Nat → St → Int → Int → Prop
  | 0, _, _, _ => False
  | n + 1, st, v1x13, v2x13 =>
  inI v2x13 ∧ inI (st 30 0 0 2) ∧ ((st 30 0 0 2 ≤ v2x13 → Q v1x13 st) ∧ (¬ st 30 0 0 2 ≤ v2x13 → ∃ k, f9_lifting_l25 (fun st v1x13 v2x13 => f9_lifting_l13 Q n st v1x13 v2x13) Q v2x13 k st v1x13 0))
def f9_lifting  (Q : Int → St → Prop) (st : St)  : Prop :=
  ∀ st1 : St, st1 = up st 9 6 0 0 0 → f9_lays (fun st3 => ∃ k, f9_lifting_l13 Q k st3 0 0) st1
def f9_noHinge_j27   (Q : Int → St → Prop) (a0 : Int) (a1 : Int) (st : St)  : Prop :=
  f9_copies 1 0 (fun st13 => f9_dropsHinge (fun st15 => f9_addsHinge (fun st17 => f9_isStanding (fun z18 st19 => f9_copies 0 1 (fun st21 => inI z18 ∧ ((z18 = 0 → Q 2 st21) ∧ (¬ z18 = 0 → Q 0 st21))) st19 0 0) st17) st15 a1) st13 a0) st 0 0
def f9_noHinge  (Q : Int → St → Prop) (st : St) (a0 : Int) (a1 : Int) : Prop :=
  f9_hingeAt (fun z1 st2 => f9_supportAt (fun z3 st4 => inI z3 ∧ ((z3 = (-1) → inI z1 ∧ ((z1 = (-1) → f9_noHinge_j27 Q a0 a1 st4) ∧ (¬ z1 = (-1) → inI z1 ∧ inI a0 ∧ ((z1 = a0 → f9_noHinge_j27 Q a0 a1 st4) ∧ (¬ z1 = a0 → Q 1 st4))))) ∧ (¬ z3 = (-1) → Q 1 st4))) st2 a1) st a1
def f9_noPlace  (Q : Int → St → Prop) (st : St) (a0 : Int) (a1 : Int) : Prop :=
  f9_isHinge (fun z1 st2 => inI z1 ∧ ((z1 = 0 → Q 1 st2) ∧ (¬ z1 = 0 → f9_isIn (fun z5 st6 => inI z5 ∧ ((z5 = 0 → Q 2 st6) ∧ (¬ z5 = 0 → Q 0 st6))) st2 a1 1 ((st2 30 0 0 0) - 1)))) st a0
def f9_tryHinge  (Q : Int → St → Prop) (st : St) (a0 : Int) (a1 : Int) : Prop :=
  f9_noPlace (fun z1 st2 => ∀ st3 : St, st3 = up st2 9 6 0 0 z1 → inI (st3 9 6 0 0) ∧ ((st3 9 6 0 0 ≤ 0 → f9_noHinge (fun z6 st7 => inI z6 ∧ ((z6 ≤ 0 → Q 0 st7) ∧ (¬ z6 ≤ 0 → Q ((-10) - z6) st7))) st3 a0 a1) ∧ (¬ st3 9 6 0 0 ≤ 0 → Q 0 st3))) st a0 a1
def f9_bestHinge_j146  (B36 : St → Int → Int → Int → Int → Prop) (Q : Int → St → Prop) (a0 : Int) (st : St) (v2x146 : Int) (v3x146 : Int) (v5x146 : Int) (v7x146 : Int) : Prop :=
  ∀ x35 : Int, x35 = v7x146 + 1 → B36 st v2x146 v3x146 v5x146 x35
def f9_bestHinge_j134  (B36 : St → Int → Int → Int → Int → Prop) (Q : Int → St → Prop) (a0 : Int) (st : St) (v7x134 : Int) (v8x134 : Int) : Prop :=
  ∀ x34 : Int, x34 = st 9 18 0 0 → f9_bestHinge_j146 B36 Q a0 st v7x134 v8x134 x34 v7x134
def f9_bestHinge_l36   (Q : Int → St → Prop) (a0 : Int) : Nat → St → Int → Int → Int → Int → Prop
  | 0, _, _, _, _, _ => False
  | n + 1, st, v2x36, v3x36, v5x36, v7x36 =>
  inI v7x36 ∧ inI (st 30 0 0 0) ∧ ((st 30 0 0 0 ≤ v7x36 → Q v2x36 st) ∧ (¬ st 30 0 0 0 ≤ v7x36 → f9_noHinge (fun z11 st12 => inI z11 ∧ ((z11 ≤ 0 → f9_copies 5 0 (fun st16 => f9_dropsHinge (fun st18 => f9_addsHinge (fun st20 => f9_lays (fun st22 => f9_worstPlace (fun z23 st24 => f9_greatestAt (fun z25 st26 => f9_copies 0 5 (fun st28 => inI v2x36 ∧ ((v2x36 = (-1) → f9_bestHinge_j134 (fun st v2x36 v3x36 v5x36 v7x36 => f9_bestHinge_l36 Q a0 n st v2x36 v3x36 v5x36 v7x36) Q a0 st28 v7x36 z25) ∧ (¬ v2x36 = (-1) → inL (z25 * v5x36) ∧ inL (v3x36 * (st28 9 18 0 0)) ∧ ((z25 * v5x36 < v3x36 * (st28 9 18 0 0) → f9_bestHinge_j134 (fun st v2x36 v3x36 v5x36 v7x36 => f9_bestHinge_l36 Q a0 n st v2x36 v3x36 v5x36 v7x36) Q a0 st28 v7x36 z25) ∧ (¬ z25 * v5x36 < v3x36 * (st28 9 18 0 0) → f9_bestHinge_j146 (fun st v2x36 v3x36 v5x36 v7x36 => f9_bestHinge_l36 Q a0 n st v2x36 v3x36 v5x36 v7x36) Q a0 st28 v2x36 v3x36 v5x36 v7x36))))) st26 0 0) st24 z23) st22) st20) st18 v7x36) st16 a0) st12 0 0) ∧ (¬ z11 ≤ 0 → f9_bestHinge_j146 (fun st v2x36 v3x36 v5x36 v7x36 => f9_bestHinge_l36 Q a0 n st v2x36 v3x36 v5x36 v7x36) Q a0 st12 v2x36 v3x36 v5x36 v7x36))) st a0 v7x36))
def f9_bestHinge_j14   (Q : Int → St → Prop) (a0 : Int) (st : St) (s0x14 : Int) : Prop :=
  ∀ st5 : St, st5 = up st 9 6 0 0 s0x14 → inI (st5 9 6 0 0) ∧ ((st5 9 6 0 0 ≤ 0 → ∃ k, f9_bestHinge_l36 Q a0 k st5 (-1) 0 1 1) ∧ (¬ st5 9 6 0 0 ≤ 0 → Q 0 st5))
def f9_bestHinge  (Q : Int → St → Prop) (st : St) (a0 : Int) : Prop :=
  f9_isHinge (fun z1 st2 => inI z1 ∧ ((z1 = 0 → f9_bestHinge_j14 Q a0 st2 1) ∧ (¬ z1 = 0 → f9_bestHinge_j14 Q a0 st2 0))) st a0
def f9_strongest_l53   (Q : Int → St → Prop)  : Nat → St → Int → Int → Prop
  | 0, _, _, _ => False
  | n + 1, st, v1x53, v2x53 =>
  inI v1x53 ∧ inI v2x53 ∧ ((v2x53 ≤ v1x53 → f9_copies 0 5 (fun st16 => Q v1x53 st16) st 0 0) ∧ (¬ v2x53 ≤ v1x53 → inI ((v1x53 + v2x53) + 1) ∧ ∀ st18 : St, st18 = up st 30 0 0 35 (Int.tdiv ((v1x53 + v2x53) + 1) 2) → f9_firstBad (fun z19 st20 => inI z19 ∧ ((z19 = (-1) → ∀ x24 : Int, x24 = st20 30 0 0 35 → f9_strongest_l53 Q n st20 x24 v2x53) ∧ (¬ z19 = (-1) → ∀ x23 : Int, x23 = (st20 30 0 0 35) - 1 → f9_strongest_l53 Q n st20 v1x53 x23))) st18))
def f9_strongest  (Q : Int → St → Prop) (st : St)  : Prop :=
  ∀ st1 : St, st1 = up st 9 6 0 0 0 → f9_lays (fun st3 => f9_dangerAt (fun z4 st5 => inI z4 ∧ ((z4 ≤ 0 → f9_copies 5 0 (fun st9 => ∀ st10 : St, st10 = up st9 30 0 0 5 1 → ∀ st11 : St, st11 = up st10 30 0 0 36 0 → ∃ k, f9_strongest_l53 Q k st11 0 999) st5 0 0) ∧ (¬ z4 ≤ 0 → Q 0 st5))) st3 (-1)) st1
def f9_moveSupport_j62   (Q : Int → St → Prop) (a0 : Int) (a1 : Int) (st : St)  : Prop :=
  f9_copies 1 0 (fun st24 => f9_bearsOf (fun z25 st26 => f9_dropsSupport (fun st28 => f9_addsSupport (fun st30 => f9_isStanding (fun z31 st32 => inI z31 ∧ ((z31 = 0 → f9_copies 0 1 (fun st40 => Q (-12) st40) st32 0 0) ∧ (¬ z31 = 0 → f9_keeps 1 (fun st36 => f9_supportAt (fun z37 st38 => Q z37 st38) st36 a1) st32))) st30) st28 a1 z25) st26 a0) st24 a0) st 0 0
def f9_moveSupport_j22   (Q : Int → St → Prop) (a0 : Int) (a1 : Int) (st : St) (s0x22 : Int) : Prop :=
  ∀ st9 : St, st9 = up st 9 6 0 0 s0x22 → inI (st9 9 6 0 0) ∧ ((st9 9 6 0 0 ≤ 0 → f9_supportAt (fun z12 st13 => f9_hingeAt (fun z14 st15 => inI z14 ∧ ((z14 = (-1) → inI z12 ∧ ((z12 = (-1) → f9_moveSupport_j62 Q a0 a1 st15) ∧ (¬ z12 = (-1) → inI z12 ∧ inI a0 ∧ ((z12 = a0 → f9_moveSupport_j62 Q a0 a1 st15) ∧ (¬ z12 = a0 → Q (-11) st15))))) ∧ (¬ z14 = (-1) → Q (-11) st15))) st13 a1) st9 a1) ∧ (¬ st9 9 6 0 0 ≤ 0 → Q 0 st9))
def f9_moveSupport_j21   (Q : Int → St → Prop) (a0 : Int) (a1 : Int) (st : St)  : Prop :=
  f9_moveSupport_j22 Q a0 a1 st 1
def f9_moveSupport  (Q : Int → St → Prop) (st : St) (a0 : Int) (a1 : Int) : Prop :=
  f9_isSupport (fun z1 st2 => inI z1 ∧ ((z1 = 0 → f9_moveSupport_j21 Q a0 a1 st2) ∧ (¬ z1 = 0 → f9_isPlace (fun z5 st6 => inI z5 ∧ ((z5 = 0 → f9_moveSupport_j21 Q a0 a1 st6) ∧ (¬ z5 = 0 → f9_moveSupport_j22 Q a0 a1 st6 0))) st2 a1))) st a0
def f9_moveHinge  (Q : Int → St → Prop) (st : St) (a0 : Int) (a1 : Int) : Prop :=
  f9_noPlace (fun z1 st2 => ∀ st3 : St, st3 = up st2 9 6 0 0 z1 → inI (st3 9 6 0 0) ∧ ((st3 9 6 0 0 ≤ 0 → f9_noHinge (fun z6 st7 => inI z6 ∧ ((z6 ≤ 0 → f9_keeps 0 (fun st11 => f9_dropsHinge (fun st13 => f9_addsHinge (fun st15 => f9_hingeAt (fun z16 st17 => Q z16 st17) st15 a1) st13 a1) st11 a0) st7) ∧ (¬ z6 ≤ 0 → Q ((-10) - z6) st7))) st3 a0 a1) ∧ (¬ st3 9 6 0 0 ≤ 0 → Q 0 st3))) st a0 a1
def f9_adds  (Q : St → Prop) (st : St) (a0 : Int) (a1 : Int) (a2 : Int) (a3 : Int) : Prop :=
  (0 : Int) ≤ a1 ∧ a1 < mlen 0 ∧ (0 : Int) ≤ a0 + (2 * (st 30 0 0 a1)) ∧ a0 + (2 * (st 30 0 0 a1)) < mlen 0 ∧ ∀ st5 : St, st5 = up st 30 0 0 (a0 + (2 * (st 30 0 0 a1))) a2 → (0 : Int) ≤ a1 ∧ a1 < mlen 0 ∧ (0 : Int) ≤ (a0 + (2 * (st5 30 0 0 a1))) + 1 ∧ (a0 + (2 * (st5 30 0 0 a1))) + 1 < mlen 0 ∧ ∀ st10 : St, st10 = up st5 30 0 0 ((a0 + (2 * (st5 30 0 0 a1))) + 1) a3 → (0 : Int) ≤ a1 ∧ a1 < mlen 0 ∧ (0 : Int) ≤ a1 ∧ a1 < mlen 0 ∧ ∀ st15 : St, st15 = up st10 30 0 0 a1 ((st10 30 0 0 a1) + 1) → Q st15
def f9_drops_l29   (Q : Int → St → Prop) (a0 : Int) (a1 : Int) (v4x29 : Int) : Nat → St → Int → Prop
  | 0, _, _ => False
  | n + 1, st, v5x29 =>
  (0 : Int) ≤ a1 ∧ a1 < mlen 0 ∧ inI v5x29 ∧ inI (a0 + (2 * (st 30 0 0 a1))) ∧ ((a0 + (2 * (st 30 0 0 a1)) ≤ v5x29 → Q v4x29 st) ∧ (¬ a0 + (2 * (st 30 0 0 a1)) ≤ v5x29 → (0 : Int) ≤ v5x29 + 2 ∧ v5x29 + 2 < mlen 0 ∧ (0 : Int) ≤ v5x29 ∧ v5x29 < mlen 0 ∧ ∀ st19 : St, st19 = up st 30 0 0 v5x29 (st 30 0 0 (v5x29 + 2)) → ∀ x20 : Int, x20 = v5x29 + 1 → f9_drops_l29 Q a0 a1 v4x29 n st19 x20))
def f9_drops  (Q : Int → St → Prop) (st : St) (a0 : Int) (a1 : Int) (a2 : Int) : Prop :=
  (0 : Int) ≤ a0 + (2 * a2) ∧ a0 + (2 * a2) < mlen 0 ∧ ∀ x3 : Int, x3 = st 30 0 0 (a0 + (2 * a2)) → (0 : Int) ≤ a1 ∧ a1 < mlen 0 ∧ (0 : Int) ≤ a1 ∧ a1 < mlen 0 ∧ ∀ st8 : St, st8 = up st 30 0 0 a1 ((st 30 0 0 a1) - 1) → ∀ x9 : Int, x9 = a0 + (2 * a2) → ∃ k, f9_drops_l29 Q a0 a1 x3 k st8 x9
def f9_addLoad_j29   (Q : Int → St → Prop) (a0 : Int) (a1 : Int) (st : St) (s0x29 : Int) : Prop :=
  ∀ st9 : St, st9 = up st 9 6 0 0 s0x29 → inI (st9 9 6 0 0) ∧ ((st9 9 6 0 0 ≤ 0 → inI (st9 30 0 0 4) ∧ ((st9 30 0 0 4 = 8 → Q (-13) st9) ∧ (¬ st9 30 0 0 4 = 8 → f9_keeps 0 (fun st15 => f9_adds (fun st17 => Q ((st17 30 0 0 4) - 1) st17) st15 19 4 a0 a1) st9))) ∧ (¬ st9 9 6 0 0 ≤ 0 → Q 0 st9))
def f9_addLoad  (Q : Int → St → Prop) (st : St) (a0 : Int) (a1 : Int) : Prop :=
  f9_isPlace (fun z1 st2 => inI z1 ∧ ((z1 = 0 → f9_addLoad_j29 Q a0 a1 st2 1) ∧ (¬ z1 = 0 → f9_isIn (fun z5 st6 => inI z5 ∧ ((z5 = 0 → f9_addLoad_j29 Q a0 a1 st6 2) ∧ (¬ z5 = 0 → f9_addLoad_j29 Q a0 a1 st6 0))) st2 a0 1 999))) st a1
def f9_dropLoad_j22   (Q : Int → St → Prop) (a0 : Int) (st : St) (s0x22 : Int) : Prop :=
  ∀ st5 : St, st5 = up st 9 6 0 0 s0x22 → inI (st5 9 6 0 0) ∧ ((st5 9 6 0 0 ≤ 0 → f9_keeps 0 (fun st9 => f9_drops (fun z10 st11 => Q z10 st11) st9 19 4 a0) st5) ∧ (¬ st5 9 6 0 0 ≤ 0 → Q 0 st5))
def f9_dropLoad  (Q : Int → St → Prop) (st : St) (a0 : Int) : Prop :=
  f9_isIn (fun z1 st2 => inI z1 ∧ ((z1 = 0 → f9_dropLoad_j22 Q a0 st2 1) ∧ (¬ z1 = 0 → f9_dropLoad_j22 Q a0 st2 0))) st a0 0 ((st 30 0 0 4) - 1)
def f9_addAxle_j27   (Q : Int → St → Prop) (a0 : Int) (a1 : Int) (st : St) (s0x27 : Int) : Prop :=
  ∀ st9 : St, st9 = up st 9 6 0 0 s0x27 → inI (st9 9 6 0 0) ∧ ((st9 9 6 0 0 ≤ 0 → inI (st9 30 0 0 5) ∧ ((st9 30 0 0 5 = 6 → Q (-14) st9) ∧ (¬ st9 30 0 0 5 = 6 → f9_keeps 0 (fun st15 => f9_adds (fun st17 => Q ((st17 30 0 0 5) - 1) st17) st15 35 5 a0 a1) st9))) ∧ (¬ st9 9 6 0 0 ≤ 0 → Q 0 st9))
def f9_addAxle_j26   (Q : Int → St → Prop) (a0 : Int) (a1 : Int) (st : St)  : Prop :=
  f9_addAxle_j27 Q a0 a1 st 1
def f9_addAxle  (Q : Int → St → Prop) (st : St) (a0 : Int) (a1 : Int) : Prop :=
  f9_isIn (fun z1 st2 => inI z1 ∧ ((z1 = 0 → f9_addAxle_j26 Q a0 a1 st2) ∧ (¬ z1 = 0 → f9_isIn (fun z5 st6 => inI z5 ∧ ((z5 = 0 → f9_addAxle_j26 Q a0 a1 st6) ∧ (¬ z5 = 0 → f9_addAxle_j27 Q a0 a1 st6 0))) st2 a1 0 30))) st a0 1 999
def f9_dropAxle_j22   (Q : Int → St → Prop) (a0 : Int) (st : St) (s0x22 : Int) : Prop :=
  ∀ st5 : St, st5 = up st 9 6 0 0 s0x22 → inI (st5 9 6 0 0) ∧ ((st5 9 6 0 0 ≤ 0 → f9_keeps 0 (fun st9 => f9_drops (fun z10 st11 => Q z10 st11) st9 35 5 a0) st5) ∧ (¬ st5 9 6 0 0 ≤ 0 → Q 0 st5))
def f9_dropAxle  (Q : Int → St → Prop) (st : St) (a0 : Int) : Prop :=
  f9_isIn (fun z1 st2 => inI z1 ∧ ((z1 = 0 → f9_dropAxle_j22 Q a0 st2 1) ∧ (¬ z1 = 0 → f9_dropAxle_j22 Q a0 st2 0))) st a0 0 ((st 30 0 0 5) - 1)
def f9_setBearing_j33   (Q : Int → St → Prop) (a0 : Int) (a1 : Int) (st : St) (s0x33 : Int) : Prop :=
  ∀ st11 : St, st11 = up st 9 6 0 0 s0x33 → inI (st11 9 6 0 0) ∧ ((st11 9 6 0 0 ≤ 0 → f9_keeps 0 (fun st15 => f9_bearsOf (fun z16 st17 => (0 : Int) ≤ (6 + (2 * a0)) + 1 ∧ (6 + (2 * a0)) + 1 < mlen 0 ∧ ∀ st20 : St, st20 = up st17 30 0 0 ((6 + (2 * a0)) + 1) a1 → Q z16 st20) st15 a0) st11) ∧ (¬ st11 9 6 0 0 ≤ 0 → Q 0 st11))
def f9_setBearing_j28   (Q : Int → St → Prop) (a0 : Int) (a1 : Int) (st : St)  : Prop :=
  f9_setBearing_j33 Q a0 a1 st 0
def f9_setBearing  (Q : Int → St → Prop) (st : St) (a0 : Int) (a1 : Int) : Prop :=
  f9_isSupport (fun z1 st2 => inI z1 ∧ ((z1 = 0 → f9_setBearing_j33 Q a0 a1 st2 1) ∧ (¬ z1 = 0 → inI a1 ∧ ((a1 = (-1) → f9_setBearing_j28 Q a0 a1 st2) ∧ (¬ a1 = (-1) → f9_isIn (fun z7 st8 => inI z7 ∧ ((z7 = 0 → f9_setBearing_j33 Q a0 a1 st8 2) ∧ (¬ z7 = 0 → f9_setBearing_j28 Q a0 a1 st8))) st2 a1 1 99999))))) st a0
def f9_setMost_j16   (Q : Int → St → Prop) (a0 : Int) (st : St) (s0x16 : Int) : Prop :=
  ∀ st5 : St, st5 = up st 9 6 0 0 s0x16 → inI (st5 9 6 0 0) ∧ ((st5 9 6 0 0 ≤ 0 → f9_keeps 0 (fun st9 => ∀ x10 : Int, x10 = st9 30 0 0 1 → ∀ st11 : St, st11 = up st9 30 0 0 1 a0 → Q x10 st11) st5) ∧ (¬ st5 9 6 0 0 ≤ 0 → Q 0 st5))
def f9_setMost  (Q : Int → St → Prop) (st : St) (a0 : Int) : Prop :=
  f9_isIn (fun z1 st2 => inI z1 ∧ ((z1 = 0 → f9_setMost_j16 Q a0 st2 1) ∧ (¬ z1 = 0 → f9_setMost_j16 Q a0 st2 0))) st a0 1 999999
def f9_hasLoad_l2   (Q : Int → St → Prop) (a0 : Int) : Nat → St → Int → Prop
  | 0, _, _ => False
  | n + 1, st, v2x2 =>
  inI v2x2 ∧ inI (st 30 0 0 4) ∧ ((st 30 0 0 4 ≤ v2x2 → Q 0 st) ∧ (¬ st 30 0 0 4 ≤ v2x2 → (0 : Int) ≤ (19 + (2 * v2x2)) + 1 ∧ (19 + (2 * v2x2)) + 1 < mlen 0 ∧ inI (st 30 0 0 ((19 + (2 * v2x2)) + 1)) ∧ inI a0 ∧ ((st 30 0 0 ((19 + (2 * v2x2)) + 1) = a0 → Q 1 st) ∧ (¬ st 30 0 0 ((19 + (2 * v2x2)) + 1) = a0 → ∀ x9 : Int, x9 = v2x2 + 1 → f9_hasLoad_l2 Q a0 n st x9))))
def f9_hasLoad  (Q : Int → St → Prop) (st : St) (a0 : Int) : Prop :=
  ∃ k, f9_hasLoad_l2 Q a0 k st 0
def f9_writeBeam_j63  (B7 : St → Int → Prop) (Q : Int → St → Prop)  (st : St) (v1x63 : Int) (s0x63 : Int) (s1x63 : Int) : Prop :=
  (0 : Int) ≤ s1x63 ∧ s1x63 < mlen 6 ∧ ∀ st24 : St, st24 = up st 30 0 6 s1x63 s0x63 → ∀ x25 : Int, x25 = v1x63 + 1 → B7 st24 x25
def f9_writeBeam_l7   (Q : Int → St → Prop)  : Nat → St → Int → Prop
  | 0, _, _ => False
  | n + 1, st, v1x7 =>
  f9_places (fun z2 st3 => inI v1x7 ∧ inI z2 ∧ ((z2 ≤ v1x7 → f9_places (fun z7 st8 => ∀ st9 : St, st9 = up st8 9 21 0 0 z7 → Q (st9 9 21 0 0) st9) st3) ∧ (¬ z2 ≤ v1x7 → f9_supportAt (fun z10 st11 => inI z10 ∧ ((z10 = (-1) → f9_hingeAt (fun z14 st15 => inI z14 ∧ ((z14 = (-1) → f9_hasLoad (fun z18 st19 => inI z18 ∧ ((z18 = 0 → f9_writeBeam_j63 (fun st v1x7 => f9_writeBeam_l7 Q n st v1x7) Q st19 v1x7 45 v1x7) ∧ (¬ z18 = 0 → f9_writeBeam_j63 (fun st v1x7 => f9_writeBeam_l7 Q n st v1x7) Q st19 v1x7 118 v1x7))) st15 v1x7) ∧ (¬ z14 = (-1) → f9_writeBeam_j63 (fun st v1x7 => f9_writeBeam_l7 Q n st v1x7) Q st15 v1x7 111 v1x7))) st11 v1x7) ∧ (¬ z10 = (-1) → f9_writeBeam_j63 (fun st v1x7 => f9_writeBeam_l7 Q n st v1x7) Q st11 v1x7 94 v1x7))) st3 v1x7))) st
def f9_writeBeam  (Q : Int → St → Prop) (st : St)  : Prop :=
  ∀ st1 : St, st1 = up st 9 6 0 0 0 → ∃ k, f9_writeBeam_l7 Q k st1 0
def f9_writtenByte_j20   (Q : Int → St → Prop) (a0 : Int) (st : St) (s0x20 : Int) : Prop :=
  ∀ st5 : St, st5 = up st 9 6 0 0 s0x20 → inI (st5 9 6 0 0) ∧ ((st5 9 6 0 0 ≤ 0 → (0 : Int) ≤ a0 ∧ a0 < mlen 6 ∧ Q (st5 30 0 6 a0) st5) ∧ (¬ st5 9 6 0 0 ≤ 0 → Q 0 st5))
def f9_writtenByte  (Q : Int → St → Prop) (st : St) (a0 : Int) : Prop :=
  f9_isIn (fun z1 st2 => inI z1 ∧ ((z1 = 0 → f9_writtenByte_j20 Q a0 st2 1) ∧ (¬ z1 = 0 → f9_writtenByte_j20 Q a0 st2 0))) st a0 0 ((st 9 21 0 0) - 1)
