/-! THE TYPED WORLD: st kind slot id index -/
abbrev St : Type := Nat → Nat → Int → Int → Int
def up (st : St) (K s : Nat) (i j v : Int) : St := fun K' s' i' j' => if K' = K ∧ s' = s ∧ i' = i ∧ j' = j then v else st K' s' i' j'
def rcap (i : Int) : Int := if i % 4 = 0 then 5 else if i % 4 = 1 then 3 else if i % 4 = 2 then 8 else 6
def mlen (i : Int) : Int := if i = 2 then 376 else if i = 3 then 94 else if i = 4 then 500 else if i = 6 then 31 else 47
theorem rcap_le (i : Int) : rcap i ≤ 1000 := by unfold rcap; repeat' split <;> omega
theorem mlen_le (i : Int) : mlen i ≤ 1000 := by unfold mlen; repeat' split <;> omega

def cnt (K : Nat) : Int := if K = 0 then 13 else if K = 1 then 2 else if K = 2 then 1 else if K = 3 then 2 else if K = 4 then 1 else if K = 5 then 1 else if K = 6 then 52 else if K = 7 then 1 else if K = 8 then 1 else if K = 9 then 1 else if K = 10 then 52 else if K = 11 then 52 else if K = 12 then 2 else if K = 13 then 2 else if K = 14 then 2 else if K = 15 then 2 else if K = 16 then 1 else if K = 17 then 2 else if K = 18 then 10 else if K = 19 then 2 else if K = 20 then 10 else if K = 21 then 1 else if K = 22 then 1 else if K = 23 then 1 else if K = 24 then 1 else if K = 25 then 1 else if K = 26 then 1 else if K = 27 then 1 else if K = 28 then 1 else if K = 30 then 7 else if K = 34 then 1 else if K = 36 then 1 else if K = 37 then 1 else 0
def cel (ct : Nat → ClassId) (ad : Nat → Int → Nat) (K : Nat) (i : Int) (st : St) : va_E :=
  if K = 0 then .inr (0, [.int (iI (st 0 0 i 0)), .int (iI (st 0 1 i 0)), .ref (ad 6 (4 * i)), .ref (ad 6 (4 * i + 1)), .ref (ad 6 (4 * i + 2)), .ref (ad 6 (4 * i + 3))]) else
  if K = 1 then .inr (1, [.ref (ad 12 (i)), .ref (ad 13 (i)), .ref (ad 14 (i)), .ref (ad 15 (i)), .int (iI (st 1 4 i 0))]) else
  if K = 2 then .inr (2, [.ref (ad 16 (0)), .int (iI (st 2 1 i 0))]) else
  if K = 3 then .inr (3, [.ref (ad 17 (i)), .ref (ad 19 (i)), .int (iI (st 3 2 i 0)), .int (iI (st 3 3 i 0)), .long (lI (st 3 4 i 0))]) else
  if K = 4 then .inr (4, [.long (lI (st 4 0 i 0)), .int (iI (st 4 1 i 0))]) else
  if K = 5 then .inr (5, [.ref (ad 7 (0)), .ref (ad 0 (2)), .int (iI (st 5 2 i 0)), .int (iI (st 5 3 i 0)), .int (iI (st 5 4 i 0))]) else
  if K = 6 then .inr (6, [.ref (ad 10 (i)), .ref (ad 11 (i)), .int (iI (st 6 2 i 0))]) else
  if K = 7 then .inr (7, [.ref (ad 21 (0)), .int (iI (st 7 1 i 0)), .ref (ad 22 (0)), .ref (ad 23 (0)), .ref (ad 24 (0)), .ref (ad 25 (0)), .int (iI (st 7 6 i 0))]) else
  if K = 8 then .inr (8, [.ref (ad 5 (0)), .int (iI (st 8 1 i 0)), .ref (ad 0 (0)), .ref (ad 3 (0)), .ref (ad 0 (1)), .ref (ad 3 (1)), .ref (ad 1 (0)), .ref (ad 1 (1)), .ref (ad 4 (0)), .ref (ad 2 (0)), .ref (ad 26 (0)), .ref (ad 27 (0)), .ref (ad 28 (0)), .int (iI (st 8 13 i 0))]) else
  if K = 9 then .inr (9, [.ref (ad 30 (0)), .ref (ad 30 (1)), .ref (ad 30 (2)), .ref (ad 30 (3)), .ref (ad 34 (0)), .int (iI (st 9 5 i 0)), .int (iI (st 9 6 i 0)), .ref (ad 30 (4)), .int (iI (st 9 8 i 0)), .int (iI (st 9 9 i 0)), .int (iI (st 9 10 i 0)), .int (iI (st 9 11 i 0)), .int (iI (st 9 12 i 0)), .int (iI (st 9 13 i 0)), .int (iI (st 9 14 i 0)), .int (iI (st 9 15 i 0)), .ref (ad 36 (0)), .ref (ad 37 (0)), .long (lI (st 9 18 i 0)), .ref (ad 30 (5)), .ref (ad 30 (6)), .int (iI (st 9 21 i 0))]) else
  if K = 10 then .inl (ct 0, (rcap i : Int).toNat, .inl (fun j : Nat => iI (st 10 0 i (j : Int)))) else
  if K = 11 then .inl (ct 0, (rcap i : Int).toNat, .inl (fun j : Nat => iI (st 11 0 i (j : Int)))) else
  if K = 12 then .inl (ct 0, (31 : Int).toNat, .inl (fun j : Nat => iI (st 12 0 i (j : Int)))) else
  if K = 13 then .inl (ct 1, (5 : Int).toNat, .inr (.inl (fun j : Nat => lI (st 13 0 i (j : Int))))) else
  if K = 14 then .inl (ct 1, (31 : Int).toNat, .inr (.inl (fun j : Nat => lI (st 14 0 i (j : Int))))) else
  if K = 15 then .inl (ct 1, (31 : Int).toNat, .inr (.inl (fun j : Nat => lI (st 15 0 i (j : Int))))) else
  if K = 16 then .inl (ct 4, (8 : Int).toNat, .inr (.inr (.inr (.inr (fun j : Nat => some (ad 0 (st 16 0 i (j : Int)))))))) else
  if K = 17 then .inl (ct 5, (5 : Int).toNat, .inr (.inr (.inr (.inr (fun j : Nat => some (ad 18 (5 * i + (j : Int)))))))) else
  if K = 18 then .inl (ct 1, (10 : Int).toNat, .inr (.inl (fun j : Nat => lI (st 18 0 i (j : Int))))) else
  if K = 19 then .inl (ct 5, (5 : Int).toNat, .inr (.inr (.inr (.inr (fun j : Nat => some (ad 20 (5 * i + (j : Int)))))))) else
  if K = 20 then .inl (ct 1, (31 : Int).toNat, .inr (.inl (fun j : Nat => lI (st 20 0 i (j : Int))))) else
  if K = 21 then .inl (ct 2, (500 : Int).toNat, .inl (fun j : Nat => iI (st 21 0 i (j : Int)))) else
  if K = 22 then .inl (ct 0, (500 : Int).toNat, .inl (fun j : Nat => iI (st 22 0 i (j : Int)))) else
  if K = 23 then .inl (ct 0, (500 : Int).toNat, .inl (fun j : Nat => iI (st 23 0 i (j : Int)))) else
  if K = 24 then .inl (ct 0, (500 : Int).toNat, .inl (fun j : Nat => iI (st 24 0 i (j : Int)))) else
  if K = 25 then .inl (ct 0, (500 : Int).toNat, .inl (fun j : Nat => iI (st 25 0 i (j : Int)))) else
  if K = 26 then .inl (ct 4, (2 : Int).toNat, .inr (.inr (.inr (.inr (fun j : Nat => some (ad 0 (3 + (j : Int)))))))) else
  if K = 27 then .inl (ct 3, (2 : Int).toNat, .inl (fun j : Nat => iI (st 27 0 i (j : Int)))) else
  if K = 28 then .inl (ct 2, (31 : Int).toNat, .inl (fun j : Nat => iI (st 28 0 i (j : Int)))) else
  if K = 30 then .inl (ct 0, (mlen i : Int).toNat, .inl (fun j : Nat => iI (st 30 0 i (j : Int)))) else
  if K = 34 then .inl (ct 3, (2 : Int).toNat, .inl (fun j : Nat => iI (st 34 0 i (j : Int)))) else
  if K = 36 then .inl (ct 1, (25 : Int).toNat, .inr (.inl (fun j : Nat => lI (st 36 0 i (j : Int))))) else
  if K = 37 then .inl (ct 1, (155 : Int).toNat, .inr (.inl (fun j : Nat => lI (st 37 0 i (j : Int))))) else
  .inr (0, [])
theorem cel_0 (ct : Nat → ClassId) (ad : Nat → Int → Nat) (i : Int) (st : St) : cel ct ad 0 i st = .inr (0, [.int (iI (st 0 0 i 0)), .int (iI (st 0 1 i 0)), .ref (ad 6 (4 * i)), .ref (ad 6 (4 * i + 1)), .ref (ad 6 (4 * i + 2)), .ref (ad 6 (4 * i + 3))]) := rfl
theorem cel_1 (ct : Nat → ClassId) (ad : Nat → Int → Nat) (i : Int) (st : St) : cel ct ad 1 i st = .inr (1, [.ref (ad 12 (i)), .ref (ad 13 (i)), .ref (ad 14 (i)), .ref (ad 15 (i)), .int (iI (st 1 4 i 0))]) := rfl
theorem cel_2 (ct : Nat → ClassId) (ad : Nat → Int → Nat) (i : Int) (st : St) : cel ct ad 2 i st = .inr (2, [.ref (ad 16 (0)), .int (iI (st 2 1 i 0))]) := rfl
theorem cel_3 (ct : Nat → ClassId) (ad : Nat → Int → Nat) (i : Int) (st : St) : cel ct ad 3 i st = .inr (3, [.ref (ad 17 (i)), .ref (ad 19 (i)), .int (iI (st 3 2 i 0)), .int (iI (st 3 3 i 0)), .long (lI (st 3 4 i 0))]) := rfl
theorem cel_4 (ct : Nat → ClassId) (ad : Nat → Int → Nat) (i : Int) (st : St) : cel ct ad 4 i st = .inr (4, [.long (lI (st 4 0 i 0)), .int (iI (st 4 1 i 0))]) := rfl
theorem cel_5 (ct : Nat → ClassId) (ad : Nat → Int → Nat) (i : Int) (st : St) : cel ct ad 5 i st = .inr (5, [.ref (ad 7 (0)), .ref (ad 0 (2)), .int (iI (st 5 2 i 0)), .int (iI (st 5 3 i 0)), .int (iI (st 5 4 i 0))]) := rfl
theorem cel_6 (ct : Nat → ClassId) (ad : Nat → Int → Nat) (i : Int) (st : St) : cel ct ad 6 i st = .inr (6, [.ref (ad 10 (i)), .ref (ad 11 (i)), .int (iI (st 6 2 i 0))]) := rfl
theorem cel_7 (ct : Nat → ClassId) (ad : Nat → Int → Nat) (i : Int) (st : St) : cel ct ad 7 i st = .inr (7, [.ref (ad 21 (0)), .int (iI (st 7 1 i 0)), .ref (ad 22 (0)), .ref (ad 23 (0)), .ref (ad 24 (0)), .ref (ad 25 (0)), .int (iI (st 7 6 i 0))]) := rfl
theorem cel_8 (ct : Nat → ClassId) (ad : Nat → Int → Nat) (i : Int) (st : St) : cel ct ad 8 i st = .inr (8, [.ref (ad 5 (0)), .int (iI (st 8 1 i 0)), .ref (ad 0 (0)), .ref (ad 3 (0)), .ref (ad 0 (1)), .ref (ad 3 (1)), .ref (ad 1 (0)), .ref (ad 1 (1)), .ref (ad 4 (0)), .ref (ad 2 (0)), .ref (ad 26 (0)), .ref (ad 27 (0)), .ref (ad 28 (0)), .int (iI (st 8 13 i 0))]) := rfl
theorem cel_9 (ct : Nat → ClassId) (ad : Nat → Int → Nat) (i : Int) (st : St) : cel ct ad 9 i st = .inr (9, [.ref (ad 30 (0)), .ref (ad 30 (1)), .ref (ad 30 (2)), .ref (ad 30 (3)), .ref (ad 34 (0)), .int (iI (st 9 5 i 0)), .int (iI (st 9 6 i 0)), .ref (ad 30 (4)), .int (iI (st 9 8 i 0)), .int (iI (st 9 9 i 0)), .int (iI (st 9 10 i 0)), .int (iI (st 9 11 i 0)), .int (iI (st 9 12 i 0)), .int (iI (st 9 13 i 0)), .int (iI (st 9 14 i 0)), .int (iI (st 9 15 i 0)), .ref (ad 36 (0)), .ref (ad 37 (0)), .long (lI (st 9 18 i 0)), .ref (ad 30 (5)), .ref (ad 30 (6)), .int (iI (st 9 21 i 0))]) := rfl
theorem cel_10 (ct : Nat → ClassId) (ad : Nat → Int → Nat) (i : Int) (st : St) : cel ct ad 10 i st = .inl (ct 0, (rcap i : Int).toNat, .inl (fun j : Nat => iI (st 10 0 i (j : Int)))) := rfl
theorem cel_11 (ct : Nat → ClassId) (ad : Nat → Int → Nat) (i : Int) (st : St) : cel ct ad 11 i st = .inl (ct 0, (rcap i : Int).toNat, .inl (fun j : Nat => iI (st 11 0 i (j : Int)))) := rfl
theorem cel_12 (ct : Nat → ClassId) (ad : Nat → Int → Nat) (i : Int) (st : St) : cel ct ad 12 i st = .inl (ct 0, (31 : Int).toNat, .inl (fun j : Nat => iI (st 12 0 i (j : Int)))) := rfl
theorem cel_13 (ct : Nat → ClassId) (ad : Nat → Int → Nat) (i : Int) (st : St) : cel ct ad 13 i st = .inl (ct 1, (5 : Int).toNat, .inr (.inl (fun j : Nat => lI (st 13 0 i (j : Int))))) := rfl
theorem cel_14 (ct : Nat → ClassId) (ad : Nat → Int → Nat) (i : Int) (st : St) : cel ct ad 14 i st = .inl (ct 1, (31 : Int).toNat, .inr (.inl (fun j : Nat => lI (st 14 0 i (j : Int))))) := rfl
theorem cel_15 (ct : Nat → ClassId) (ad : Nat → Int → Nat) (i : Int) (st : St) : cel ct ad 15 i st = .inl (ct 1, (31 : Int).toNat, .inr (.inl (fun j : Nat => lI (st 15 0 i (j : Int))))) := rfl
theorem cel_16 (ct : Nat → ClassId) (ad : Nat → Int → Nat) (i : Int) (st : St) : cel ct ad 16 i st = .inl (ct 4, (8 : Int).toNat, .inr (.inr (.inr (.inr (fun j : Nat => some (ad 0 (st 16 0 i (j : Int)))))))) := rfl
theorem cel_17 (ct : Nat → ClassId) (ad : Nat → Int → Nat) (i : Int) (st : St) : cel ct ad 17 i st = .inl (ct 5, (5 : Int).toNat, .inr (.inr (.inr (.inr (fun j : Nat => some (ad 18 (5 * i + (j : Int)))))))) := rfl
theorem cel_18 (ct : Nat → ClassId) (ad : Nat → Int → Nat) (i : Int) (st : St) : cel ct ad 18 i st = .inl (ct 1, (10 : Int).toNat, .inr (.inl (fun j : Nat => lI (st 18 0 i (j : Int))))) := rfl
theorem cel_19 (ct : Nat → ClassId) (ad : Nat → Int → Nat) (i : Int) (st : St) : cel ct ad 19 i st = .inl (ct 5, (5 : Int).toNat, .inr (.inr (.inr (.inr (fun j : Nat => some (ad 20 (5 * i + (j : Int)))))))) := rfl
theorem cel_20 (ct : Nat → ClassId) (ad : Nat → Int → Nat) (i : Int) (st : St) : cel ct ad 20 i st = .inl (ct 1, (31 : Int).toNat, .inr (.inl (fun j : Nat => lI (st 20 0 i (j : Int))))) := rfl
theorem cel_21 (ct : Nat → ClassId) (ad : Nat → Int → Nat) (i : Int) (st : St) : cel ct ad 21 i st = .inl (ct 2, (500 : Int).toNat, .inl (fun j : Nat => iI (st 21 0 i (j : Int)))) := rfl
theorem cel_22 (ct : Nat → ClassId) (ad : Nat → Int → Nat) (i : Int) (st : St) : cel ct ad 22 i st = .inl (ct 0, (500 : Int).toNat, .inl (fun j : Nat => iI (st 22 0 i (j : Int)))) := rfl
theorem cel_23 (ct : Nat → ClassId) (ad : Nat → Int → Nat) (i : Int) (st : St) : cel ct ad 23 i st = .inl (ct 0, (500 : Int).toNat, .inl (fun j : Nat => iI (st 23 0 i (j : Int)))) := rfl
theorem cel_24 (ct : Nat → ClassId) (ad : Nat → Int → Nat) (i : Int) (st : St) : cel ct ad 24 i st = .inl (ct 0, (500 : Int).toNat, .inl (fun j : Nat => iI (st 24 0 i (j : Int)))) := rfl
theorem cel_25 (ct : Nat → ClassId) (ad : Nat → Int → Nat) (i : Int) (st : St) : cel ct ad 25 i st = .inl (ct 0, (500 : Int).toNat, .inl (fun j : Nat => iI (st 25 0 i (j : Int)))) := rfl
theorem cel_26 (ct : Nat → ClassId) (ad : Nat → Int → Nat) (i : Int) (st : St) : cel ct ad 26 i st = .inl (ct 4, (2 : Int).toNat, .inr (.inr (.inr (.inr (fun j : Nat => some (ad 0 (3 + (j : Int)))))))) := rfl
theorem cel_27 (ct : Nat → ClassId) (ad : Nat → Int → Nat) (i : Int) (st : St) : cel ct ad 27 i st = .inl (ct 3, (2 : Int).toNat, .inl (fun j : Nat => iI (st 27 0 i (j : Int)))) := rfl
theorem cel_28 (ct : Nat → ClassId) (ad : Nat → Int → Nat) (i : Int) (st : St) : cel ct ad 28 i st = .inl (ct 2, (31 : Int).toNat, .inl (fun j : Nat => iI (st 28 0 i (j : Int)))) := rfl
theorem cel_30 (ct : Nat → ClassId) (ad : Nat → Int → Nat) (i : Int) (st : St) : cel ct ad 30 i st = .inl (ct 0, (mlen i : Int).toNat, .inl (fun j : Nat => iI (st 30 0 i (j : Int)))) := rfl
theorem cel_34 (ct : Nat → ClassId) (ad : Nat → Int → Nat) (i : Int) (st : St) : cel ct ad 34 i st = .inl (ct 3, (2 : Int).toNat, .inl (fun j : Nat => iI (st 34 0 i (j : Int)))) := rfl
theorem cel_36 (ct : Nat → ClassId) (ad : Nat → Int → Nat) (i : Int) (st : St) : cel ct ad 36 i st = .inl (ct 1, (25 : Int).toNat, .inr (.inl (fun j : Nat => lI (st 36 0 i (j : Int))))) := rfl
theorem cel_37 (ct : Nat → ClassId) (ad : Nat → Int → Nat) (i : Int) (st : St) : cel ct ad 37 i st = .inl (ct 1, (155 : Int).toNat, .inr (.inl (fun j : Nat => lI (st 37 0 i (j : Int))))) := rfl
theorem cel_ext (ct : Nat → ClassId) (ad : Nat → Int → Nat) (K : Nat) (i : Int) (st st' : St) (h : ∀ s j, st K s i j = st' K s i j) : cel ct ad K i st = cel ct ad K i st' := by
  by_cases e0 : K = 0
  · subst e0
    rw [cel_0, cel_0]
    try simp only [h]
  by_cases e1 : K = 1
  · subst e1
    rw [cel_1, cel_1]
    try simp only [h]
  by_cases e2 : K = 2
  · subst e2
    rw [cel_2, cel_2]
    try simp only [h]
  by_cases e3 : K = 3
  · subst e3
    rw [cel_3, cel_3]
    try simp only [h]
  by_cases e4 : K = 4
  · subst e4
    rw [cel_4, cel_4]
    try simp only [h]
  by_cases e5 : K = 5
  · subst e5
    rw [cel_5, cel_5]
    try simp only [h]
  by_cases e6 : K = 6
  · subst e6
    rw [cel_6, cel_6]
    try simp only [h]
  by_cases e7 : K = 7
  · subst e7
    rw [cel_7, cel_7]
    try simp only [h]
  by_cases e8 : K = 8
  · subst e8
    rw [cel_8, cel_8]
    try simp only [h]
  by_cases e9 : K = 9
  · subst e9
    rw [cel_9, cel_9]
    try simp only [h]
  by_cases e10 : K = 10
  · subst e10
    rw [cel_10, cel_10]
    try simp only [h]
  by_cases e11 : K = 11
  · subst e11
    rw [cel_11, cel_11]
    try simp only [h]
  by_cases e12 : K = 12
  · subst e12
    rw [cel_12, cel_12]
    try simp only [h]
  by_cases e13 : K = 13
  · subst e13
    rw [cel_13, cel_13]
    try simp only [h]
  by_cases e14 : K = 14
  · subst e14
    rw [cel_14, cel_14]
    try simp only [h]
  by_cases e15 : K = 15
  · subst e15
    rw [cel_15, cel_15]
    try simp only [h]
  by_cases e16 : K = 16
  · subst e16
    rw [cel_16, cel_16]
    try simp only [h]
  by_cases e17 : K = 17
  · subst e17
    rw [cel_17, cel_17]
    try simp only [h]
  by_cases e18 : K = 18
  · subst e18
    rw [cel_18, cel_18]
    try simp only [h]
  by_cases e19 : K = 19
  · subst e19
    rw [cel_19, cel_19]
    try simp only [h]
  by_cases e20 : K = 20
  · subst e20
    rw [cel_20, cel_20]
    try simp only [h]
  by_cases e21 : K = 21
  · subst e21
    rw [cel_21, cel_21]
    try simp only [h]
  by_cases e22 : K = 22
  · subst e22
    rw [cel_22, cel_22]
    try simp only [h]
  by_cases e23 : K = 23
  · subst e23
    rw [cel_23, cel_23]
    try simp only [h]
  by_cases e24 : K = 24
  · subst e24
    rw [cel_24, cel_24]
    try simp only [h]
  by_cases e25 : K = 25
  · subst e25
    rw [cel_25, cel_25]
    try simp only [h]
  by_cases e26 : K = 26
  · subst e26
    rw [cel_26, cel_26]
    try simp only [h]
  by_cases e27 : K = 27
  · subst e27
    rw [cel_27, cel_27]
    try simp only [h]
  by_cases e28 : K = 28
  · subst e28
    rw [cel_28, cel_28]
    try simp only [h]
  by_cases e30 : K = 30
  · subst e30
    rw [cel_30, cel_30]
    try simp only [h]
  by_cases e34 : K = 34
  · subst e34
    rw [cel_34, cel_34]
    try simp only [h]
  by_cases e36 : K = 36
  · subst e36
    rw [cel_36, cel_36]
    try simp only [h]
  by_cases e37 : K = 37
  · subst e37
    rw [cel_37, cel_37]
    try simp only [h]
  unfold cel
  rw [if_neg e0, if_neg e1, if_neg e2, if_neg e3, if_neg e4, if_neg e5, if_neg e6, if_neg e7, if_neg e8, if_neg e9, if_neg e10, if_neg e11, if_neg e12, if_neg e13, if_neg e14, if_neg e15, if_neg e16, if_neg e17, if_neg e18, if_neg e19, if_neg e20, if_neg e21, if_neg e22, if_neg e23, if_neg e24, if_neg e25, if_neg e26, if_neg e27, if_neg e28, if_neg e30, if_neg e34, if_neg e36, if_neg e37, if_neg e0, if_neg e1, if_neg e2, if_neg e3, if_neg e4, if_neg e5, if_neg e6, if_neg e7, if_neg e8, if_neg e9, if_neg e10, if_neg e11, if_neg e12, if_neg e13, if_neg e14, if_neg e15, if_neg e16, if_neg e17, if_neg e18, if_neg e19, if_neg e20, if_neg e21, if_neg e22, if_neg e23, if_neg e24, if_neg e25, if_neg e26, if_neg e27, if_neg e28, if_neg e30, if_neg e34, if_neg e36, if_neg e37]
theorem cel_up (ct : Nat → ClassId) (ad : Nat → Int → Nat) (K K' s : Nat) (i i' j v : Int) (st : St) (h : ¬ (K' = K ∧ i' = i)) : cel ct ad K' i' (up st K s i j v) = cel ct ad K' i' st :=
  cel_ext _ _ _ _ _ _ (fun s' j' => by unfold up; rw [if_neg (fun q => h ⟨q.1, q.2.2.1⟩)])
theorem up_same (st : St) (K s : Nat) (i j v : Int) : up st K s i j v K s i j = v := if_pos ⟨rfl, rfl, rfl, rfl⟩
def vC (K : Nat) (i : Int) : Prop := K < 29 ∧ ¬ K = 9 ∧ 0 ≤ i ∧ i < cnt K
def vM (K : Nat) (i : Int) : Prop := (K = 9 ∨ 29 < K) ∧ 0 ≤ i ∧ i < cnt K
/-- the world's constants: classes, array classes, addresses, the region -/
abbrev WG : Type := va_G × (Nat → ClassId) × (Nat → Int → Nat) × (Nat → Prop) × (Nat → Nat) × (Nat → Nat)
abbrev tysW (ct : Nat → ClassId) : List (ClassId × FieldType) := [(ct 0, .int), (ct 1, .long), (ct 2, .char), (ct 3, .boolean), (ct 4, .object "BeamLines$Beam"), (ct 5, .array .long)]
abbrev KW (G : WG) (U : State) : Prop := va_K G.1 vwCl (tysW G.2.1) U
def Iv (V : Nat → Int → Prop) (G : WG) (st : St) (H : Heap) : Prop := (∀ K i K' i', V K i → V K' i' → G.2.2.1 K i = G.2.2.1 K' i' → K = K' ∧ i = i') ∧
  ∃ (L : List Nat) (f : Nat → va_E), va_P G.1 vwCl ([] ++ va_pl L f) H ∧ va_D G.2.2.2.1 ([] ++ va_pl L f) ∧ ∀ K i, V K i → G.2.2.1 K i ∈ L ∧ f (G.2.2.1 K i) = cel G.2.1 G.2.2.1 K i st

def strT : List (String × Nat × String × Nat) := [("BeamLines$Reader", 58, "beam", 0), ("BeamLines$Reader", 67, "most", 1), ("BeamLines$Reader", 78, "support", 2), ("BeamLines$Reader", 87, "hinge", 3), ("BeamLines$Reader", 92, "load", 4), ("BeamLines$Reader", 104, "axle", 5), ("BeamLines$Reader", 98, "at", 6), ("BeamLines$Reader", 109, "behind", 7), ("BeamLines$Reader", 128, "bears", 8), ("BeamLinesModel", 183, "beam", 0), ("BeamLinesModel", 185, "most", 1), ("BeamLinesModel", 163, "support", 2), ("BeamLinesModel", 168, "hinge", 3), ("BeamLinesModel", 173, "load", 4), ("BeamLinesModel", 180, "axle", 5), ("BeamLinesModel", 175, "at", 6), ("BeamLinesModel", 182, "behind", 7), ("BeamLinesModel", 144, "bears", 8)]
def lenW : List Nat := [4, 4, 7, 5, 4, 4, 2, 6, 5]
def bytW : List (List Int32) := [[98, 101, 97, 109], [109, 111, 115, 116], [115, 117, 112, 112, 111, 114, 116], [104, 105, 110, 103, 101], [108, 111, 97, 100], [97, 120, 108, 101], [97, 116], [98, 101, 104, 105, 110, 100], [98, 101, 97, 114, 115]]
def xDs : List String := ["java/lang/RuntimeException", "java/lang/Exception", "java/lang/Throwable"]
def xCs : List String := ["java/lang/IllegalArgumentException", "java/lang/IllegalStateException", "java/lang/IndexOutOfBoundsException"]
/-- what stays as it is from the law's entry on: the text constants, statics of the JDK, the words of a throw -/
def XW (G : WG) (U : State) (H : Heap) : Prop := vk_S 9 lenW bytW G.2.2.2.2.1 G.2.2.2.2.2 G.2.2.2.1 U H ∧ va_Z "java/lang/String" "COMPACT_STRINGS" "Z" (.int 1) G.2.2.2.1 U H ∧ vx_Zq Bundle.tN "UNASSIGNED_STACK" Bundle.steD G.2.2.2.1 U H ∧ vx_Zq Bundle.tN "SUPPRESSED_SENTINEL" Bundle.listD G.2.2.2.1 U H ∧
  (∀ C ∈ xDs, va_Nw (.declares ⟨C, "<init>", "()V"⟩) U) ∧ (∀ C ∈ xCs, va_Nw (.castable C C) U) ∧ (∀ q ∈ strT, vk_R q.1 q.2.1 q.2.2.1 (G.2.2.2.2.1 q.2.2.2) U) ∧ va_Zq "jdk/internal/util/Preconditions" "SIOOBE_FORMATTER" "Ljava/util/function/BiFunction;" G.2.2.2.1 U H
theorem XW_warm {G : WG} {s U : State} {H : Heap} (hW : s.WarmedH U.vm) (h : XW G s H) : XW G U H :=
  ⟨h.1.moved hW.alike, h.2.1.moved hW.alike, h.2.2.1.moved hW.alike, h.2.2.2.1.moved hW.alike, fun C hC => va_Nw.warmD hW (h.2.2.2.2.1 C hC), fun C hC => va_Nw.warmC hW (h.2.2.2.2.2.1 C hC), fun q hq => vk_R.warm hW (h.2.2.2.2.2.2.1 q hq), h.2.2.2.2.2.2.2.moved hW.alike⟩
theorem XW_same {G : WG} {u U : State} {H : Heap} (hv : u.vm = U.vm) (h : XW G u H) : XW G U H := by
  have ha : u.vm.Alike U.vm := hv ▸ Vm.Alike.refl u.vm
  exact ⟨h.1.moved ha, h.2.1.moved ha, h.2.2.1.moved ha, h.2.2.2.1.moved ha, fun C hC => va_Nw.same rfl hv (h.2.2.2.2.1 C hC), fun C hC => va_Nw.same rfl hv (h.2.2.2.2.2.1 C hC), fun q hq => vk_R.same hv.symm (h.2.2.2.2.2.2.1 q hq), h.2.2.2.2.2.2.2.moved ha⟩
theorem XW_kept {G : WG} {U : State} {H H1 : Heap} (hq : ∀ a : Nat, a < H.size → ¬ G.2.2.2.1 a → H1[a]? = H[a]?) (h : XW G U H) : XW G U H1 :=
  ⟨h.1.kept hq, h.2.1.kept hq, h.2.2.1.kept hq, h.2.2.2.1.kept hq, h.2.2.2.2.1, h.2.2.2.2.2.1, h.2.2.2.2.2.2.1, h.2.2.2.2.2.2.2.kept hq⟩
theorem inI_mk {z : Int} (h : decide (-2147483648 ≤ z ∧ z < 2147483648) = true) : inI z := by unfold inI; exact of_decide_eq_true h
theorem inL_mk {z : Int} (h : decide (-9223372036854775808 ≤ z ∧ z < 9223372036854775808) = true) : inL z := by unfold inL; exact of_decide_eq_true h
theorem lts_mk {n : Int} (h : decide (n ≤ 1000) = true) : n ≤ 1000 := of_decide_eq_true h
section WorldRows
variable {p : Program} {l : Launch} {e : Env} {R : Room} {s : State} {m : MethodId} {args : Array Value} {below : List Frame} {meth : Method} {c : Code} {H : Heap} {locs : List Loc} {cells slots : Nat} {Q : State → Prop} {cc : ByteArray} {pc : Nat} {ls : Array Slot} {rest : List Value} {V : Nat → Int → Prop} {G : WG} {st : St} {H0 : Heap}
/-- the step of a write: from the pool at the address to the world -/
theorem Iv_step {K : Nat} {i : Int} {st' : St} {L : List Nat} {f : Nat → va_E} {e' : va_E} {k : Nat} {H1 : Heap} (hv : V K i)
    (hj : ∀ K i K' i', V K i → V K' i' → G.2.2.1 K i = G.2.2.1 K' i' → K = K' ∧ i = i')
    (hD : va_D G.2.2.2.1 ([] ++ va_pl L f)) (hC : ∀ K i, V K i → G.2.2.1 K i ∈ L ∧ f (G.2.2.1 K i) = cel G.2.1 G.2.2.1 K i st)
    (hk : ([] ++ va_pl L f)[k]? = some (G.2.2.1 K i, f (G.2.2.1 K i)))
    (hc : cel G.2.1 G.2.2.1 K i st' = e') (ho : ∀ K' i', ¬ (K' = K ∧ i' = i) → cel G.2.1 G.2.2.1 K' i' st' = cel G.2.1 G.2.2.1 K' i' st)
    (hP1 : va_P G.1 vwCl (([] ++ va_pl L f).set k (G.2.2.1 K i, e')) H1) (hD1 : va_D G.2.2.2.1 (([] ++ va_pl L f).set k (G.2.2.1 K i, e'))) : Iv V G st' H1 := by
  rw [va_pl_set hD (hC K i hv).1 hk] at hP1 hD1
  refine ⟨hj, L, va_up f (G.2.2.1 K i) e', hP1, hD1, fun K' i' hv' => ⟨(hC K' i' hv').1, ?_⟩⟩
  by_cases h : K' = K ∧ i' = i
  · obtain ⟨rfl, rfl⟩ := h
    rw [va_up_self, hc]
  · rw [va_up_ne _ _ (fun q => h (hj _ _ _ _ hv' hv q)), ho K' i' h]
    exact (hC K' i' hv').2
theorem r_get (hx : p.tables.exec = Jvm.exec) (hb : c.code = cc) {own ref C : String} {T : u_T} {N ci index : Nat} {Ts : List Cond} (hts : ∀ w ∈ Ts, w.before args s = true) (hin : ∀ w ∈ u_ws C T N, w ∈ Ts) (hown : s.vm.findClass own = some m.cls) (hK : KW G s) (hI : Iv V G st H)
    {K : Nat} {i : Int} (hv : V K i) {fs : List Value} (hce : cel G.2.1 G.2.2.1 K i st = .inr (ci, fs)) (hc : vwCl[ci]? = some (C, T, N)) (k : Nat) (hk : k < N) (hlink : (Cond.fieldLink own index ref (T k).2.1 (T k).2.2.1).before args s = true) (hsame : ∀ x, s.fieldFound? (T k).1 (T k).2.1 (T k).2.2.1 = some x → s.fieldFound? ref (T k).2.1 (T k).2.2.1 = some x) {v : Value} (hf : fs[k]? = some v) (hdg : decode cc pc = .ok (.getfield index, 3))
    (kk : W p l e R s m args below meth c H locs cells slots Q (F0 m (pc + 3) ls (v :: rest))) : W p l e R s m args below meth c H locs cells slots Q (F0 m pc ls (.ref (G.2.2.1 K i) :: rest)) := by
  obtain ⟨-, L, f, hP, -, hC⟩ := hI
  obtain ⟨k0, h0⟩ := va_pl_get (X := []) (f := f) (hC K i hv).1
  rw [(hC K i hv).2, hce] at h0
  exact va_get hx hb hts hin hown hK hP k0 h0 hc k hk hlink hsame hf hdg kk
theorem r_put (hx : p.tables.exec = Jvm.exec) (hb : c.code = cc) {own ref C : String} {T : u_T} {N ci index : Nat} {Ts : List Cond} (hts : ∀ w ∈ Ts, w.before args s = true) (hin : ∀ w ∈ u_ws C T N, w ∈ Ts) (ty0 : Nat → FieldType) (hty : ∀ k, k < N → parseFieldDescriptor (T k).2.2.1 = some (ty0 k)) (hnm : ∀ a, a < N → ∀ b, b < N → a ≠ b → (T a).2.1 ≠ (T b).2.1) (hown : s.vm.findClass own = some m.cls) (hK : KW G s) (hI : Iv V G st H) (hS : va_S G.2.2.2.1 H0 H locs)
    {K : Nat} {i : Int} (hv : V K i) {fs : List Value} (hce : cel G.2.1 G.2.2.1 K i st = .inr (ci, fs)) (hc : vwCl[ci]? = some (C, T, N)) (k : Nat) (hk : k < N) (hlink : (Cond.fieldLink own index ref (T k).2.1 (T k).2.2.1).before args s = true) (hsame : ∀ x, s.fieldFound? (T k).1 (T k).2.1 (T k).2.2.1 = some x → s.fieldFound? ref (T k).2.1 (T k).2.2.1 = some x) (hfin : (T k).2.2.2 = false) {ty : FieldType} {v : Value} (hd : parseFieldDescriptor (T k).2.2.1 = some ty) (hn : narrow ty v = v) (hfit : fits ty v = true) (hl : k < fs.length) (hdg : decode cc pc = .ok (.putfield index, 3))
    {x : Int} (hce' : cel G.2.1 G.2.2.1 K i (up st K k i 0 x) = .inr (ci, fs.set k v))
    (kk : ∀ (st1 : St), st1 = up st K k i 0 x → ∀ (H1 : Heap) (locs1 : List Loc), Iv V G st1 H1 → va_S G.2.2.2.1 H0 H1 locs1 → W p l e R s m args below meth c H1 locs1 cells slots Q (F0 m (pc + 3) ls rest)) : W p l e R s m args below meth c H locs cells slots Q (F0 m pc ls (v :: .ref (G.2.2.1 K i) :: rest)) := by
  obtain ⟨hj, L, f, hP, hD, hC⟩ := hI
  obtain ⟨k0, h0⟩ := va_pl_get (X := []) (f := f) (hC K i hv).1
  have h9 := h0
  rw [(hC K i hv).2, hce] at h0
  refine va_put hx hb hts hin ty0 hty hnm hown hK hP hD hS k0 h0 hc k hk hlink hsame hfin hd hn hfit hl hdg (fun H1 locs1 hP1 hD1 hS1 => ?_)
  exact kk _ rfl H1 locs1 (Iv_step hv hj hD hC h9 hce' (fun K' i' h => cel_up _ _ _ _ _ _ _ _ _ _ h) hP1 hD1) hS1
theorem r_iald (hx : p.tables.exec = Jvm.exec) (hb : c.code = cc) (hK : KW G s) (hI : Iv V G st H) {K : Nat} {i j n : Int} (hv : V K i) (hce : cel G.2.1 G.2.2.1 K i st = .inl (G.2.1 0, n.toNat, .inl (fun j : Nat => iI (st K 0 i (j : Int))))) (hn : n ≤ 1000) (hdg : decode cc pc = .ok (.iaload, 1)) (g0 : 0 ≤ j) (g1 : j < n)
    (kk : W p l e R s m args below meth c H locs cells slots Q (F0 m (pc + 1) ls (.int (iI (st K 0 i j)) :: rest))) : W p l e R s m args below meth c H locs cells slots Q (F0 m pc ls (.int (iI j) :: .ref (G.2.2.1 K i) :: rest)) := by
  obtain ⟨-, L, f, hP, -, hC⟩ := hI
  obtain ⟨k0, h0⟩ := va_pl_get (X := []) (f := f) (hC K i hv).1
  rw [(hC K i hv).2, hce] at h0
  refine va_iald hx hb hK hP k0 0 h0 rfl (iI_in g0 g1 hn) hdg ?_
  rw [iI_clamp g0 (by omega), Int.toNat_of_nonneg g0]
  exact kk
theorem r_cald (hx : p.tables.exec = Jvm.exec) (hb : c.code = cc) (hK : KW G s) (hI : Iv V G st H) {K : Nat} {i j n : Int} (hv : V K i) (hce : cel G.2.1 G.2.2.1 K i st = .inl (G.2.1 2, n.toNat, .inl (fun j : Nat => iI (st K 0 i (j : Int))))) (hn : n ≤ 1000) (hdg : decode cc pc = .ok (.caload, 1)) (g0 : 0 ≤ j) (g1 : j < n)
    (kk : W p l e R s m args below meth c H locs cells slots Q (F0 m (pc + 1) ls (.int (iI (st K 0 i j)) :: rest))) : W p l e R s m args below meth c H locs cells slots Q (F0 m pc ls (.int (iI j) :: .ref (G.2.2.1 K i) :: rest)) := by
  obtain ⟨-, L, f, hP, -, hC⟩ := hI
  obtain ⟨k0, h0⟩ := va_pl_get (X := []) (f := f) (hC K i hv).1
  rw [(hC K i hv).2, hce] at h0
  refine va_cald hx hb hK hP k0 2 h0 rfl (iI_in g0 g1 hn) hdg ?_
  rw [iI_clamp g0 (by omega), Int.toNat_of_nonneg g0]
  exact kk
theorem r_zald (hx : p.tables.exec = Jvm.exec) (hb : c.code = cc) (hK : KW G s) (hI : Iv V G st H) {K : Nat} {i j n : Int} (hv : V K i) (hce : cel G.2.1 G.2.2.1 K i st = .inl (G.2.1 3, n.toNat, .inl (fun j : Nat => iI (st K 0 i (j : Int))))) (hn : n ≤ 1000) (hdg : decode cc pc = .ok (.baload, 1)) (g0 : 0 ≤ j) (g1 : j < n)
    (kk : W p l e R s m args below meth c H locs cells slots Q (F0 m (pc + 1) ls (.int (iI (st K 0 i j)) :: rest))) : W p l e R s m args below meth c H locs cells slots Q (F0 m pc ls (.int (iI j) :: .ref (G.2.2.1 K i) :: rest)) := by
  obtain ⟨-, L, f, hP, -, hC⟩ := hI
  obtain ⟨k0, h0⟩ := va_pl_get (X := []) (f := f) (hC K i hv).1
  rw [(hC K i hv).2, hce] at h0
  refine va_zald hx hb hK hP k0 3 h0 rfl (iI_in g0 g1 hn) hdg ?_
  rw [iI_clamp g0 (by omega), Int.toNat_of_nonneg g0]
  exact kk
theorem r_lald (hx : p.tables.exec = Jvm.exec) (hb : c.code = cc) (hK : KW G s) (hI : Iv V G st H) {K : Nat} {i j n : Int} (hv : V K i) (hce : cel G.2.1 G.2.2.1 K i st = .inl (G.2.1 1, n.toNat, .inr (.inl (fun j : Nat => lI (st K 0 i (j : Int)))))) (hn : n ≤ 1000) (hdg : decode cc pc = .ok (.laload, 1)) (g0 : 0 ≤ j) (g1 : j < n)
    (kk : W p l e R s m args below meth c H locs cells slots Q (F0 m (pc + 1) ls (.long (lI (st K 0 i j)) :: rest))) : W p l e R s m args below meth c H locs cells slots Q (F0 m pc ls (.int (iI j) :: .ref (G.2.2.1 K i) :: rest)) := by
  obtain ⟨-, L, f, hP, -, hC⟩ := hI
  obtain ⟨k0, h0⟩ := va_pl_get (X := []) (f := f) (hC K i hv).1
  rw [(hC K i hv).2, hce] at h0
  refine va_lald hx hb hK hP k0 1 h0 rfl (iI_in g0 g1 hn) hdg ?_
  rw [iI_clamp g0 (by omega), Int.toNat_of_nonneg g0]
  exact kk
theorem r_iast (hx : p.tables.exec = Jvm.exec) (hb : c.code = cc) (hK : KW G s) (hI : Iv V G st H) (hS : va_S G.2.2.2.1 H0 H locs) {K : Nat} {i j n x : Int} (hv : V K i) (hce : ∀ st : St, cel G.2.1 G.2.2.1 K i st = .inl (G.2.1 0, n.toNat, .inl (fun j : Nat => iI (st K 0 i (j : Int))))) (hn : n ≤ 1000) (hdg : decode cc pc = .ok (.iastore, 1)) (g0 : 0 ≤ j) (g1 : j < n) 
    (kk : ∀ (st1 : St), st1 = up st K 0 i j x → ∀ (H1 : Heap) (locs1 : List Loc), Iv V G st1 H1 → va_S G.2.2.2.1 H0 H1 locs1 → W p l e R s m args below meth c H1 locs1 cells slots Q (F0 m (pc + 1) ls rest)) : W p l e R s m args below meth c H locs cells slots Q (F0 m pc ls (.int (iI x) :: .int (iI j) :: .ref (G.2.2.1 K i) :: rest)) := by
  obtain ⟨hj, L, f, hP, hD, hC⟩ := hI
  obtain ⟨k0, h0⟩ := va_pl_get (X := []) (f := f) (hC K i hv).1
  have h9 := h0
  rw [(hC K i hv).2, hce] at h0
  refine va_iast hx hb hK hP hD hS k0 0 h0 rfl (iI_in g0 g1 hn) hdg (fun H1 locs1 hP1 hD1 hS1 => ?_)
  skip
  refine kk _ rfl H1 locs1 (Iv_step hv hj hD hC h9 ?_ (fun K' i' h => cel_up _ _ _ _ _ _ _ _ _ _ h) hP1 hD1) hS1
  rw [hce]
  rw [iI_clamp g0 (by omega)]
  have hfun : (fun k : Nat => iI (up st K 0 i j x K 0 i (k : Int))) = upd (fun k : Nat => iI (st K 0 i (k : Int))) j.toNat (iI x) := by
    funext k
    unfold upd up
    by_cases hk : k = j.toNat
    · rw [if_pos hk, if_pos ⟨rfl, rfl, rfl, by omega⟩]
    · rw [if_neg hk, if_neg (fun q => hk (by have := q.2.2.2; omega))]
  rw [hfun]
theorem r_last (hx : p.tables.exec = Jvm.exec) (hb : c.code = cc) (hK : KW G s) (hI : Iv V G st H) (hS : va_S G.2.2.2.1 H0 H locs) {K : Nat} {i j n x : Int} (hv : V K i) (hce : ∀ st : St, cel G.2.1 G.2.2.1 K i st = .inl (G.2.1 1, n.toNat, .inr (.inl (fun j : Nat => lI (st K 0 i (j : Int)))))) (hn : n ≤ 1000) (hdg : decode cc pc = .ok (.lastore, 1)) (g0 : 0 ≤ j) (g1 : j < n) 
    (kk : ∀ (st1 : St), st1 = up st K 0 i j x → ∀ (H1 : Heap) (locs1 : List Loc), Iv V G st1 H1 → va_S G.2.2.2.1 H0 H1 locs1 → W p l e R s m args below meth c H1 locs1 cells slots Q (F0 m (pc + 1) ls rest)) : W p l e R s m args below meth c H locs cells slots Q (F0 m pc ls (.long (lI x) :: .int (iI j) :: .ref (G.2.2.1 K i) :: rest)) := by
  obtain ⟨hj, L, f, hP, hD, hC⟩ := hI
  obtain ⟨k0, h0⟩ := va_pl_get (X := []) (f := f) (hC K i hv).1
  have h9 := h0
  rw [(hC K i hv).2, hce] at h0
  refine va_last hx hb hK hP hD hS k0 1 h0 rfl (iI_in g0 g1 hn) hdg (fun H1 locs1 hP1 hD1 hS1 => ?_)
  skip
  refine kk _ rfl H1 locs1 (Iv_step hv hj hD hC h9 ?_ (fun K' i' h => cel_up _ _ _ _ _ _ _ _ _ _ h) hP1 hD1) hS1
  rw [hce]
  rw [iI_clamp g0 (by omega)]
  have hfun : (fun k : Nat => lI (up st K 0 i j x K 0 i (k : Int))) = vp_updL (fun k : Nat => lI (st K 0 i (k : Int))) j.toNat (lI x) := by
    funext k
    unfold vp_updL up
    by_cases hk : k = j.toNat
    · rw [if_pos hk, if_pos ⟨rfl, rfl, rfl, by omega⟩]
    · rw [if_neg hk, if_neg (fun q => hk (by have := q.2.2.2; omega))]
  rw [hfun]
theorem r_cast (hx : p.tables.exec = Jvm.exec) (hb : c.code = cc) (hK : KW G s) (hI : Iv V G st H) (hS : va_S G.2.2.2.1 H0 H locs) {K : Nat} {i j n x : Int} (hv : V K i) (hce : ∀ st : St, cel G.2.1 G.2.2.1 K i st = .inl (G.2.1 2, n.toNat, .inl (fun j : Nat => iI (st K 0 i (j : Int))))) (hn : n ≤ 1000) (hdg : decode cc pc = .ok (.castore, 1)) (g0 : 0 ≤ j) (g1 : j < n) (gx : vp_nar .char (iI x) = iI x) 
    (kk : ∀ (st1 : St), st1 = up st K 0 i j x → ∀ (H1 : Heap) (locs1 : List Loc), Iv V G st1 H1 → va_S G.2.2.2.1 H0 H1 locs1 → W p l e R s m args below meth c H1 locs1 cells slots Q (F0 m (pc + 1) ls rest)) : W p l e R s m args below meth c H locs cells slots Q (F0 m pc ls (.int (iI x) :: .int (iI j) :: .ref (G.2.2.1 K i) :: rest)) := by
  obtain ⟨hj, L, f, hP, hD, hC⟩ := hI
  obtain ⟨k0, h0⟩ := va_pl_get (X := []) (f := f) (hC K i hv).1
  have h9 := h0
  rw [(hC K i hv).2, hce] at h0
  refine va_cast hx hb hK hP hD hS k0 2 h0 rfl (iI_in g0 g1 hn) hdg (fun H1 locs1 hP1 hD1 hS1 => ?_)
  rw [gx] at hP1 hD1
  refine kk _ rfl H1 locs1 (Iv_step hv hj hD hC h9 ?_ (fun K' i' h => cel_up _ _ _ _ _ _ _ _ _ _ h) hP1 hD1) hS1
  rw [hce]
  rw [iI_clamp g0 (by omega)]
  have hfun : (fun k : Nat => iI (up st K 0 i j x K 0 i (k : Int))) = upd (fun k : Nat => iI (st K 0 i (k : Int))) j.toNat (iI x) := by
    funext k
    unfold upd up
    by_cases hk : k = j.toNat
    · rw [if_pos hk, if_pos ⟨rfl, rfl, rfl, by omega⟩]
    · rw [if_neg hk, if_neg (fun q => hk (by have := q.2.2.2; omega))]
  rw [hfun]
theorem r_zast (hx : p.tables.exec = Jvm.exec) (hb : c.code = cc) (hK : KW G s) (hI : Iv V G st H) (hS : va_S G.2.2.2.1 H0 H locs) {K : Nat} {i j n x : Int} (hv : V K i) (hce : ∀ st : St, cel G.2.1 G.2.2.1 K i st = .inl (G.2.1 3, n.toNat, .inl (fun j : Nat => iI (st K 0 i (j : Int))))) (hn : n ≤ 1000) (hdg : decode cc pc = .ok (.bastore, 1)) (g0 : 0 ≤ j) (g1 : j < n) (gx : vp_nar .boolean (iI x) = iI x) 
    (kk : ∀ (st1 : St), st1 = up st K 0 i j x → ∀ (H1 : Heap) (locs1 : List Loc), Iv V G st1 H1 → va_S G.2.2.2.1 H0 H1 locs1 → W p l e R s m args below meth c H1 locs1 cells slots Q (F0 m (pc + 1) ls rest)) : W p l e R s m args below meth c H locs cells slots Q (F0 m pc ls (.int (iI x) :: .int (iI j) :: .ref (G.2.2.1 K i) :: rest)) := by
  obtain ⟨hj, L, f, hP, hD, hC⟩ := hI
  obtain ⟨k0, h0⟩ := va_pl_get (X := []) (f := f) (hC K i hv).1
  have h9 := h0
  rw [(hC K i hv).2, hce] at h0
  refine va_zast hx hb hK hP hD hS k0 3 h0 rfl (iI_in g0 g1 hn) hdg (fun H1 locs1 hP1 hD1 hS1 => ?_)
  rw [gx] at hP1 hD1
  refine kk _ rfl H1 locs1 (Iv_step hv hj hD hC h9 ?_ (fun K' i' h => cel_up _ _ _ _ _ _ _ _ _ _ h) hP1 hD1) hS1
  rw [hce]
  rw [iI_clamp g0 (by omega)]
  have hfun : (fun k : Nat => iI (up st K 0 i j x K 0 i (k : Int))) = upd (fun k : Nat => iI (st K 0 i (k : Int))) j.toNat (iI x) := by
    funext k
    unfold upd up
    by_cases hk : k = j.toNat
    · rw [if_pos hk, if_pos ⟨rfl, rfl, rfl, by omega⟩]
    · rw [if_neg hk, if_neg (fun q => hk (by have := q.2.2.2; omega))]
  rw [hfun]
theorem r_aaldB (hx : p.tables.exec = Jvm.exec) (hb : c.code = cc) (hK : KW G s) (hI : Iv V G st H) {K : Nat} {i j n : Int} (hv : V K i) {g : Nat → Nat} (hce : cel G.2.1 G.2.2.1 K i st = .inl (G.2.1 4, n.toNat, .inr (.inr (.inr (.inr (fun j : Nat => some (g j))))))) (hn : n ≤ 1000) (hdg : decode cc pc = .ok (.aaload, 1)) (g0 : 0 ≤ j) (g1 : j < n) {a : Nat} (ha : g j.toNat = a)
    (kk : W p l e R s m args below meth c H locs cells slots Q (F0 m (pc + 1) ls (.ref a :: rest))) : W p l e R s m args below meth c H locs cells slots Q (F0 m pc ls (.int (iI j) :: .ref (G.2.2.1 K i) :: rest)) := by
  obtain ⟨-, L, f, hP, -, hC⟩ := hI
  obtain ⟨k0, h0⟩ := va_pl_get (X := []) (f := f) (hC K i hv).1
  rw [(hC K i hv).2, hce] at h0
  subst ha
  have hin := iI_in g0 g1 hn
  have hlt : (iI j).toNatClampNeg < n.toNat := Nat.not_le.mp fun q => hin (Or.inr q)
  rw [← iI_clamp g0 (by omega)] at kk
  exact W.aald (v := .ref (g (iI j).toNatClampNeg)) (ty := .object "BeamLines$Beam") hx hb (hP k0 _ h0) ((hK.2 4 _ rfl).1 n.toNat (fun j => va_rf (some (g j)))) rfl (fun q => by cases q) (by show ¬ (iI j < 0 ∨ (arrV _ _ _).slots.size ≤ _); rw [arrV_size]; exact hin) (by show (arrV _ _ _).slots[_]? = _; rw [arrV_read _ _ hlt]; rfl) rfl rfl hdg kk
theorem r_aaldL (hx : p.tables.exec = Jvm.exec) (hb : c.code = cc) (hK : KW G s) (hI : Iv V G st H) {K : Nat} {i j n : Int} (hv : V K i) {g : Nat → Nat} (hce : cel G.2.1 G.2.2.1 K i st = .inl (G.2.1 5, n.toNat, .inr (.inr (.inr (.inr (fun j : Nat => some (g j))))))) (hn : n ≤ 1000) (hdg : decode cc pc = .ok (.aaload, 1)) (g0 : 0 ≤ j) (g1 : j < n) {a : Nat} (ha : g j.toNat = a)
    (kk : W p l e R s m args below meth c H locs cells slots Q (F0 m (pc + 1) ls (.ref a :: rest))) : W p l e R s m args below meth c H locs cells slots Q (F0 m pc ls (.int (iI j) :: .ref (G.2.2.1 K i) :: rest)) := by
  obtain ⟨-, L, f, hP, -, hC⟩ := hI
  obtain ⟨k0, h0⟩ := va_pl_get (X := []) (f := f) (hC K i hv).1
  rw [(hC K i hv).2, hce] at h0
  subst ha
  have hin := iI_in g0 g1 hn
  have hlt : (iI j).toNatClampNeg < n.toNat := Nat.not_le.mp fun q => hin (Or.inr q)
  rw [← iI_clamp g0 (by omega)] at kk
  exact W.aald (v := .ref (g (iI j).toNatClampNeg)) (ty := .array .long) hx hb (hP k0 _ h0) ((hK.2 5 _ rfl).1 n.toNat (fun j => va_rf (some (g j)))) rfl (fun q => by cases q) (by show ¬ (iI j < 0 ∨ (arrV _ _ _).slots.size ≤ _); rw [arrV_size]; exact hin) (by show (arrV _ _ _).slots[_]? = _; rw [arrV_read _ _ hlt]; rfl) rfl rfl hdg kk
theorem r_aastB (hx : p.tables.exec = Jvm.exec) (hb : c.code = cc) (hK : KW G s) (hI : Iv V G st H) (hS : va_S G.2.2.2.1 H0 H locs) {j x : Int} (hv : V 16 0) (hv2 : V 0 x) (hdg : decode cc pc = .ok (.aastore, 1)) (g0 : 0 ≤ j) (g1 : j < 8)
    (kk : ∀ (st1 : St), st1 = up st 16 0 0 j x → ∀ (H1 : Heap) (locs1 : List Loc), Iv V G st1 H1 → va_S G.2.2.2.1 H0 H1 locs1 → W p l e R s m args below meth c H1 locs1 cells slots Q (F0 m (pc + 1) ls rest)) : W p l e R s m args below meth c H locs cells slots Q (F0 m pc ls (.ref (G.2.2.1 0 x) :: .int (iI j) :: .ref (G.2.2.1 16 0) :: rest)) := by
  obtain ⟨hj, L, f, hP, hD, hC⟩ := hI
  obtain ⟨k0, h0⟩ := va_pl_get (X := []) (f := f) (hC 16 0 hv).1
  obtain ⟨k2, h2⟩ := va_pl_get (X := []) (f := f) (hC 0 x hv2).1
  have h9 := h0
  rw [(hC 16 0 hv).2, cel_16] at h0
  rw [(hC 0 x hv2).2, cel_0] at h2
  refine va_astq hx hb hK hP hD hS k0 4 k2 0 h0 rfl h2 rfl (iI_in g0 g1 (lts_mk rfl)) hdg (fun H1 locs1 hP1 hD1 hS1 => ?_)
  refine kk _ rfl H1 locs1 (Iv_step hv hj hD hC h9 ?_ (fun K' i' h => cel_up _ _ _ _ _ _ _ _ _ _ h) hP1 hD1) hS1
  rw [cel_16, iI_clamp g0 (by omega)]
  have hfun : (fun k : Nat => some (G.2.2.1 0 (up st 16 0 0 j x 16 0 0 (k : Int)))) = va_up (fun k : Nat => some (G.2.2.1 0 (st 16 0 0 (k : Int)))) j.toNat (some (G.2.2.1 0 x)) := by
    funext k
    unfold va_up up
    by_cases hk : k = j.toNat
    · rw [if_pos hk, if_pos ⟨rfl, rfl, rfl, by omega⟩]
    · rw [if_neg hk, if_neg (fun q => hk (by have := q.2.2.2; omega))]
  rw [hfun]
theorem r_alen (hx : p.tables.exec = Jvm.exec) (hb : c.code = cc) (hK : KW G s) (hI : Iv V G st H) {K : Nat} {i n : Int} (hv : V K i) (t0 : Nat) {cA : ClassId} {ty : FieldType} {z} (hce : cel G.2.1 G.2.2.1 K i st = .inl (cA, n.toNat, z)) (ht : (tysW G.2.1)[t0]? = some (cA, ty)) (hn : 0 ≤ n) (hdg : decode cc pc = .ok (.arraylength, 1))
    (kk : W p l e R s m args below meth c H locs cells slots Q (F0 m (pc + 1) ls (.int (iI n) :: rest))) : W p l e R s m args below meth c H locs cells slots Q (F0 m pc ls (.ref (G.2.2.1 K i) :: rest)) := by
  obtain ⟨-, L, f, hP, -, hC⟩ := hI
  obtain ⟨k0, h0⟩ := va_pl_get (X := []) (f := f) (hC K i hv).1
  rw [(hC K i hv).2, hce] at h0
  exact va_alen hx hb hK hP k0 t0 h0 ht (v := iI n) (by show Int32.ofNat n.toNat = iI n; rw [show Int32.ofNat n.toNat = nI n.toNat from rfl, iI_nI, Int.toNat_of_nonneg hn]) hdg kk

def PcM (V : Nat → Int → Prop) (G : WG) (st : St) (as : List Value) : Array Value → State → Prop := va_Pc as (fun U => (∀ q, U.heap.size ≤ q → G.2.2.2.1 q) ∧ Iv V G st U.heap ∧ KW G U ∧ XW G U U.heap)
abbrev BoM (V : Nat → Int → Prop) (G : WG) : St → State → Prop := fun u t => Iv V G u t.heap ∧ KW G t
def QiM (V : Nat → Int → Prop) (G : WG) (Qp : Int → St → Prop) : Array Value → State → Outcome → State → Prop := va_Qi (fun r (u : St) => ∃ z : Int, r = iI z ∧ Qp z u) (BoM V G) G.2.2.2.1
def QlM (V : Nat → Int → Prop) (G : WG) (Qp : Int → St → Prop) : Array Value → State → Outcome → State → Prop := va_Ql (fun r (u : St) => ∃ z : Int, r = lI z ∧ Qp z u) (BoM V G) G.2.2.2.1
def QvM (V : Nat → Int → Prop) (G : WG) (Qp : St → Prop) : Array Value → State → Outcome → State → Prop := va_Qv (fun (u : St) => Qp u) (BoM V G) G.2.2.2.1
theorem PcM_blind {as : List Value} : FrameBlind (PcM V G st as) := fun a U g mk q => by
  obtain ⟨q0, q1, q2, q3, q4⟩ := q
  exact ⟨q0, q1, q2, va_K.moved (u := U) (U := U.calling g mk a) (Vm.Alike.refl U.vm) q3, XW_same (u := U) (U := U.calling g mk a) rfl q4⟩
theorem pre_V (hK : KW G s) (hX : XW G s H0) (hI : Iv V G st H) (hA : ∀ q, H0.size ≤ q → G.2.2.2.1 q) (hS : va_S G.2.2.2.1 H0 H locs) {K : Nat} {i : Int} (hv : V K i) {ci : Nat} {fs : List Value} {C : String} {T : u_T} {N : Nat} (hce : cel G.2.1 G.2.2.1 K i st = .inr (ci, fs)) (hc : vwCl[ci]? = some (C, T, N)) (As : List Value) : PreV s H C (G.2.2.1 K i) (PcM V G st (.ref (G.2.2.1 K i) :: As)) As := by
  refine ⟨PcM_blind, ?_, fun U hU hW => ⟨rfl, fun q h => hA q (Nat.le_trans hS.1 (by rw [hU] at h; exact h)), by rw [hU]; exact hI, va_K.moved hW.alike hK, by rw [hU]; exact XW_warm hW (XW_kept hS.2.1 hX)⟩⟩
  obtain ⟨-, L, f, hP, -, hC⟩ := hI
  obtain ⟨k0, h0⟩ := va_pl_get (X := []) (f := f) (hC K i hv).1
  rw [(hC K i hv).2, hce] at h0
  exact va_recv hK hP hc h0
theorem pre_S (hK : KW G s) (hX : XW G s H0) (hI : Iv V G st H) (hA : ∀ q, H0.size ≤ q → G.2.2.2.1 q) (hS : va_S G.2.2.2.1 H0 H locs) (As : List Value) : PreS s H (PcM V G st As) As :=
  ⟨PcM_blind, fun U hU hW => ⟨rfl, fun q h => hA q (Nat.le_trans hS.1 (by rw [hU] at h; exact h)), by rw [hU]; exact hI, va_K.moved hW.alike hK, by rw [hU]; exact XW_warm hW (XW_kept hS.2.1 hX)⟩⟩
theorem r_calli {st0 : List Value} {a : Array Value} {Qp : Int → St → Prop} (hr : va_Run p l e R s m args below meth c H locs cells slots 0 0 (F0 m pc ls st0) rest (QiM V G Qp a) G.2.2.2.1) (hS : va_S G.2.2.2.1 H0 H locs)
    (kk : ∀ (z : Int) (u : St), Qp z u → ∀ (H1 : Heap) (locs1 : List Loc), Iv V G u H1 → va_S G.2.2.2.1 H0 H1 locs1 → W p l e R s m args below meth c H1 locs1 cells slots Q (F0 m (pc + 3) ls (.int (iI z) :: rest))) : W p l e R s m args below meth c H locs cells slots Q (F0 m pc ls st0) :=
  va_calli hr hS (fun _ _ h => h) (fun _ h => h) (fun r u t H1 locs1 ht hvm hp hB hz hk hS1 => by obtain ⟨z, rfl, hq⟩ := hp; exact kk z u hq H1 locs1 (by rw [← ht]; exact hB.1) hS1)
theorem r_calll {st0 : List Value} {a : Array Value} {Qp : Int → St → Prop} (hr : va_Run p l e R s m args below meth c H locs cells slots 0 0 (F0 m pc ls st0) rest (QlM V G Qp a) G.2.2.2.1) (hS : va_S G.2.2.2.1 H0 H locs)
    (kk : ∀ (z : Int) (u : St), Qp z u → ∀ (H1 : Heap) (locs1 : List Loc), Iv V G u H1 → va_S G.2.2.2.1 H0 H1 locs1 → W p l e R s m args below meth c H1 locs1 cells slots Q (F0 m (pc + 3) ls (.long (lI z) :: rest))) : W p l e R s m args below meth c H locs cells slots Q (F0 m pc ls st0) :=
  va_calll hr hS (fun _ _ h => h) (fun _ h => h) (fun r u t H1 locs1 ht hvm hp hB hz hk hS1 => by obtain ⟨z, rfl, hq⟩ := hp; exact kk z u hq H1 locs1 (by rw [← ht]; exact hB.1) hS1)
theorem r_callv {st0 : List Value} {a : Array Value} {Qp : St → Prop} (hr : va_Run p l e R s m args below meth c H locs cells slots 0 0 (F0 m pc ls st0) rest (QvM V G Qp a) G.2.2.2.1) (hS : va_S G.2.2.2.1 H0 H locs)
    (kk : ∀ (u : St), Qp u → ∀ (H1 : Heap) (locs1 : List Loc), Iv V G u H1 → va_S G.2.2.2.1 H0 H1 locs1 → W p l e R s m args below meth c H1 locs1 cells slots Q (F0 m (pc + 3) ls rest)) : W p l e R s m args below meth c H locs cells slots Q (F0 m pc ls st0) :=
  va_callv hr hS (fun _ _ h => h) (fun _ h => h) (fun u t H1 locs1 ht hvm hp hB hz hk hS1 => kk u hp H1 locs1 (by rw [← ht]; exact hB.1) hS1)
theorem r_iret (hx : p.tables.exec = Jvm.exec) (hb : c.code = cc) (hr : meth.sig.returnType = some .int) (hlocks : meth.locks = false) (hK : KW G s) (hI : Iv V G st H) (hS : va_S G.2.2.2.1 s.heap H locs) {z : Int} {Qp : Int → St → Prop} (h : Qp z st) (hdg : decode cc pc = .ok (.ireturn, 1)) : W p l e R s m args below meth c H locs cells slots (MQ below (QiM V G Qp) args s cells slots G.2.2.2.1) (F0 m pc ls [.int (iI z)]) :=
  W.iret hx hb hr (fun t ht hW => ⟨⟨iI z, st, rfl, ⟨z, rfl, h⟩, by rw [ht]; exact hI, va_K.moved hW.alike hK⟩, hS.F ht⟩) hS.2.2 hdg hlocks
theorem r_zret (hx : p.tables.exec = Jvm.exec) (hb : c.code = cc) (hr : meth.sig.returnType = some .boolean) (hlocks : meth.locks = false) (hK : KW G s) (hI : Iv V G st H) (hS : va_S G.2.2.2.1 s.heap H locs) {z : Int} {Qp : Int → St → Prop} (gz : z = 0 ∨ z = 1) (h : Qp z st) (hdg : decode cc pc = .ok (.ireturn, 1)) : W p l e R s m args below meth c H locs cells slots (MQ below (QiM V G Qp) args s cells slots G.2.2.2.1) (F0 m pc ls [.int (iI z)]) :=
  W.zret hx hb hr (by rcases gz with rfl | rfl <;> rfl) (fun t ht hW => ⟨⟨iI z, st, rfl, ⟨z, rfl, h⟩, by rw [ht]; exact hI, va_K.moved hW.alike hK⟩, hS.F ht⟩) hS.2.2 hdg hlocks
theorem r_lret (hx : p.tables.exec = Jvm.exec) (hb : c.code = cc) (hr : meth.sig.returnType = some .long) (hlocks : meth.locks = false) (hK : KW G s) (hI : Iv V G st H) (hS : va_S G.2.2.2.1 s.heap H locs) {z : Int} {Qp : Int → St → Prop} (h : Qp z st) (hdg : decode cc pc = .ok (.lreturn, 1)) : W p l e R s m args below meth c H locs cells slots (MQ below (QlM V G Qp) args s cells slots G.2.2.2.1) (F0 m pc ls [.long (lI z)]) :=
  W.lret hx hb hr (fun t ht hW => ⟨⟨lI z, st, rfl, ⟨z, rfl, h⟩, by rw [ht]; exact hI, va_K.moved hW.alike hK⟩, hS.F ht⟩) hS.2.2 hdg hlocks
theorem r_vret (hx : p.tables.exec = Jvm.exec) (hb : c.code = cc) (hr : meth.sig.returnType = none) (hlocks : meth.locks = false) (hK : KW G s) (hI : Iv V G st H) (hS : va_S G.2.2.2.1 s.heap H locs) {Qp : St → Prop} (h : Qp st) (hdg : decode cc pc = .ok (.return_, 1)) : W p l e R s m args below meth c H locs cells slots (MQ below (QvM V G Qp) args s cells slots G.2.2.2.1) (F0 m pc ls []) :=
  W.vret hx hb hr (fun t ht hW => ⟨⟨st, rfl, h, by rw [ht]; exact hI, va_K.moved hW.alike hK⟩, hS.F ht⟩) hS.2.2 hdg hlocks
def XM (V : Nat → Int → Prop) (G : WG) (X : String → St → Prop) : String → State → State → Prop := vx_X (S := St) (fun _ => True) (fun E u t => X E u ∧ BoM V G u t) G.2.2.2.1
theorem x_out {st0 : Array Slot} {rest1 : List Value} {X : String → St → Prop} {Qc : Array Value → State → Outcome → State → Prop} {MC MS : Nat} (hE : ∀ x ∈ c.exceptionTable.toList, False) (hlocks : meth.locks = false) {E : String} {ce : Cell} {q9 : Addr} {u : St} (hcell : H[q9]? = some ce) (hv : ce.vm = .none) (hcl : s.vm.findClass E = some ce.cls) (hK : KW G s) (hI : Iv V G u H) (hx : X E u) (hS : va_S G.2.2.2.1 s.heap H locs) (hc : cells ≤ MC) (hs : slots ≤ MS) :
    vx_W p l e R s m args below meth c H locs cells slots (vx_MQ below Qc (XM V G X) args s MC MS G.2.2.2.1) (F0 m pc st0 rest1) q9 :=
  vx_out (fun x h => (hE x h).elim) hlocks hcell hv hcl (fun t ht hvm => ⟨u, trivial, ⟨hx, by rw [ht]; exact hI, va_K.moved hvm hK⟩, hS.F ht⟩) hS.2.2 hc hs
theorem r_xcalli {st0 : List Value} {a : Array Value} {Qp : Int → St → Prop} {X : String → St → Prop} {Qc : Array Value → State → Outcome → State → Prop} {mc ms MC MS : Nat} (hr : vx_Run p l e R s m args below meth c H locs cells slots mc ms (F0 m pc ls st0) rest (QiM V G Qp a) (XM V G X) G.2.2.2.1) (hS : va_S G.2.2.2.1 s.heap H locs) (hE : ∀ x ∈ c.exceptionTable.toList, False) (hlocks : meth.locks = false) (hK : KW G s) (hc : cells + mc ≤ MC) (hs : slots + ms ≤ MS)
    (kk : ∀ (z : Int) (u : St), Qp z u → ∀ (H1 : Heap) (locs1 : List Loc), Iv V G u H1 → va_S G.2.2.2.1 s.heap H1 locs1 → W p l e R s m args below meth c H1 locs1 (cells + mc) (slots + ms) (vx_MQ below Qc (XM V G X) args s MC MS G.2.2.2.1) (F0 m (pc + 3) ls (.int (iI z) :: rest))) : W p l e R s m args below meth c H locs cells slots (vx_MQ below Qc (XM V G X) args s MC MS G.2.2.2.1) (F0 m pc ls st0) :=
  vx_calli hr hS (fun _ _ h => h) (fun _ h => h) (fun _ _ h => h) (fun E ce q9 u t H1 locs1 ht hvm _ hB hz hk hS1 hce hcv hcl => x_out hE hlocks hce hcv hcl hK (by rw [← ht]; exact hB.2.1) hB.1 hS1 hc hs) (fun r u t H1 locs1 ht hvm hp hB hz hk hS1 => by obtain ⟨z, rfl, hq⟩ := hp; exact kk z u hq H1 locs1 (by rw [← ht]; exact hB.1) hS1)
theorem r_xcalll {st0 : List Value} {a : Array Value} {Qp : Int → St → Prop} {X : String → St → Prop} {Qc : Array Value → State → Outcome → State → Prop} {mc ms MC MS : Nat} (hr : vx_Run p l e R s m args below meth c H locs cells slots mc ms (F0 m pc ls st0) rest (QlM V G Qp a) (XM V G X) G.2.2.2.1) (hS : va_S G.2.2.2.1 s.heap H locs) (hE : ∀ x ∈ c.exceptionTable.toList, False) (hlocks : meth.locks = false) (hK : KW G s) (hc : cells + mc ≤ MC) (hs : slots + ms ≤ MS)
    (kk : ∀ (z : Int) (u : St), Qp z u → ∀ (H1 : Heap) (locs1 : List Loc), Iv V G u H1 → va_S G.2.2.2.1 s.heap H1 locs1 → W p l e R s m args below meth c H1 locs1 (cells + mc) (slots + ms) (vx_MQ below Qc (XM V G X) args s MC MS G.2.2.2.1) (F0 m (pc + 3) ls (.long (lI z) :: rest))) : W p l e R s m args below meth c H locs cells slots (vx_MQ below Qc (XM V G X) args s MC MS G.2.2.2.1) (F0 m pc ls st0) :=
  vx_calll hr hS (fun _ _ h => h) (fun _ h => h) (fun _ _ h => h) (fun E ce q9 u t H1 locs1 ht hvm _ hB hz hk hS1 hce hcv hcl => x_out hE hlocks hce hcv hcl hK (by rw [← ht]; exact hB.2.1) hB.1 hS1 hc hs) (fun r u t H1 locs1 ht hvm hp hB hz hk hS1 => by obtain ⟨z, rfl, hq⟩ := hp; exact kk z u hq H1 locs1 (by rw [← ht]; exact hB.1) hS1)
theorem r_xcallv {st0 : List Value} {a : Array Value} {Qp : St → Prop} {X : String → St → Prop} {Qc : Array Value → State → Outcome → State → Prop} {mc ms MC MS : Nat} (hr : vx_Run p l e R s m args below meth c H locs cells slots mc ms (F0 m pc ls st0) rest (QvM V G Qp a) (XM V G X) G.2.2.2.1) (hS : va_S G.2.2.2.1 s.heap H locs) (hE : ∀ x ∈ c.exceptionTable.toList, False) (hlocks : meth.locks = false) (hK : KW G s) (hc : cells + mc ≤ MC) (hs : slots + ms ≤ MS)
    (kk : ∀ (u : St), Qp u → ∀ (H1 : Heap) (locs1 : List Loc), Iv V G u H1 → va_S G.2.2.2.1 s.heap H1 locs1 → W p l e R s m args below meth c H1 locs1 (cells + mc) (slots + ms) (vx_MQ below Qc (XM V G X) args s MC MS G.2.2.2.1) (F0 m (pc + 3) ls rest)) : W p l e R s m args below meth c H locs cells slots (vx_MQ below Qc (XM V G X) args s MC MS G.2.2.2.1) (F0 m pc ls st0) :=
  vx_callv hr hS (fun _ _ h => h) (fun _ h => h) (fun _ _ h => h) (fun E ce q9 u t H1 locs1 ht hvm _ hB hz hk hS1 hce hcv hcl => x_out hE hlocks hce hcv hcl hK (by rw [← ht]; exact hB.2.1) hB.1 hS1 hc hs) (fun u t H1 locs1 ht hvm hp hB hz hk hS1 => kk u hp H1 locs1 (by rw [← ht]; exact hB.1) hS1)
/-- new E(); throw -/
theorem r_throw (hx : p.tables.exec = Jvm.exec) (hb : c.code = cc) (hl : l.stackTraces = false) {X : String → St → Prop} {Qc : Array Value → State → Outcome → State → Prop} {MC MS : Nat} {own cls : String} {ik ic nL : Nat} {Ts : List Cond} (hts : ∀ w ∈ Ts, w.before args s = true) (hown : s.vm.findClass own = some m.cls) (hmem : cls ∈ xCs) (hfit : Bundle.fit cls = true) (hk : Cond.classLink own ik cls ∈ Ts) (hini : Cond.initialized cls ∈ Ts) (hat : ∀ w ∈ (vx_at0 own ic cls ["java/lang/RuntimeException", "java/lang/Exception"]).filter goodWord, w ∈ Ts)
    (hbad : (vx_at0 own ic cls ["java/lang/RuntimeException", "java/lang/Exception"]).filter (fun w => !goodWord w) = [.declares ⟨"java/lang/RuntimeException", "<init>", "()V"⟩, .declares ⟨"java/lang/Exception", "<init>", "()V"⟩, .declares ⟨"java/lang/Throwable", "<init>", "()V"⟩, .castable cls cls]) (hgood : ∀ w ∈ Cond.classLink own ik cls :: Cond.initialized cls :: vx_at0 own ic cls ["java/lang/RuntimeException", "java/lang/Exception"], vx_ot w = true)
    (hX : XW G s s.heap) (hS : va_S G.2.2.2.1 s.heap H locs) (hsize : ls.size = nL) (hml : c.maxLocals = nL) (d0 : decode cc pc = .ok (.new ik, 3)) (d3 : decode cc (pc + 3) = .ok (.dup, 1)) (d4 : decode cc (pc + 4) = .ok (.invokespecial ic, 3)) (d7 : decode cc (pc + 7) = .ok (.athrow, 1)) (hE : ∀ x ∈ c.exceptionTable.toList, False)
    (hR : 6 ≤ R.frames ∧ 89 ≤ R.locals ∧ cells + 1 ≤ R.cells ∧ slots + 6 ≤ R.slots) (hr8 : (rest.map fun v => v.category).sum ≤ 8) (hlocks : meth.locks = false) (hK : KW G s) (hI : Iv V G st H) (h : X cls st) (hc : cells + 1 ≤ MC) (hs : slots + 6 ≤ MS) :
    W p l e R s m args below meth c H locs cells slots (vx_MQ below Qc (XM V G X) args s MC MS G.2.2.2.1) (F0 m pc ls rest) := by
  refine vx_throw0 hx hb hl hown hfit (by decide +kernel) (hts _ hk) (hts _ hini) (vx_hat (fun w hw => hts w (hat w hw)) (B := [.declares ⟨"java/lang/RuntimeException", "<init>", "()V"⟩, .declares ⟨"java/lang/Exception", "<init>", "()V"⟩, .declares ⟨"java/lang/Throwable", "<init>", "()V"⟩, .castable cls cls]) (fun w hw => by rw [← hbad]; exact hw) ?_) hgood hX.2.2.1 hX.2.2.2.1 hS (hsize.trans hml.symm) d0 d3 d4 d7 (fun x hx9 => (hE x hx9).elim) (by have := hR.1; simp; omega) (by have := hR.2.1; simp; omega) hR.2.2.1 hR.2.2.2 hlocks ?_ hS.2.2 hc hs
  · refine vx_c (va_Nw.use rfl (hX.2.2.2.2.1 _ (by decide))) (vx_c (va_Nw.use rfl (hX.2.2.2.2.1 _ (by decide))) (vx_c (va_Nw.use rfl (hX.2.2.2.2.1 _ (by decide))) (vx_c (va_Nw.use rfl (hX.2.2.2.2.2.1 _ hmem)) vx_n)))
  · intro t hvm hz hq
    obtain ⟨hj, L, f, hP, hD, hC⟩ := hI
    refine ⟨st, trivial, ⟨h, ⟨hj, L, f, hP.kept (fun k q hk => hq q.1 (hP k q hk).lt), hD, hC⟩, va_K.moved hvm hK⟩, Nat.le_trans hS.1 hz, fun q h1 h2 => (hq q (Nat.lt_of_lt_of_le h1 hS.1)).trans (hS.2.1 q h1 h2)⟩
end WorldRows

theorem rcap_pos (i : Int) : 0 ≤ rcap i := by unfold rcap; repeat' split <;> omega
theorem mlen_pos (i : Int) : 0 ≤ mlen i := by unfold mlen; repeat' split <;> omega
theorem char_fit {x : Int} (h0 : 0 ≤ x) (h1 : x < 65536) : vp_nar .char (iI x) = iI x := by
  obtain ⟨n, rfl⟩ := Int.eq_ofNat_of_zero_le h0
  rw [← iI_nI, vp_nar, (pk_charN (by omega)).1]
def imin (a b : Int) : Int := if b < a then b else a
def imax (a b : Int) : Int := if a < b then b else a
def imaxl (a b : Int) : Int := if b < a then a else b
def iabs (a : Int) : Int := if 0 < a then a else - a
section MathRows
variable {p : Program} {l : Launch} {e : Env} {R : Room} {s : State} {m : MethodId} {args : Array Value} {below : List Frame} {meth : Method} {c : Code} {H : Heap} {locs : List Loc} {cells slots : Nat} {Q : State → Prop} {cc : ByteArray} {pc : Nat} {ls : Array Slot} {rest : List Value}
theorem r_mmax (hx : p.tables.exec = Jvm.exec) (hb : c.code = cc) (hml : c.maxLocals = ls.size) {own : String} {index : Nat} (hown : s.vm.findClass own = some m.cls) (hw : (Cond.methodLink own index Lib.Math.max.name).before args s = true ∧ (Cond.static Lib.Math.max.name).before args s = true ∧ (Cond.initialized "java/lang/Math").before args s = true ∧ (Cond.code Lib.Math.max.name Lib.Math.max.code 2 (some .int)).before args s = true) (hdg : decode cc pc = .ok (.invokestatic index, 3)) {a b : Int} (ga : inI a) (gb : inI b) (hf : 1 ≤ R.frames ∧ 23 ≤ R.locals ∧ cells ≤ R.cells ∧ slots ≤ R.slots) (hr : (rest.map fun v => v.category).sum ≤ 8)
    (k : W p l e R s m args below meth c H locs cells slots Q (F0 m (pc + 3) ls (.int (iI (imax a b)) :: rest))) : W p l e R s m args below meth c H locs cells slots Q (F0 m pc ls (.int (iI b) :: .int (iI a) :: rest)) := by
  refine va_mmax hx hb hml hown hw.1 hw.2.1 hw.2.2.1 hw.2.2.2 hf.1 (by have := hf.2.1; omega) hf.2.2.1 hf.2.2.2 hdg ?_
  have e : (if iI a < iI b then iI b else iI a) = iI (imax a b) := by
    unfold imax
    by_cases h : a < b
    · rw [if_pos h, if_pos (by rw [iI_lt ga gb]; exact h)]
    · rw [if_neg h, if_neg (by rw [iI_lt ga gb]; exact h)]
  rw [e]
  exact k
theorem r_mmin (hx : p.tables.exec = Jvm.exec) (hb : c.code = cc) (hml : c.maxLocals = ls.size) {own : String} {index : Nat} (hown : s.vm.findClass own = some m.cls) (hw : (Cond.methodLink own index Lib.Math.min.name).before args s = true ∧ (Cond.static Lib.Math.min.name).before args s = true ∧ (Cond.initialized "java/lang/Math").before args s = true ∧ (Cond.code Lib.Math.min.name Lib.Math.min.code 2 (some .int)).before args s = true) (hdg : decode cc pc = .ok (.invokestatic index, 3)) {a b : Int} (ga : inI a) (gb : inI b) (hf : 1 ≤ R.frames ∧ 23 ≤ R.locals ∧ cells ≤ R.cells ∧ slots ≤ R.slots) (hr : (rest.map fun v => v.category).sum ≤ 8)
    (k : W p l e R s m args below meth c H locs cells slots Q (F0 m (pc + 3) ls (.int (iI (imin a b)) :: rest))) : W p l e R s m args below meth c H locs cells slots Q (F0 m pc ls (.int (iI b) :: .int (iI a) :: rest)) := by
  refine va_mmin hx hb hml hown hw.1 hw.2.1 hw.2.2.1 hw.2.2.2 hf.1 (by have := hf.2.1; omega) hf.2.2.1 hf.2.2.2 hdg ?_
  have e : (if iI b < iI a then iI b else iI a) = iI (imin a b) := by
    unfold imin
    by_cases h : b < a
    · rw [if_pos h, if_pos (by rw [iI_lt gb ga]; exact h)]
    · rw [if_neg h, if_neg (by rw [iI_lt gb ga]; exact h)]
  rw [e]
  exact k
theorem r_mmin_long (hx : p.tables.exec = Jvm.exec) (hb : c.code = cc) (hml : c.maxLocals = ls.size) {own : String} {index : Nat} (hown : s.vm.findClass own = some m.cls) (hw : (Cond.methodLink own index Lib.MathLoose.min_long.x).before args s = true ∧ (Cond.static Lib.MathLoose.min_long.x).before args s = true ∧ (Cond.initialized "java/lang/Math").before args s = true ∧ (Cond.code Lib.MathLoose.min_long.x Lib.MathLoose.min_long.code 4 (some .long)).before args s = true) (hdg : decode cc pc = .ok (.invokestatic index, 3)) {a b : Int} (ga : inL a) (gb : inL b) (hf : 1 ≤ R.frames ∧ 23 ≤ R.locals ∧ cells ≤ R.cells ∧ slots ≤ R.slots) (hr : (rest.map fun v => v.category).sum ≤ 8)
    (k : W p l e R s m args below meth c H locs cells slots Q (F0 m (pc + 3) ls (.long (lI (imin a b)) :: rest))) : W p l e R s m args below meth c H locs cells slots Q (F0 m pc ls (.long (lI b) :: .long (lI a) :: rest)) := by
  refine va_mmin_long hx hb hml hown hw.1 hw.2.1 hw.2.2.1 hw.2.2.2 hf.1 (by have := hf.2.1; omega) hf.2.2.1 hf.2.2.2 hdg ?_
  have e : (if lI b < lI a then lI b else lI a) = lI (imin a b) := by
    unfold imin
    by_cases h : b < a
    · rw [if_pos h, if_pos (by rw [lI_lt gb ga]; exact h)]
    · rw [if_neg h, if_neg (by rw [lI_lt gb ga]; exact h)]
  rw [e]
  exact k
theorem r_mmax_long (hx : p.tables.exec = Jvm.exec) (hb : c.code = cc) (hml : c.maxLocals = ls.size) {own : String} {index : Nat} (hown : s.vm.findClass own = some m.cls) (hw : (Cond.methodLink own index Lib.MathLoose.max_long.x).before args s = true ∧ (Cond.static Lib.MathLoose.max_long.x).before args s = true ∧ (Cond.initialized "java/lang/Math").before args s = true ∧ (Cond.code Lib.MathLoose.max_long.x Lib.MathLoose.max_long.code 4 (some .long)).before args s = true) (hdg : decode cc pc = .ok (.invokestatic index, 3)) {a b : Int} (ga : inL a) (gb : inL b) (hf : 1 ≤ R.frames ∧ 23 ≤ R.locals ∧ cells ≤ R.cells ∧ slots ≤ R.slots) (hr : (rest.map fun v => v.category).sum ≤ 8)
    (k : W p l e R s m args below meth c H locs cells slots Q (F0 m (pc + 3) ls (.long (lI (imaxl a b)) :: rest))) : W p l e R s m args below meth c H locs cells slots Q (F0 m pc ls (.long (lI b) :: .long (lI a) :: rest)) := by
  refine va_mmax_long hx hb hml hown hw.1 hw.2.1 hw.2.2.1 hw.2.2.2 hf.1 (by have := hf.2.1; omega) hf.2.2.1 hf.2.2.2 hdg ?_
  have e : (if lI b < lI a then lI a else lI b) = lI (imaxl a b) := by
    unfold imaxl
    by_cases h : b < a
    · rw [if_pos h, if_pos (by rw [lI_lt gb ga]; exact h)]
    · rw [if_neg h, if_neg (by rw [lI_lt gb ga]; exact h)]
  rw [e]
  exact k
theorem r_mabs_long (hx : p.tables.exec = Jvm.exec) (hb : c.code = cc) (hml : c.maxLocals = ls.size) {own : String} {index : Nat} (hown : s.vm.findClass own = some m.cls) (hw : (Cond.methodLink own index Lib.MathLoose.abs_long.x).before args s = true ∧ (Cond.static Lib.MathLoose.abs_long.x).before args s = true ∧ (Cond.initialized "java/lang/Math").before args s = true ∧ (Cond.code Lib.MathLoose.abs_long.x Lib.MathLoose.abs_long.code 2 (some .long)).before args s = true) (hdg : decode cc pc = .ok (.invokestatic index, 3)) {a : Int} (ga : inL a) (hf : 1 ≤ R.frames ∧ 23 ≤ R.locals ∧ cells ≤ R.cells ∧ slots ≤ R.slots) (hr : (rest.map fun v => v.category).sum ≤ 8)
    (k : W p l e R s m args below meth c H locs cells slots Q (F0 m (pc + 3) ls (.long (lI (iabs a)) :: rest))) : W p l e R s m args below meth c H locs cells slots Q (F0 m pc ls (.long (lI a) :: rest)) := by
  refine va_mabs_long hx hb hml hown hw.1 hw.2.1 hw.2.2.1 hw.2.2.2 hf.1 (by have := hf.2.1; omega) hf.2.2.1 hf.2.2.2 hdg ?_
  have e : (if 0 < lI a then lI a else - lI a) = lI (iabs a) := by
    unfold iabs
    by_cases h : 0 < a
    · rw [if_pos h, if_pos (by rw [lI_0, lI_lt inL_0 ga]; exact h)]
    · rw [if_neg h, if_neg (by rw [lI_0, lI_lt inL_0 ga]; exact h), lI_neg]
  rw [e]
  exact k
theorem r_i2c (hx : p.tables.exec = Jvm.exec) (hb : c.code = cc) {a : Int} (hdg : decode cc pc = .ok (.i2c, 1)) (h0 : 0 ≤ a) (h1 : a < 65536) (k : W p l e R s m args below meth c H locs cells slots Q (F0 m (pc + 1) ls (.int (iI a) :: rest))) : W p l e R s m args below meth c H locs cells slots Q (F0 m pc ls (.int (iI a) :: rest)) :=
  lv_i2c hx hb hdg (by obtain ⟨n, rfl⟩ := Int.eq_ofNat_of_zero_le h0; rw [← iI_nI, pk_char, pk_tn (by omega), Nat.mod_eq_of_lt (by omega)]) k
theorem r_cret {V : Nat → Int → Prop} {G : WG} {st : St} (hx : p.tables.exec = Jvm.exec) (hb : c.code = cc) (hr : meth.sig.returnType = some .char) (hlocks : meth.locks = false) (hK : KW G s) (hI : Iv V G st H) (hS : va_S G.2.2.2.1 s.heap H locs) {z : Int} {Qp : Int → St → Prop} (g0 : 0 ≤ z) (g1 : z < 65536) (h : Qp z st) (hdg : decode cc pc = .ok (.ireturn, 1)) : W p l e R s m args below meth c H locs cells slots (MQ below (QiM V G Qp) args s cells slots G.2.2.2.1) (F0 m pc ls [.int (iI z)]) :=
  W.zret hx hb hr (by obtain ⟨n, rfl⟩ := Int.eq_ofNat_of_zero_le g0; rw [← iI_nI]; exact (pk_charN (by omega)).1) (fun t ht hW => ⟨⟨iI z, st, rfl, ⟨z, rfl, h⟩, by rw [ht]; exact hI, va_K.moved hW.alike hK⟩, hS.F ht⟩) hS.2.2 hdg hlocks
end MathRows
theorem vrC_0_2 {i : Int} (h : vC 0 i) : vC 6 (4 * i) := by
  unfold vC cnt at *
  simp at *
  all_goals omega
theorem vrC_0_3 {i : Int} (h : vC 0 i) : vC 6 (4 * i + 1) := by
  unfold vC cnt at *
  simp at *
  all_goals omega
theorem vrC_0_4 {i : Int} (h : vC 0 i) : vC 6 (4 * i + 2) := by
  unfold vC cnt at *
  simp at *
  all_goals omega
theorem vrC_0_5 {i : Int} (h : vC 0 i) : vC 6 (4 * i + 3) := by
  unfold vC cnt at *
  simp at *
  all_goals omega
theorem vrC_1_0 {i : Int} (h : vC 1 i) : vC 12 (i) := by
  unfold vC cnt at *
  simp at *
  all_goals omega
theorem vrC_1_1 {i : Int} (h : vC 1 i) : vC 13 (i) := by
  unfold vC cnt at *
  simp at *
  all_goals omega
theorem vrC_1_2 {i : Int} (h : vC 1 i) : vC 14 (i) := by
  unfold vC cnt at *
  simp at *
  all_goals omega
theorem vrC_1_3 {i : Int} (h : vC 1 i) : vC 15 (i) := by
  unfold vC cnt at *
  simp at *
  all_goals omega
theorem vrC_2_0 {i : Int} (h : vC 2 i) : vC 16 (0) := by
  unfold vC cnt at *
  simp at *
  all_goals omega
theorem vrC_3_0 {i : Int} (h : vC 3 i) : vC 17 (i) := by
  unfold vC cnt at *
  simp at *
  all_goals omega
theorem vrC_3_1 {i : Int} (h : vC 3 i) : vC 19 (i) := by
  unfold vC cnt at *
  simp at *
  all_goals omega
theorem vrC_5_0 {i : Int} (h : vC 5 i) : vC 7 (0) := by
  unfold vC cnt at *
  simp at *
  all_goals omega
theorem vrC_5_1 {i : Int} (h : vC 5 i) : vC 0 (2) := by
  unfold vC cnt at *
  simp at *
  all_goals omega
theorem vrC_6_0 {i : Int} (h : vC 6 i) : vC 10 (i) := by
  unfold vC cnt at *
  simp at *
  all_goals omega
theorem vrC_6_1 {i : Int} (h : vC 6 i) : vC 11 (i) := by
  unfold vC cnt at *
  simp at *
  all_goals omega
theorem vrC_7_0 {i : Int} (h : vC 7 i) : vC 21 (0) := by
  unfold vC cnt at *
  simp at *
  all_goals omega
theorem vrC_7_2 {i : Int} (h : vC 7 i) : vC 22 (0) := by
  unfold vC cnt at *
  simp at *
  all_goals omega
theorem vrC_7_3 {i : Int} (h : vC 7 i) : vC 23 (0) := by
  unfold vC cnt at *
  simp at *
  all_goals omega
theorem vrC_7_4 {i : Int} (h : vC 7 i) : vC 24 (0) := by
  unfold vC cnt at *
  simp at *
  all_goals omega
theorem vrC_7_5 {i : Int} (h : vC 7 i) : vC 25 (0) := by
  unfold vC cnt at *
  simp at *
  all_goals omega
theorem vrC_8_0 {i : Int} (h : vC 8 i) : vC 5 (0) := by
  unfold vC cnt at *
  simp at *
  all_goals omega
theorem vrC_8_2 {i : Int} (h : vC 8 i) : vC 0 (0) := by
  unfold vC cnt at *
  simp at *
  all_goals omega
theorem vrC_8_3 {i : Int} (h : vC 8 i) : vC 3 (0) := by
  unfold vC cnt at *
  simp at *
  all_goals omega
theorem vrC_8_4 {i : Int} (h : vC 8 i) : vC 0 (1) := by
  unfold vC cnt at *
  simp at *
  all_goals omega
theorem vrC_8_5 {i : Int} (h : vC 8 i) : vC 3 (1) := by
  unfold vC cnt at *
  simp at *
  all_goals omega
theorem vrC_8_6 {i : Int} (h : vC 8 i) : vC 1 (0) := by
  unfold vC cnt at *
  simp at *
  all_goals omega
theorem vrC_8_7 {i : Int} (h : vC 8 i) : vC 1 (1) := by
  unfold vC cnt at *
  simp at *
  all_goals omega
theorem vrC_8_8 {i : Int} (h : vC 8 i) : vC 4 (0) := by
  unfold vC cnt at *
  simp at *
  all_goals omega
theorem vrC_8_9 {i : Int} (h : vC 8 i) : vC 2 (0) := by
  unfold vC cnt at *
  simp at *
  all_goals omega
theorem vrC_8_10 {i : Int} (h : vC 8 i) : vC 26 (0) := by
  unfold vC cnt at *
  simp at *
  all_goals omega
theorem vrC_8_11 {i : Int} (h : vC 8 i) : vC 27 (0) := by
  unfold vC cnt at *
  simp at *
  all_goals omega
theorem vrC_8_12 {i : Int} (h : vC 8 i) : vC 28 (0) := by
  unfold vC cnt at *
  simp at *
  all_goals omega
theorem vrM_9_0 {i : Int} (h : vM 9 i) : vM 30 (0) := by
  unfold vM cnt at *
  simp at *
  all_goals omega
theorem vrM_9_1 {i : Int} (h : vM 9 i) : vM 30 (1) := by
  unfold vM cnt at *
  simp at *
  all_goals omega
theorem vrM_9_2 {i : Int} (h : vM 9 i) : vM 30 (2) := by
  unfold vM cnt at *
  simp at *
  all_goals omega
theorem vrM_9_3 {i : Int} (h : vM 9 i) : vM 30 (3) := by
  unfold vM cnt at *
  simp at *
  all_goals omega
theorem vrM_9_7 {i : Int} (h : vM 9 i) : vM 30 (4) := by
  unfold vM cnt at *
  simp at *
  all_goals omega
theorem vrM_9_19 {i : Int} (h : vM 9 i) : vM 30 (5) := by
  unfold vM cnt at *
  simp at *
  all_goals omega
theorem vrM_9_20 {i : Int} (h : vM 9 i) : vM 30 (6) := by
  unfold vM cnt at *
  simp at *
  all_goals omega
theorem vrM_9_4 {i : Int} (h : vM 9 i) : vM 34 (0) := by
  unfold vM cnt at *
  simp at *
  all_goals omega
theorem vrM_9_16 {i : Int} (h : vM 9 i) : vM 36 (0) := by
  unfold vM cnt at *
  simp at *
  all_goals omega
theorem vrM_9_17 {i : Int} (h : vM 9 i) : vM 37 (0) := by
  unfold vM cnt at *
  simp at *
  all_goals omega
theorem vC_0 {i : Int} (h0 : 0 ≤ i) (h1 : i < 13) : vC 0 i := by
  unfold vC cnt
  simp
  all_goals omega
theorem va_17 {i j : Int} (h : vC 17 i) (h0 : 0 ≤ j) (h1 : j < 5) : vC 18 (5 * i + j) := by
  unfold vC cnt at *
  simp at *
  all_goals omega
theorem va_19 {i j : Int} (h : vC 19 i) (h0 : 0 ≤ j) (h1 : j < 5) : vC 20 (5 * i + j) := by
  unfold vC cnt at *
  simp at *
  all_goals omega
theorem va_26 {i j : Int} (h : vC 26 i) (h0 : 0 ≤ j) (h1 : j < 2) : vC 0 (3 + j) := by
  unfold vC cnt at *
  simp at *
  all_goals omega
section FieldRows
variable {p : Program} {l : Launch} {e : Env} {R : Room} {s : State} {m : MethodId} {args : Array Value} {below : List Frame} {meth : Method} {c : Code} {H : Heap} {locs : List Loc} {cells slots : Nat} {Q : State → Prop} {cc : ByteArray} {pc : Nat} {ls : Array Slot} {rest : List Value} {V : Nat → Int → Prop} {G : WG} {st : St} {H0 : Heap} {Ts : List Cond} {own : String} {index : Nat} {i : Int}
theorem gg_0_0 (hx : p.tables.exec = Jvm.exec) (hb : c.code = cc) (hts : ∀ w ∈ Ts, w.before args s = true) (hin : ∀ w ∈ u_ws RX0 TX0 6, w ∈ Ts) (hown : s.vm.findClass own = some m.cls) (hK : KW G s) (hI : Iv V G st H) (hv : V 0 i) (hlink : (Cond.fieldLink own index "BeamLines$Beam" "length" "I").before args s = true) (hdg : decode cc pc = .ok (.getfield index, 3)) (kk : W p l e R s m args below meth c H locs cells slots Q (F0 m (pc + 3) ls (.int (iI (st 0 0 i 0)) :: rest))) : W p l e R s m args below meth c H locs cells slots Q (F0 m pc ls (.ref (G.2.2.1 0 i) :: rest)) :=
  r_get (C := RX0) (T := TX0) (N := 6) hx hb hts hin hown hK hI hv rfl rfl 0 (by decide) hlink (fun _ h9 => h9) rfl hdg kk
theorem pp_0_0 (hx : p.tables.exec = Jvm.exec) (hb : c.code = cc) (hts : ∀ w ∈ Ts, w.before args s = true) (hin : ∀ w ∈ u_ws RX0 TX0 6, w ∈ Ts) (hown : s.vm.findClass own = some m.cls) (hK : KW G s) (hI : Iv V G st H) (hS : va_S G.2.2.2.1 H0 H locs) (hv : V 0 i) (hlink : (Cond.fieldLink own index "BeamLines$Beam" "length" "I").before args s = true) (hdg : decode cc pc = .ok (.putfield index, 3)) {x : Int} (kk : ∀ (st1 : St), st1 = up st 0 0 i 0 x → ∀ (H1 : Heap) (locs1 : List Loc), Iv V G st1 H1 → va_S G.2.2.2.1 H0 H1 locs1 → W p l e R s m args below meth c H1 locs1 cells slots Q (F0 m (pc + 3) ls rest)) : W p l e R s m args below meth c H locs cells slots Q (F0 m pc ls (.int (iI x) :: .ref (G.2.2.1 0 i) :: rest)) :=
  r_put (C := RX0) (T := TX0) (N := 6) (ty := .int) hx hb hts hin tyX0 tyX0_ok nmX0 hown hK hI hS hv rfl rfl 0 (by decide) hlink (fun _ h9 => h9) rfl (by decide +kernel) rfl rfl (Nat.le_of_ble_eq_true rfl) hdg (by rw [cel_0, up_same]; rfl) kk
theorem gg_0_1 (hx : p.tables.exec = Jvm.exec) (hb : c.code = cc) (hts : ∀ w ∈ Ts, w.before args s = true) (hin : ∀ w ∈ u_ws RX0 TX0 6, w ∈ Ts) (hown : s.vm.findClass own = some m.cls) (hK : KW G s) (hI : Iv V G st H) (hv : V 0 i) (hlink : (Cond.fieldLink own index "BeamLines$Beam" "most" "I").before args s = true) (hdg : decode cc pc = .ok (.getfield index, 3)) (kk : W p l e R s m args below meth c H locs cells slots Q (F0 m (pc + 3) ls (.int (iI (st 0 1 i 0)) :: rest))) : W p l e R s m args below meth c H locs cells slots Q (F0 m pc ls (.ref (G.2.2.1 0 i) :: rest)) :=
  r_get (C := RX0) (T := TX0) (N := 6) hx hb hts hin hown hK hI hv rfl rfl 1 (by decide) hlink (fun _ h9 => h9) rfl hdg kk
theorem pp_0_1 (hx : p.tables.exec = Jvm.exec) (hb : c.code = cc) (hts : ∀ w ∈ Ts, w.before args s = true) (hin : ∀ w ∈ u_ws RX0 TX0 6, w ∈ Ts) (hown : s.vm.findClass own = some m.cls) (hK : KW G s) (hI : Iv V G st H) (hS : va_S G.2.2.2.1 H0 H locs) (hv : V 0 i) (hlink : (Cond.fieldLink own index "BeamLines$Beam" "most" "I").before args s = true) (hdg : decode cc pc = .ok (.putfield index, 3)) {x : Int} (kk : ∀ (st1 : St), st1 = up st 0 1 i 0 x → ∀ (H1 : Heap) (locs1 : List Loc), Iv V G st1 H1 → va_S G.2.2.2.1 H0 H1 locs1 → W p l e R s m args below meth c H1 locs1 cells slots Q (F0 m (pc + 3) ls rest)) : W p l e R s m args below meth c H locs cells slots Q (F0 m pc ls (.int (iI x) :: .ref (G.2.2.1 0 i) :: rest)) :=
  r_put (C := RX0) (T := TX0) (N := 6) (ty := .int) hx hb hts hin tyX0 tyX0_ok nmX0 hown hK hI hS hv rfl rfl 1 (by decide) hlink (fun _ h9 => h9) rfl (by decide +kernel) rfl rfl (Nat.le_of_ble_eq_true rfl) hdg (by rw [cel_0, up_same]; rfl) kk
theorem gg_0_2 (hx : p.tables.exec = Jvm.exec) (hb : c.code = cc) (hts : ∀ w ∈ Ts, w.before args s = true) (hin : ∀ w ∈ u_ws RX0 TX0 6, w ∈ Ts) (hown : s.vm.findClass own = some m.cls) (hK : KW G s) (hI : Iv V G st H) (hv : V 0 i) (hlink : (Cond.fieldLink own index "BeamLines$Beam" "supports" "LBeamLines$Row;").before args s = true) (hdg : decode cc pc = .ok (.getfield index, 3)) (kk : W p l e R s m args below meth c H locs cells slots Q (F0 m (pc + 3) ls (.ref (G.2.2.1 6 (4 * i)) :: rest))) : W p l e R s m args below meth c H locs cells slots Q (F0 m pc ls (.ref (G.2.2.1 0 i) :: rest)) :=
  r_get (C := RX0) (T := TX0) (N := 6) hx hb hts hin hown hK hI hv rfl rfl 2 (by decide) hlink (fun _ h9 => h9) rfl hdg kk
theorem gg_0_3 (hx : p.tables.exec = Jvm.exec) (hb : c.code = cc) (hts : ∀ w ∈ Ts, w.before args s = true) (hin : ∀ w ∈ u_ws RX0 TX0 6, w ∈ Ts) (hown : s.vm.findClass own = some m.cls) (hK : KW G s) (hI : Iv V G st H) (hv : V 0 i) (hlink : (Cond.fieldLink own index "BeamLines$Beam" "hinges" "LBeamLines$Row;").before args s = true) (hdg : decode cc pc = .ok (.getfield index, 3)) (kk : W p l e R s m args below meth c H locs cells slots Q (F0 m (pc + 3) ls (.ref (G.2.2.1 6 (4 * i + 1)) :: rest))) : W p l e R s m args below meth c H locs cells slots Q (F0 m pc ls (.ref (G.2.2.1 0 i) :: rest)) :=
  r_get (C := RX0) (T := TX0) (N := 6) hx hb hts hin hown hK hI hv rfl rfl 3 (by decide) hlink (fun _ h9 => h9) rfl hdg kk
theorem gg_0_4 (hx : p.tables.exec = Jvm.exec) (hb : c.code = cc) (hts : ∀ w ∈ Ts, w.before args s = true) (hin : ∀ w ∈ u_ws RX0 TX0 6, w ∈ Ts) (hown : s.vm.findClass own = some m.cls) (hK : KW G s) (hI : Iv V G st H) (hv : V 0 i) (hlink : (Cond.fieldLink own index "BeamLines$Beam" "loads" "LBeamLines$Row;").before args s = true) (hdg : decode cc pc = .ok (.getfield index, 3)) (kk : W p l e R s m args below meth c H locs cells slots Q (F0 m (pc + 3) ls (.ref (G.2.2.1 6 (4 * i + 2)) :: rest))) : W p l e R s m args below meth c H locs cells slots Q (F0 m pc ls (.ref (G.2.2.1 0 i) :: rest)) :=
  r_get (C := RX0) (T := TX0) (N := 6) hx hb hts hin hown hK hI hv rfl rfl 4 (by decide) hlink (fun _ h9 => h9) rfl hdg kk
theorem gg_0_5 (hx : p.tables.exec = Jvm.exec) (hb : c.code = cc) (hts : ∀ w ∈ Ts, w.before args s = true) (hin : ∀ w ∈ u_ws RX0 TX0 6, w ∈ Ts) (hown : s.vm.findClass own = some m.cls) (hK : KW G s) (hI : Iv V G st H) (hv : V 0 i) (hlink : (Cond.fieldLink own index "BeamLines$Beam" "axles" "LBeamLines$Row;").before args s = true) (hdg : decode cc pc = .ok (.getfield index, 3)) (kk : W p l e R s m args below meth c H locs cells slots Q (F0 m (pc + 3) ls (.ref (G.2.2.1 6 (4 * i + 3)) :: rest))) : W p l e R s m args below meth c H locs cells slots Q (F0 m pc ls (.ref (G.2.2.1 0 i) :: rest)) :=
  r_get (C := RX0) (T := TX0) (N := 6) hx hb hts hin hown hK hI hv rfl rfl 5 (by decide) hlink (fun _ h9 => h9) rfl hdg kk
theorem gg_1_0 (hx : p.tables.exec = Jvm.exec) (hb : c.code = cc) (hts : ∀ w ∈ Ts, w.before args s = true) (hin : ∀ w ∈ u_ws RX1 TX1 5, w ∈ Ts) (hown : s.vm.findClass own = some m.cls) (hK : KW G s) (hI : Iv V G st H) (hv : V 1 i) (hlink : (Cond.fieldLink own index "BeamLines$Forces" "pressing" "[I").before args s = true) (hdg : decode cc pc = .ok (.getfield index, 3)) (kk : W p l e R s m args below meth c H locs cells slots Q (F0 m (pc + 3) ls (.ref (G.2.2.1 12 (i)) :: rest))) : W p l e R s m args below meth c H locs cells slots Q (F0 m pc ls (.ref (G.2.2.1 1 i) :: rest)) :=
  r_get (C := RX1) (T := TX1) (N := 5) hx hb hts hin hown hK hI hv rfl rfl 0 (by decide) hlink (fun _ h9 => h9) rfl hdg kk
theorem gg_1_1 (hx : p.tables.exec = Jvm.exec) (hb : c.code = cc) (hts : ∀ w ∈ Ts, w.before args s = true) (hin : ∀ w ∈ u_ws RX1 TX1 5, w ∈ Ts) (hown : s.vm.findClass own = some m.cls) (hK : KW G s) (hI : Iv V G st H) (hv : V 1 i) (hlink : (Cond.fieldLink own index "BeamLines$Forces" "reactions" "[J").before args s = true) (hdg : decode cc pc = .ok (.getfield index, 3)) (kk : W p l e R s m args below meth c H locs cells slots Q (F0 m (pc + 3) ls (.ref (G.2.2.1 13 (i)) :: rest))) : W p l e R s m args below meth c H locs cells slots Q (F0 m pc ls (.ref (G.2.2.1 1 i) :: rest)) :=
  r_get (C := RX1) (T := TX1) (N := 5) hx hb hts hin hown hK hI hv rfl rfl 1 (by decide) hlink (fun _ h9 => h9) rfl hdg kk
theorem gg_1_2 (hx : p.tables.exec = Jvm.exec) (hb : c.code = cc) (hts : ∀ w ∈ Ts, w.before args s = true) (hin : ∀ w ∈ u_ws RX1 TX1 5, w ∈ Ts) (hown : s.vm.findClass own = some m.cls) (hK : KW G s) (hI : Iv V G st H) (hv : V 1 i) (hlink : (Cond.fieldLink own index "BeamLines$Forces" "shears" "[J").before args s = true) (hdg : decode cc pc = .ok (.getfield index, 3)) (kk : W p l e R s m args below meth c H locs cells slots Q (F0 m (pc + 3) ls (.ref (G.2.2.1 14 (i)) :: rest))) : W p l e R s m args below meth c H locs cells slots Q (F0 m pc ls (.ref (G.2.2.1 1 i) :: rest)) :=
  r_get (C := RX1) (T := TX1) (N := 5) hx hb hts hin hown hK hI hv rfl rfl 2 (by decide) hlink (fun _ h9 => h9) rfl hdg kk
theorem gg_1_3 (hx : p.tables.exec = Jvm.exec) (hb : c.code = cc) (hts : ∀ w ∈ Ts, w.before args s = true) (hin : ∀ w ∈ u_ws RX1 TX1 5, w ∈ Ts) (hown : s.vm.findClass own = some m.cls) (hK : KW G s) (hI : Iv V G st H) (hv : V 1 i) (hlink : (Cond.fieldLink own index "BeamLines$Forces" "moments" "[J").before args s = true) (hdg : decode cc pc = .ok (.getfield index, 3)) (kk : W p l e R s m args below meth c H locs cells slots Q (F0 m (pc + 3) ls (.ref (G.2.2.1 15 (i)) :: rest))) : W p l e R s m args below meth c H locs cells slots Q (F0 m pc ls (.ref (G.2.2.1 1 i) :: rest)) :=
  r_get (C := RX1) (T := TX1) (N := 5) hx hb hts hin hown hK hI hv rfl rfl 3 (by decide) hlink (fun _ h9 => h9) rfl hdg kk
theorem gg_1_4 (hx : p.tables.exec = Jvm.exec) (hb : c.code = cc) (hts : ∀ w ∈ Ts, w.before args s = true) (hin : ∀ w ∈ u_ws RX1 TX1 5, w ∈ Ts) (hown : s.vm.findClass own = some m.cls) (hK : KW G s) (hI : Iv V G st H) (hv : V 1 i) (hlink : (Cond.fieldLink own index "BeamLines$Forces" "total" "I").before args s = true) (hdg : decode cc pc = .ok (.getfield index, 3)) (kk : W p l e R s m args below meth c H locs cells slots Q (F0 m (pc + 3) ls (.int (iI (st 1 4 i 0)) :: rest))) : W p l e R s m args below meth c H locs cells slots Q (F0 m pc ls (.ref (G.2.2.1 1 i) :: rest)) :=
  r_get (C := RX1) (T := TX1) (N := 5) hx hb hts hin hown hK hI hv rfl rfl 4 (by decide) hlink (fun _ h9 => h9) rfl hdg kk
theorem pp_1_4 (hx : p.tables.exec = Jvm.exec) (hb : c.code = cc) (hts : ∀ w ∈ Ts, w.before args s = true) (hin : ∀ w ∈ u_ws RX1 TX1 5, w ∈ Ts) (hown : s.vm.findClass own = some m.cls) (hK : KW G s) (hI : Iv V G st H) (hS : va_S G.2.2.2.1 H0 H locs) (hv : V 1 i) (hlink : (Cond.fieldLink own index "BeamLines$Forces" "total" "I").before args s = true) (hdg : decode cc pc = .ok (.putfield index, 3)) {x : Int} (kk : ∀ (st1 : St), st1 = up st 1 4 i 0 x → ∀ (H1 : Heap) (locs1 : List Loc), Iv V G st1 H1 → va_S G.2.2.2.1 H0 H1 locs1 → W p l e R s m args below meth c H1 locs1 cells slots Q (F0 m (pc + 3) ls rest)) : W p l e R s m args below meth c H locs cells slots Q (F0 m pc ls (.int (iI x) :: .ref (G.2.2.1 1 i) :: rest)) :=
  r_put (C := RX1) (T := TX1) (N := 5) (ty := .int) hx hb hts hin tyX1 tyX1_ok nmX1 hown hK hI hS hv rfl rfl 4 (by decide) hlink (fun _ h9 => h9) rfl (by decide +kernel) rfl rfl (Nat.le_of_ble_eq_true rfl) hdg (by rw [cel_1, up_same]; rfl) kk
theorem gg_2_0 (hx : p.tables.exec = Jvm.exec) (hb : c.code = cc) (hts : ∀ w ∈ Ts, w.before args s = true) (hin : ∀ w ∈ u_ws RX2 TX2 2, w ∈ Ts) (hown : s.vm.findClass own = some m.cls) (hK : KW G s) (hI : Iv V G st H) (hv : V 2 i) (hlink : (Cond.fieldLink own index "BeamLines$History" "beams" "[LBeamLines$Beam;").before args s = true) (hdg : decode cc pc = .ok (.getfield index, 3)) (kk : W p l e R s m args below meth c H locs cells slots Q (F0 m (pc + 3) ls (.ref (G.2.2.1 16 (0)) :: rest))) : W p l e R s m args below meth c H locs cells slots Q (F0 m pc ls (.ref (G.2.2.1 2 i) :: rest)) :=
  r_get (C := RX2) (T := TX2) (N := 2) hx hb hts hin hown hK hI hv rfl rfl 0 (by decide) hlink (fun _ h9 => h9) rfl hdg kk
theorem gg_2_1 (hx : p.tables.exec = Jvm.exec) (hb : c.code = cc) (hts : ∀ w ∈ Ts, w.before args s = true) (hin : ∀ w ∈ u_ws RX2 TX2 2, w ∈ Ts) (hown : s.vm.findClass own = some m.cls) (hK : KW G s) (hI : Iv V G st H) (hv : V 2 i) (hlink : (Cond.fieldLink own index "BeamLines$History" "size" "I").before args s = true) (hdg : decode cc pc = .ok (.getfield index, 3)) (kk : W p l e R s m args below meth c H locs cells slots Q (F0 m (pc + 3) ls (.int (iI (st 2 1 i 0)) :: rest))) : W p l e R s m args below meth c H locs cells slots Q (F0 m pc ls (.ref (G.2.2.1 2 i) :: rest)) :=
  r_get (C := RX2) (T := TX2) (N := 2) hx hb hts hin hown hK hI hv rfl rfl 1 (by decide) hlink (fun _ h9 => h9) rfl hdg kk
theorem pp_2_1 (hx : p.tables.exec = Jvm.exec) (hb : c.code = cc) (hts : ∀ w ∈ Ts, w.before args s = true) (hin : ∀ w ∈ u_ws RX2 TX2 2, w ∈ Ts) (hown : s.vm.findClass own = some m.cls) (hK : KW G s) (hI : Iv V G st H) (hS : va_S G.2.2.2.1 H0 H locs) (hv : V 2 i) (hlink : (Cond.fieldLink own index "BeamLines$History" "size" "I").before args s = true) (hdg : decode cc pc = .ok (.putfield index, 3)) {x : Int} (kk : ∀ (st1 : St), st1 = up st 2 1 i 0 x → ∀ (H1 : Heap) (locs1 : List Loc), Iv V G st1 H1 → va_S G.2.2.2.1 H0 H1 locs1 → W p l e R s m args below meth c H1 locs1 cells slots Q (F0 m (pc + 3) ls rest)) : W p l e R s m args below meth c H locs cells slots Q (F0 m pc ls (.int (iI x) :: .ref (G.2.2.1 2 i) :: rest)) :=
  r_put (C := RX2) (T := TX2) (N := 2) (ty := .int) hx hb hts hin tyX2 tyX2_ok nmX2 hown hK hI hS hv rfl rfl 1 (by decide) hlink (fun _ h9 => h9) rfl (by decide +kernel) rfl rfl (Nat.le_of_ble_eq_true rfl) hdg (by rw [cel_2, up_same]; rfl) kk
theorem gg_3_0 (hx : p.tables.exec = Jvm.exec) (hb : c.code = cc) (hts : ∀ w ∈ Ts, w.before args s = true) (hin : ∀ w ∈ u_ws RX3 TX3 5, w ∈ Ts) (hown : s.vm.findClass own = some m.cls) (hK : KW G s) (hI : Iv V G st H) (hv : V 3 i) (hlink : (Cond.fieldLink own index "BeamLines$Lines" "matrix" "[[J").before args s = true) (hdg : decode cc pc = .ok (.getfield index, 3)) (kk : W p l e R s m args below meth c H locs cells slots Q (F0 m (pc + 3) ls (.ref (G.2.2.1 17 (i)) :: rest))) : W p l e R s m args below meth c H locs cells slots Q (F0 m pc ls (.ref (G.2.2.1 3 i) :: rest)) :=
  r_get (C := RX3) (T := TX3) (N := 5) hx hb hts hin hown hK hI hv rfl rfl 0 (by decide) hlink (fun _ h9 => h9) rfl hdg kk
theorem gg_3_1 (hx : p.tables.exec = Jvm.exec) (hb : c.code = cc) (hts : ∀ w ∈ Ts, w.before args s = true) (hin : ∀ w ∈ u_ws RX3 TX3 5, w ∈ Ts) (hown : s.vm.findClass own = some m.cls) (hK : KW G s) (hI : Iv V G st H) (hv : V 3 i) (hlink : (Cond.fieldLink own index "BeamLines$Lines" "line" "[[J").before args s = true) (hdg : decode cc pc = .ok (.getfield index, 3)) (kk : W p l e R s m args below meth c H locs cells slots Q (F0 m (pc + 3) ls (.ref (G.2.2.1 19 (i)) :: rest))) : W p l e R s m args below meth c H locs cells slots Q (F0 m pc ls (.ref (G.2.2.1 3 i) :: rest)) :=
  r_get (C := RX3) (T := TX3) (N := 5) hx hb hts hin hown hK hI hv rfl rfl 1 (by decide) hlink (fun _ h9 => h9) rfl hdg kk
theorem gg_3_2 (hx : p.tables.exec = Jvm.exec) (hb : c.code = cc) (hts : ∀ w ∈ Ts, w.before args s = true) (hin : ∀ w ∈ u_ws RX3 TX3 5, w ∈ Ts) (hown : s.vm.findClass own = some m.cls) (hK : KW G s) (hI : Iv V G st H) (hv : V 3 i) (hlink : (Cond.fieldLink own index "BeamLines$Lines" "size" "I").before args s = true) (hdg : decode cc pc = .ok (.getfield index, 3)) (kk : W p l e R s m args below meth c H locs cells slots Q (F0 m (pc + 3) ls (.int (iI (st 3 2 i 0)) :: rest))) : W p l e R s m args below meth c H locs cells slots Q (F0 m pc ls (.ref (G.2.2.1 3 i) :: rest)) :=
  r_get (C := RX3) (T := TX3) (N := 5) hx hb hts hin hown hK hI hv rfl rfl 2 (by decide) hlink (fun _ h9 => h9) rfl hdg kk
theorem pp_3_2 (hx : p.tables.exec = Jvm.exec) (hb : c.code = cc) (hts : ∀ w ∈ Ts, w.before args s = true) (hin : ∀ w ∈ u_ws RX3 TX3 5, w ∈ Ts) (hown : s.vm.findClass own = some m.cls) (hK : KW G s) (hI : Iv V G st H) (hS : va_S G.2.2.2.1 H0 H locs) (hv : V 3 i) (hlink : (Cond.fieldLink own index "BeamLines$Lines" "size" "I").before args s = true) (hdg : decode cc pc = .ok (.putfield index, 3)) {x : Int} (kk : ∀ (st1 : St), st1 = up st 3 2 i 0 x → ∀ (H1 : Heap) (locs1 : List Loc), Iv V G st1 H1 → va_S G.2.2.2.1 H0 H1 locs1 → W p l e R s m args below meth c H1 locs1 cells slots Q (F0 m (pc + 3) ls rest)) : W p l e R s m args below meth c H locs cells slots Q (F0 m pc ls (.int (iI x) :: .ref (G.2.2.1 3 i) :: rest)) :=
  r_put (C := RX3) (T := TX3) (N := 5) (ty := .int) hx hb hts hin tyX3 tyX3_ok nmX3 hown hK hI hS hv rfl rfl 2 (by decide) hlink (fun _ h9 => h9) rfl (by decide +kernel) rfl rfl (Nat.le_of_ble_eq_true rfl) hdg (by rw [cel_3, up_same]; rfl) kk
theorem gg_3_3 (hx : p.tables.exec = Jvm.exec) (hb : c.code = cc) (hts : ∀ w ∈ Ts, w.before args s = true) (hin : ∀ w ∈ u_ws RX3 TX3 5, w ∈ Ts) (hown : s.vm.findClass own = some m.cls) (hK : KW G s) (hI : Iv V G st H) (hv : V 3 i) (hlink : (Cond.fieldLink own index "BeamLines$Lines" "places" "I").before args s = true) (hdg : decode cc pc = .ok (.getfield index, 3)) (kk : W p l e R s m args below meth c H locs cells slots Q (F0 m (pc + 3) ls (.int (iI (st 3 3 i 0)) :: rest))) : W p l e R s m args below meth c H locs cells slots Q (F0 m pc ls (.ref (G.2.2.1 3 i) :: rest)) :=
  r_get (C := RX3) (T := TX3) (N := 5) hx hb hts hin hown hK hI hv rfl rfl 3 (by decide) hlink (fun _ h9 => h9) rfl hdg kk
theorem pp_3_3 (hx : p.tables.exec = Jvm.exec) (hb : c.code = cc) (hts : ∀ w ∈ Ts, w.before args s = true) (hin : ∀ w ∈ u_ws RX3 TX3 5, w ∈ Ts) (hown : s.vm.findClass own = some m.cls) (hK : KW G s) (hI : Iv V G st H) (hS : va_S G.2.2.2.1 H0 H locs) (hv : V 3 i) (hlink : (Cond.fieldLink own index "BeamLines$Lines" "places" "I").before args s = true) (hdg : decode cc pc = .ok (.putfield index, 3)) {x : Int} (kk : ∀ (st1 : St), st1 = up st 3 3 i 0 x → ∀ (H1 : Heap) (locs1 : List Loc), Iv V G st1 H1 → va_S G.2.2.2.1 H0 H1 locs1 → W p l e R s m args below meth c H1 locs1 cells slots Q (F0 m (pc + 3) ls rest)) : W p l e R s m args below meth c H locs cells slots Q (F0 m pc ls (.int (iI x) :: .ref (G.2.2.1 3 i) :: rest)) :=
  r_put (C := RX3) (T := TX3) (N := 5) (ty := .int) hx hb hts hin tyX3 tyX3_ok nmX3 hown hK hI hS hv rfl rfl 3 (by decide) hlink (fun _ h9 => h9) rfl (by decide +kernel) rfl rfl (Nat.le_of_ble_eq_true rfl) hdg (by rw [cel_3, up_same]; rfl) kk
theorem gg_3_4 (hx : p.tables.exec = Jvm.exec) (hb : c.code = cc) (hts : ∀ w ∈ Ts, w.before args s = true) (hin : ∀ w ∈ u_ws RX3 TX3 5, w ∈ Ts) (hown : s.vm.findClass own = some m.cls) (hK : KW G s) (hI : Iv V G st H) (hv : V 3 i) (hlink : (Cond.fieldLink own index "BeamLines$Lines" "common" "J").before args s = true) (hdg : decode cc pc = .ok (.getfield index, 3)) (kk : W p l e R s m args below meth c H locs cells slots Q (F0 m (pc + 3) ls (.long (lI (st 3 4 i 0)) :: rest))) : W p l e R s m args below meth c H locs cells slots Q (F0 m pc ls (.ref (G.2.2.1 3 i) :: rest)) :=
  r_get (C := RX3) (T := TX3) (N := 5) hx hb hts hin hown hK hI hv rfl rfl 4 (by decide) hlink (fun _ h9 => h9) rfl hdg kk
theorem pp_3_4 (hx : p.tables.exec = Jvm.exec) (hb : c.code = cc) (hts : ∀ w ∈ Ts, w.before args s = true) (hin : ∀ w ∈ u_ws RX3 TX3 5, w ∈ Ts) (hown : s.vm.findClass own = some m.cls) (hK : KW G s) (hI : Iv V G st H) (hS : va_S G.2.2.2.1 H0 H locs) (hv : V 3 i) (hlink : (Cond.fieldLink own index "BeamLines$Lines" "common" "J").before args s = true) (hdg : decode cc pc = .ok (.putfield index, 3)) {x : Int} (kk : ∀ (st1 : St), st1 = up st 3 4 i 0 x → ∀ (H1 : Heap) (locs1 : List Loc), Iv V G st1 H1 → va_S G.2.2.2.1 H0 H1 locs1 → W p l e R s m args below meth c H1 locs1 cells slots Q (F0 m (pc + 3) ls rest)) : W p l e R s m args below meth c H locs cells slots Q (F0 m pc ls (.long (lI x) :: .ref (G.2.2.1 3 i) :: rest)) :=
  r_put (C := RX3) (T := TX3) (N := 5) (ty := .long) hx hb hts hin tyX3 tyX3_ok nmX3 hown hK hI hS hv rfl rfl 4 (by decide) hlink (fun _ h9 => h9) rfl (by decide +kernel) rfl rfl (Nat.le_of_ble_eq_true rfl) hdg (by rw [cel_3, up_same]; rfl) kk
theorem gg_4_0 (hx : p.tables.exec = Jvm.exec) (hb : c.code = cc) (hts : ∀ w ∈ Ts, w.before args s = true) (hin : ∀ w ∈ u_ws RX4 TX4 2, w ∈ Ts) (hown : s.vm.findClass own = some m.cls) (hK : KW G s) (hI : Iv V G st H) (hv : V 4 i) (hlink : (Cond.fieldLink own index "BeamLines$Peak" "size" "J").before args s = true) (hdg : decode cc pc = .ok (.getfield index, 3)) (kk : W p l e R s m args below meth c H locs cells slots Q (F0 m (pc + 3) ls (.long (lI (st 4 0 i 0)) :: rest))) : W p l e R s m args below meth c H locs cells slots Q (F0 m pc ls (.ref (G.2.2.1 4 i) :: rest)) :=
  r_get (C := RX4) (T := TX4) (N := 2) hx hb hts hin hown hK hI hv rfl rfl 0 (by decide) hlink (fun _ h9 => h9) rfl hdg kk
theorem pp_4_0 (hx : p.tables.exec = Jvm.exec) (hb : c.code = cc) (hts : ∀ w ∈ Ts, w.before args s = true) (hin : ∀ w ∈ u_ws RX4 TX4 2, w ∈ Ts) (hown : s.vm.findClass own = some m.cls) (hK : KW G s) (hI : Iv V G st H) (hS : va_S G.2.2.2.1 H0 H locs) (hv : V 4 i) (hlink : (Cond.fieldLink own index "BeamLines$Peak" "size" "J").before args s = true) (hdg : decode cc pc = .ok (.putfield index, 3)) {x : Int} (kk : ∀ (st1 : St), st1 = up st 4 0 i 0 x → ∀ (H1 : Heap) (locs1 : List Loc), Iv V G st1 H1 → va_S G.2.2.2.1 H0 H1 locs1 → W p l e R s m args below meth c H1 locs1 cells slots Q (F0 m (pc + 3) ls rest)) : W p l e R s m args below meth c H locs cells slots Q (F0 m pc ls (.long (lI x) :: .ref (G.2.2.1 4 i) :: rest)) :=
  r_put (C := RX4) (T := TX4) (N := 2) (ty := .long) hx hb hts hin tyX4 tyX4_ok nmX4 hown hK hI hS hv rfl rfl 0 (by decide) hlink (fun _ h9 => h9) rfl (by decide +kernel) rfl rfl (Nat.le_of_ble_eq_true rfl) hdg (by rw [cel_4, up_same]; rfl) kk
theorem gg_4_1 (hx : p.tables.exec = Jvm.exec) (hb : c.code = cc) (hts : ∀ w ∈ Ts, w.before args s = true) (hin : ∀ w ∈ u_ws RX4 TX4 2, w ∈ Ts) (hown : s.vm.findClass own = some m.cls) (hK : KW G s) (hI : Iv V G st H) (hv : V 4 i) (hlink : (Cond.fieldLink own index "BeamLines$Peak" "place" "I").before args s = true) (hdg : decode cc pc = .ok (.getfield index, 3)) (kk : W p l e R s m args below meth c H locs cells slots Q (F0 m (pc + 3) ls (.int (iI (st 4 1 i 0)) :: rest))) : W p l e R s m args below meth c H locs cells slots Q (F0 m pc ls (.ref (G.2.2.1 4 i) :: rest)) :=
  r_get (C := RX4) (T := TX4) (N := 2) hx hb hts hin hown hK hI hv rfl rfl 1 (by decide) hlink (fun _ h9 => h9) rfl hdg kk
theorem pp_4_1 (hx : p.tables.exec = Jvm.exec) (hb : c.code = cc) (hts : ∀ w ∈ Ts, w.before args s = true) (hin : ∀ w ∈ u_ws RX4 TX4 2, w ∈ Ts) (hown : s.vm.findClass own = some m.cls) (hK : KW G s) (hI : Iv V G st H) (hS : va_S G.2.2.2.1 H0 H locs) (hv : V 4 i) (hlink : (Cond.fieldLink own index "BeamLines$Peak" "place" "I").before args s = true) (hdg : decode cc pc = .ok (.putfield index, 3)) {x : Int} (kk : ∀ (st1 : St), st1 = up st 4 1 i 0 x → ∀ (H1 : Heap) (locs1 : List Loc), Iv V G st1 H1 → va_S G.2.2.2.1 H0 H1 locs1 → W p l e R s m args below meth c H1 locs1 cells slots Q (F0 m (pc + 3) ls rest)) : W p l e R s m args below meth c H locs cells slots Q (F0 m pc ls (.int (iI x) :: .ref (G.2.2.1 4 i) :: rest)) :=
  r_put (C := RX4) (T := TX4) (N := 2) (ty := .int) hx hb hts hin tyX4 tyX4_ok nmX4 hown hK hI hS hv rfl rfl 1 (by decide) hlink (fun _ h9 => h9) rfl (by decide +kernel) rfl rfl (Nat.le_of_ble_eq_true rfl) hdg (by rw [cel_4, up_same]; rfl) kk
theorem gg_5_0 (hx : p.tables.exec = Jvm.exec) (hb : c.code = cc) (hts : ∀ w ∈ Ts, w.before args s = true) (hin : ∀ w ∈ u_ws RX5 TX5 5, w ∈ Ts) (hown : s.vm.findClass own = some m.cls) (hK : KW G s) (hI : Iv V G st H) (hv : V 5 i) (hlink : (Cond.fieldLink own index "BeamLines$Reader" "text" "LBeamLines$Text;").before args s = true) (hdg : decode cc pc = .ok (.getfield index, 3)) (kk : W p l e R s m args below meth c H locs cells slots Q (F0 m (pc + 3) ls (.ref (G.2.2.1 7 (0)) :: rest))) : W p l e R s m args below meth c H locs cells slots Q (F0 m pc ls (.ref (G.2.2.1 5 i) :: rest)) :=
  r_get (C := RX5) (T := TX5) (N := 5) hx hb hts hin hown hK hI hv rfl rfl 0 (by decide) hlink (fun _ h9 => h9) rfl hdg kk
theorem gg_5_1 (hx : p.tables.exec = Jvm.exec) (hb : c.code = cc) (hts : ∀ w ∈ Ts, w.before args s = true) (hin : ∀ w ∈ u_ws RX5 TX5 5, w ∈ Ts) (hown : s.vm.findClass own = some m.cls) (hK : KW G s) (hI : Iv V G st H) (hv : V 5 i) (hlink : (Cond.fieldLink own index "BeamLines$Reader" "beam" "LBeamLines$Beam;").before args s = true) (hdg : decode cc pc = .ok (.getfield index, 3)) (kk : W p l e R s m args below meth c H locs cells slots Q (F0 m (pc + 3) ls (.ref (G.2.2.1 0 (2)) :: rest))) : W p l e R s m args below meth c H locs cells slots Q (F0 m pc ls (.ref (G.2.2.1 5 i) :: rest)) :=
  r_get (C := RX5) (T := TX5) (N := 5) hx hb hts hin hown hK hI hv rfl rfl 1 (by decide) hlink (fun _ h9 => h9) rfl hdg kk
theorem gg_5_2 (hx : p.tables.exec = Jvm.exec) (hb : c.code = cc) (hts : ∀ w ∈ Ts, w.before args s = true) (hin : ∀ w ∈ u_ws RX5 TX5 5, w ∈ Ts) (hown : s.vm.findClass own = some m.cls) (hK : KW G s) (hI : Iv V G st H) (hv : V 5 i) (hlink : (Cond.fieldLink own index "BeamLines$Reader" "token" "I").before args s = true) (hdg : decode cc pc = .ok (.getfield index, 3)) (kk : W p l e R s m args below meth c H locs cells slots Q (F0 m (pc + 3) ls (.int (iI (st 5 2 i 0)) :: rest))) : W p l e R s m args below meth c H locs cells slots Q (F0 m pc ls (.ref (G.2.2.1 5 i) :: rest)) :=
  r_get (C := RX5) (T := TX5) (N := 5) hx hb hts hin hown hK hI hv rfl rfl 2 (by decide) hlink (fun _ h9 => h9) rfl hdg kk
theorem pp_5_2 (hx : p.tables.exec = Jvm.exec) (hb : c.code = cc) (hts : ∀ w ∈ Ts, w.before args s = true) (hin : ∀ w ∈ u_ws RX5 TX5 5, w ∈ Ts) (hown : s.vm.findClass own = some m.cls) (hK : KW G s) (hI : Iv V G st H) (hS : va_S G.2.2.2.1 H0 H locs) (hv : V 5 i) (hlink : (Cond.fieldLink own index "BeamLines$Reader" "token" "I").before args s = true) (hdg : decode cc pc = .ok (.putfield index, 3)) {x : Int} (kk : ∀ (st1 : St), st1 = up st 5 2 i 0 x → ∀ (H1 : Heap) (locs1 : List Loc), Iv V G st1 H1 → va_S G.2.2.2.1 H0 H1 locs1 → W p l e R s m args below meth c H1 locs1 cells slots Q (F0 m (pc + 3) ls rest)) : W p l e R s m args below meth c H locs cells slots Q (F0 m pc ls (.int (iI x) :: .ref (G.2.2.1 5 i) :: rest)) :=
  r_put (C := RX5) (T := TX5) (N := 5) (ty := .int) hx hb hts hin tyX5 tyX5_ok nmX5 hown hK hI hS hv rfl rfl 2 (by decide) hlink (fun _ h9 => h9) rfl (by decide +kernel) rfl rfl (Nat.le_of_ble_eq_true rfl) hdg (by rw [cel_5, up_same]; rfl) kk
theorem gg_5_3 (hx : p.tables.exec = Jvm.exec) (hb : c.code = cc) (hts : ∀ w ∈ Ts, w.before args s = true) (hin : ∀ w ∈ u_ws RX5 TX5 5, w ∈ Ts) (hown : s.vm.findClass own = some m.cls) (hK : KW G s) (hI : Iv V G st H) (hv : V 5 i) (hlink : (Cond.fieldLink own index "BeamLines$Reader" "code" "I").before args s = true) (hdg : decode cc pc = .ok (.getfield index, 3)) (kk : W p l e R s m args below meth c H locs cells slots Q (F0 m (pc + 3) ls (.int (iI (st 5 3 i 0)) :: rest))) : W p l e R s m args below meth c H locs cells slots Q (F0 m pc ls (.ref (G.2.2.1 5 i) :: rest)) :=
  r_get (C := RX5) (T := TX5) (N := 5) hx hb hts hin hown hK hI hv rfl rfl 3 (by decide) hlink (fun _ h9 => h9) rfl hdg kk
theorem pp_5_3 (hx : p.tables.exec = Jvm.exec) (hb : c.code = cc) (hts : ∀ w ∈ Ts, w.before args s = true) (hin : ∀ w ∈ u_ws RX5 TX5 5, w ∈ Ts) (hown : s.vm.findClass own = some m.cls) (hK : KW G s) (hI : Iv V G st H) (hS : va_S G.2.2.2.1 H0 H locs) (hv : V 5 i) (hlink : (Cond.fieldLink own index "BeamLines$Reader" "code" "I").before args s = true) (hdg : decode cc pc = .ok (.putfield index, 3)) {x : Int} (kk : ∀ (st1 : St), st1 = up st 5 3 i 0 x → ∀ (H1 : Heap) (locs1 : List Loc), Iv V G st1 H1 → va_S G.2.2.2.1 H0 H1 locs1 → W p l e R s m args below meth c H1 locs1 cells slots Q (F0 m (pc + 3) ls rest)) : W p l e R s m args below meth c H locs cells slots Q (F0 m pc ls (.int (iI x) :: .ref (G.2.2.1 5 i) :: rest)) :=
  r_put (C := RX5) (T := TX5) (N := 5) (ty := .int) hx hb hts hin tyX5 tyX5_ok nmX5 hown hK hI hS hv rfl rfl 3 (by decide) hlink (fun _ h9 => h9) rfl (by decide +kernel) rfl rfl (Nat.le_of_ble_eq_true rfl) hdg (by rw [cel_5, up_same]; rfl) kk
theorem gg_5_4 (hx : p.tables.exec = Jvm.exec) (hb : c.code = cc) (hts : ∀ w ∈ Ts, w.before args s = true) (hin : ∀ w ∈ u_ws RX5 TX5 5, w ∈ Ts) (hown : s.vm.findClass own = some m.cls) (hK : KW G s) (hI : Iv V G st H) (hv : V 5 i) (hlink : (Cond.fieldLink own index "BeamLines$Reader" "errorAt" "I").before args s = true) (hdg : decode cc pc = .ok (.getfield index, 3)) (kk : W p l e R s m args below meth c H locs cells slots Q (F0 m (pc + 3) ls (.int (iI (st 5 4 i 0)) :: rest))) : W p l e R s m args below meth c H locs cells slots Q (F0 m pc ls (.ref (G.2.2.1 5 i) :: rest)) :=
  r_get (C := RX5) (T := TX5) (N := 5) hx hb hts hin hown hK hI hv rfl rfl 4 (by decide) hlink (fun _ h9 => h9) rfl hdg kk
theorem pp_5_4 (hx : p.tables.exec = Jvm.exec) (hb : c.code = cc) (hts : ∀ w ∈ Ts, w.before args s = true) (hin : ∀ w ∈ u_ws RX5 TX5 5, w ∈ Ts) (hown : s.vm.findClass own = some m.cls) (hK : KW G s) (hI : Iv V G st H) (hS : va_S G.2.2.2.1 H0 H locs) (hv : V 5 i) (hlink : (Cond.fieldLink own index "BeamLines$Reader" "errorAt" "I").before args s = true) (hdg : decode cc pc = .ok (.putfield index, 3)) {x : Int} (kk : ∀ (st1 : St), st1 = up st 5 4 i 0 x → ∀ (H1 : Heap) (locs1 : List Loc), Iv V G st1 H1 → va_S G.2.2.2.1 H0 H1 locs1 → W p l e R s m args below meth c H1 locs1 cells slots Q (F0 m (pc + 3) ls rest)) : W p l e R s m args below meth c H locs cells slots Q (F0 m pc ls (.int (iI x) :: .ref (G.2.2.1 5 i) :: rest)) :=
  r_put (C := RX5) (T := TX5) (N := 5) (ty := .int) hx hb hts hin tyX5 tyX5_ok nmX5 hown hK hI hS hv rfl rfl 4 (by decide) hlink (fun _ h9 => h9) rfl (by decide +kernel) rfl rfl (Nat.le_of_ble_eq_true rfl) hdg (by rw [cel_5, up_same]; rfl) kk
theorem gg_6_0 (hx : p.tables.exec = Jvm.exec) (hb : c.code = cc) (hts : ∀ w ∈ Ts, w.before args s = true) (hin : ∀ w ∈ u_ws RX6 TX6 3, w ∈ Ts) (hown : s.vm.findClass own = some m.cls) (hK : KW G s) (hI : Iv V G st H) (hv : V 6 i) (hlink : (Cond.fieldLink own index "BeamLines$Row" "firsts" "[I").before args s = true) (hdg : decode cc pc = .ok (.getfield index, 3)) (kk : W p l e R s m args below meth c H locs cells slots Q (F0 m (pc + 3) ls (.ref (G.2.2.1 10 (i)) :: rest))) : W p l e R s m args below meth c H locs cells slots Q (F0 m pc ls (.ref (G.2.2.1 6 i) :: rest)) :=
  r_get (C := RX6) (T := TX6) (N := 3) hx hb hts hin hown hK hI hv rfl rfl 0 (by decide) hlink (fun _ h9 => h9) rfl hdg kk
theorem gg_6_1 (hx : p.tables.exec = Jvm.exec) (hb : c.code = cc) (hts : ∀ w ∈ Ts, w.before args s = true) (hin : ∀ w ∈ u_ws RX6 TX6 3, w ∈ Ts) (hown : s.vm.findClass own = some m.cls) (hK : KW G s) (hI : Iv V G st H) (hv : V 6 i) (hlink : (Cond.fieldLink own index "BeamLines$Row" "seconds" "[I").before args s = true) (hdg : decode cc pc = .ok (.getfield index, 3)) (kk : W p l e R s m args below meth c H locs cells slots Q (F0 m (pc + 3) ls (.ref (G.2.2.1 11 (i)) :: rest))) : W p l e R s m args below meth c H locs cells slots Q (F0 m pc ls (.ref (G.2.2.1 6 i) :: rest)) :=
  r_get (C := RX6) (T := TX6) (N := 3) hx hb hts hin hown hK hI hv rfl rfl 1 (by decide) hlink (fun _ h9 => h9) rfl hdg kk
theorem gg_6_2 (hx : p.tables.exec = Jvm.exec) (hb : c.code = cc) (hts : ∀ w ∈ Ts, w.before args s = true) (hin : ∀ w ∈ u_ws RX6 TX6 3, w ∈ Ts) (hown : s.vm.findClass own = some m.cls) (hK : KW G s) (hI : Iv V G st H) (hv : V 6 i) (hlink : (Cond.fieldLink own index "BeamLines$Row" "size" "I").before args s = true) (hdg : decode cc pc = .ok (.getfield index, 3)) (kk : W p l e R s m args below meth c H locs cells slots Q (F0 m (pc + 3) ls (.int (iI (st 6 2 i 0)) :: rest))) : W p l e R s m args below meth c H locs cells slots Q (F0 m pc ls (.ref (G.2.2.1 6 i) :: rest)) :=
  r_get (C := RX6) (T := TX6) (N := 3) hx hb hts hin hown hK hI hv rfl rfl 2 (by decide) hlink (fun _ h9 => h9) rfl hdg kk
theorem pp_6_2 (hx : p.tables.exec = Jvm.exec) (hb : c.code = cc) (hts : ∀ w ∈ Ts, w.before args s = true) (hin : ∀ w ∈ u_ws RX6 TX6 3, w ∈ Ts) (hown : s.vm.findClass own = some m.cls) (hK : KW G s) (hI : Iv V G st H) (hS : va_S G.2.2.2.1 H0 H locs) (hv : V 6 i) (hlink : (Cond.fieldLink own index "BeamLines$Row" "size" "I").before args s = true) (hdg : decode cc pc = .ok (.putfield index, 3)) {x : Int} (kk : ∀ (st1 : St), st1 = up st 6 2 i 0 x → ∀ (H1 : Heap) (locs1 : List Loc), Iv V G st1 H1 → va_S G.2.2.2.1 H0 H1 locs1 → W p l e R s m args below meth c H1 locs1 cells slots Q (F0 m (pc + 3) ls rest)) : W p l e R s m args below meth c H locs cells slots Q (F0 m pc ls (.int (iI x) :: .ref (G.2.2.1 6 i) :: rest)) :=
  r_put (C := RX6) (T := TX6) (N := 3) (ty := .int) hx hb hts hin tyX6 tyX6_ok nmX6 hown hK hI hS hv rfl rfl 2 (by decide) hlink (fun _ h9 => h9) rfl (by decide +kernel) rfl rfl (Nat.le_of_ble_eq_true rfl) hdg (by rw [cel_6, up_same]; rfl) kk
theorem gg_7_0 (hx : p.tables.exec = Jvm.exec) (hb : c.code = cc) (hts : ∀ w ∈ Ts, w.before args s = true) (hin : ∀ w ∈ u_ws RX7 TX7 7, w ∈ Ts) (hown : s.vm.findClass own = some m.cls) (hK : KW G s) (hI : Iv V G st H) (hv : V 7 i) (hlink : (Cond.fieldLink own index "BeamLines$Text" "bytes" "[C").before args s = true) (hdg : decode cc pc = .ok (.getfield index, 3)) (kk : W p l e R s m args below meth c H locs cells slots Q (F0 m (pc + 3) ls (.ref (G.2.2.1 21 (0)) :: rest))) : W p l e R s m args below meth c H locs cells slots Q (F0 m pc ls (.ref (G.2.2.1 7 i) :: rest)) :=
  r_get (C := RX7) (T := TX7) (N := 7) hx hb hts hin hown hK hI hv rfl rfl 0 (by decide) hlink (fun _ h9 => h9) rfl hdg kk
theorem gg_7_1 (hx : p.tables.exec = Jvm.exec) (hb : c.code = cc) (hts : ∀ w ∈ Ts, w.before args s = true) (hin : ∀ w ∈ u_ws RX7 TX7 7, w ∈ Ts) (hown : s.vm.findClass own = some m.cls) (hK : KW G s) (hI : Iv V G st H) (hv : V 7 i) (hlink : (Cond.fieldLink own index "BeamLines$Text" "length" "I").before args s = true) (hdg : decode cc pc = .ok (.getfield index, 3)) (kk : W p l e R s m args below meth c H locs cells slots Q (F0 m (pc + 3) ls (.int (iI (st 7 1 i 0)) :: rest))) : W p l e R s m args below meth c H locs cells slots Q (F0 m pc ls (.ref (G.2.2.1 7 i) :: rest)) :=
  r_get (C := RX7) (T := TX7) (N := 7) hx hb hts hin hown hK hI hv rfl rfl 1 (by decide) hlink (fun _ h9 => h9) rfl hdg kk
theorem pp_7_1 (hx : p.tables.exec = Jvm.exec) (hb : c.code = cc) (hts : ∀ w ∈ Ts, w.before args s = true) (hin : ∀ w ∈ u_ws RX7 TX7 7, w ∈ Ts) (hown : s.vm.findClass own = some m.cls) (hK : KW G s) (hI : Iv V G st H) (hS : va_S G.2.2.2.1 H0 H locs) (hv : V 7 i) (hlink : (Cond.fieldLink own index "BeamLines$Text" "length" "I").before args s = true) (hdg : decode cc pc = .ok (.putfield index, 3)) {x : Int} (kk : ∀ (st1 : St), st1 = up st 7 1 i 0 x → ∀ (H1 : Heap) (locs1 : List Loc), Iv V G st1 H1 → va_S G.2.2.2.1 H0 H1 locs1 → W p l e R s m args below meth c H1 locs1 cells slots Q (F0 m (pc + 3) ls rest)) : W p l e R s m args below meth c H locs cells slots Q (F0 m pc ls (.int (iI x) :: .ref (G.2.2.1 7 i) :: rest)) :=
  r_put (C := RX7) (T := TX7) (N := 7) (ty := .int) hx hb hts hin tyX7 tyX7_ok nmX7 hown hK hI hS hv rfl rfl 1 (by decide) hlink (fun _ h9 => h9) rfl (by decide +kernel) rfl rfl (Nat.le_of_ble_eq_true rfl) hdg (by rw [cel_7, up_same]; rfl) kk
theorem gg_7_2 (hx : p.tables.exec = Jvm.exec) (hb : c.code = cc) (hts : ∀ w ∈ Ts, w.before args s = true) (hin : ∀ w ∈ u_ws RX7 TX7 7, w ∈ Ts) (hown : s.vm.findClass own = some m.cls) (hK : KW G s) (hI : Iv V G st H) (hv : V 7 i) (hlink : (Cond.fieldLink own index "BeamLines$Text" "kinds" "[I").before args s = true) (hdg : decode cc pc = .ok (.getfield index, 3)) (kk : W p l e R s m args below meth c H locs cells slots Q (F0 m (pc + 3) ls (.ref (G.2.2.1 22 (0)) :: rest))) : W p l e R s m args below meth c H locs cells slots Q (F0 m pc ls (.ref (G.2.2.1 7 i) :: rest)) :=
  r_get (C := RX7) (T := TX7) (N := 7) hx hb hts hin hown hK hI hv rfl rfl 2 (by decide) hlink (fun _ h9 => h9) rfl hdg kk
theorem gg_7_3 (hx : p.tables.exec = Jvm.exec) (hb : c.code = cc) (hts : ∀ w ∈ Ts, w.before args s = true) (hin : ∀ w ∈ u_ws RX7 TX7 7, w ∈ Ts) (hown : s.vm.findClass own = some m.cls) (hK : KW G s) (hI : Iv V G st H) (hv : V 7 i) (hlink : (Cond.fieldLink own index "BeamLines$Text" "starts" "[I").before args s = true) (hdg : decode cc pc = .ok (.getfield index, 3)) (kk : W p l e R s m args below meth c H locs cells slots Q (F0 m (pc + 3) ls (.ref (G.2.2.1 23 (0)) :: rest))) : W p l e R s m args below meth c H locs cells slots Q (F0 m pc ls (.ref (G.2.2.1 7 i) :: rest)) :=
  r_get (C := RX7) (T := TX7) (N := 7) hx hb hts hin hown hK hI hv rfl rfl 3 (by decide) hlink (fun _ h9 => h9) rfl hdg kk
theorem gg_7_4 (hx : p.tables.exec = Jvm.exec) (hb : c.code = cc) (hts : ∀ w ∈ Ts, w.before args s = true) (hin : ∀ w ∈ u_ws RX7 TX7 7, w ∈ Ts) (hown : s.vm.findClass own = some m.cls) (hK : KW G s) (hI : Iv V G st H) (hv : V 7 i) (hlink : (Cond.fieldLink own index "BeamLines$Text" "ends" "[I").before args s = true) (hdg : decode cc pc = .ok (.getfield index, 3)) (kk : W p l e R s m args below meth c H locs cells slots Q (F0 m (pc + 3) ls (.ref (G.2.2.1 24 (0)) :: rest))) : W p l e R s m args below meth c H locs cells slots Q (F0 m pc ls (.ref (G.2.2.1 7 i) :: rest)) :=
  r_get (C := RX7) (T := TX7) (N := 7) hx hb hts hin hown hK hI hv rfl rfl 4 (by decide) hlink (fun _ h9 => h9) rfl hdg kk
theorem gg_7_5 (hx : p.tables.exec = Jvm.exec) (hb : c.code = cc) (hts : ∀ w ∈ Ts, w.before args s = true) (hin : ∀ w ∈ u_ws RX7 TX7 7, w ∈ Ts) (hown : s.vm.findClass own = some m.cls) (hK : KW G s) (hI : Iv V G st H) (hv : V 7 i) (hlink : (Cond.fieldLink own index "BeamLines$Text" "values" "[I").before args s = true) (hdg : decode cc pc = .ok (.getfield index, 3)) (kk : W p l e R s m args below meth c H locs cells slots Q (F0 m (pc + 3) ls (.ref (G.2.2.1 25 (0)) :: rest))) : W p l e R s m args below meth c H locs cells slots Q (F0 m pc ls (.ref (G.2.2.1 7 i) :: rest)) :=
  r_get (C := RX7) (T := TX7) (N := 7) hx hb hts hin hown hK hI hv rfl rfl 5 (by decide) hlink (fun _ h9 => h9) rfl hdg kk
theorem gg_7_6 (hx : p.tables.exec = Jvm.exec) (hb : c.code = cc) (hts : ∀ w ∈ Ts, w.before args s = true) (hin : ∀ w ∈ u_ws RX7 TX7 7, w ∈ Ts) (hown : s.vm.findClass own = some m.cls) (hK : KW G s) (hI : Iv V G st H) (hv : V 7 i) (hlink : (Cond.fieldLink own index "BeamLines$Text" "tokens" "I").before args s = true) (hdg : decode cc pc = .ok (.getfield index, 3)) (kk : W p l e R s m args below meth c H locs cells slots Q (F0 m (pc + 3) ls (.int (iI (st 7 6 i 0)) :: rest))) : W p l e R s m args below meth c H locs cells slots Q (F0 m pc ls (.ref (G.2.2.1 7 i) :: rest)) :=
  r_get (C := RX7) (T := TX7) (N := 7) hx hb hts hin hown hK hI hv rfl rfl 6 (by decide) hlink (fun _ h9 => h9) rfl hdg kk
theorem pp_7_6 (hx : p.tables.exec = Jvm.exec) (hb : c.code = cc) (hts : ∀ w ∈ Ts, w.before args s = true) (hin : ∀ w ∈ u_ws RX7 TX7 7, w ∈ Ts) (hown : s.vm.findClass own = some m.cls) (hK : KW G s) (hI : Iv V G st H) (hS : va_S G.2.2.2.1 H0 H locs) (hv : V 7 i) (hlink : (Cond.fieldLink own index "BeamLines$Text" "tokens" "I").before args s = true) (hdg : decode cc pc = .ok (.putfield index, 3)) {x : Int} (kk : ∀ (st1 : St), st1 = up st 7 6 i 0 x → ∀ (H1 : Heap) (locs1 : List Loc), Iv V G st1 H1 → va_S G.2.2.2.1 H0 H1 locs1 → W p l e R s m args below meth c H1 locs1 cells slots Q (F0 m (pc + 3) ls rest)) : W p l e R s m args below meth c H locs cells slots Q (F0 m pc ls (.int (iI x) :: .ref (G.2.2.1 7 i) :: rest)) :=
  r_put (C := RX7) (T := TX7) (N := 7) (ty := .int) hx hb hts hin tyX7 tyX7_ok nmX7 hown hK hI hS hv rfl rfl 6 (by decide) hlink (fun _ h9 => h9) rfl (by decide +kernel) rfl rfl (Nat.le_of_ble_eq_true rfl) hdg (by rw [cel_7, up_same]; rfl) kk
theorem gg_8_0 (hx : p.tables.exec = Jvm.exec) (hb : c.code = cc) (hts : ∀ w ∈ Ts, w.before args s = true) (hin : ∀ w ∈ u_ws RX8 TX8 14, w ∈ Ts) (hown : s.vm.findClass own = some m.cls) (hK : KW G s) (hI : Iv V G st H) (hv : V 8 i) (hlink : (Cond.fieldLink own index "BeamLines" "reader" "LBeamLines$Reader;").before args s = true) (hdg : decode cc pc = .ok (.getfield index, 3)) (kk : W p l e R s m args below meth c H locs cells slots Q (F0 m (pc + 3) ls (.ref (G.2.2.1 5 (0)) :: rest))) : W p l e R s m args below meth c H locs cells slots Q (F0 m pc ls (.ref (G.2.2.1 8 i) :: rest)) :=
  r_get (C := RX8) (T := TX8) (N := 14) hx hb hts hin hown hK hI hv rfl rfl 0 (by decide) hlink (fun _ h9 => h9) rfl hdg kk
theorem gg_8_1 (hx : p.tables.exec = Jvm.exec) (hb : c.code = cc) (hts : ∀ w ∈ Ts, w.before args s = true) (hin : ∀ w ∈ u_ws RX8 TX8 14, w ∈ Ts) (hown : s.vm.findClass own = some m.cls) (hK : KW G s) (hI : Iv V G st H) (hv : V 8 i) (hlink : (Cond.fieldLink own index "BeamLines" "errorAt" "I").before args s = true) (hdg : decode cc pc = .ok (.getfield index, 3)) (kk : W p l e R s m args below meth c H locs cells slots Q (F0 m (pc + 3) ls (.int (iI (st 8 1 i 0)) :: rest))) : W p l e R s m args below meth c H locs cells slots Q (F0 m pc ls (.ref (G.2.2.1 8 i) :: rest)) :=
  r_get (C := RX8) (T := TX8) (N := 14) hx hb hts hin hown hK hI hv rfl rfl 1 (by decide) hlink (fun _ h9 => h9) rfl hdg kk
theorem pp_8_1 (hx : p.tables.exec = Jvm.exec) (hb : c.code = cc) (hts : ∀ w ∈ Ts, w.before args s = true) (hin : ∀ w ∈ u_ws RX8 TX8 14, w ∈ Ts) (hown : s.vm.findClass own = some m.cls) (hK : KW G s) (hI : Iv V G st H) (hS : va_S G.2.2.2.1 H0 H locs) (hv : V 8 i) (hlink : (Cond.fieldLink own index "BeamLines" "errorAt" "I").before args s = true) (hdg : decode cc pc = .ok (.putfield index, 3)) {x : Int} (kk : ∀ (st1 : St), st1 = up st 8 1 i 0 x → ∀ (H1 : Heap) (locs1 : List Loc), Iv V G st1 H1 → va_S G.2.2.2.1 H0 H1 locs1 → W p l e R s m args below meth c H1 locs1 cells slots Q (F0 m (pc + 3) ls rest)) : W p l e R s m args below meth c H locs cells slots Q (F0 m pc ls (.int (iI x) :: .ref (G.2.2.1 8 i) :: rest)) :=
  r_put (C := RX8) (T := TX8) (N := 14) (ty := .int) hx hb hts hin tyX8 tyX8_ok nmX8 hown hK hI hS hv rfl rfl 1 (by decide) hlink (fun _ h9 => h9) rfl (by decide +kernel) rfl rfl (Nat.le_of_ble_eq_true rfl) hdg (by rw [cel_8, up_same]; rfl) kk
theorem gg_8_2 (hx : p.tables.exec = Jvm.exec) (hb : c.code = cc) (hts : ∀ w ∈ Ts, w.before args s = true) (hin : ∀ w ∈ u_ws RX8 TX8 14, w ∈ Ts) (hown : s.vm.findClass own = some m.cls) (hK : KW G s) (hI : Iv V G st H) (hv : V 8 i) (hlink : (Cond.fieldLink own index "BeamLines" "present" "LBeamLines$Beam;").before args s = true) (hdg : decode cc pc = .ok (.getfield index, 3)) (kk : W p l e R s m args below meth c H locs cells slots Q (F0 m (pc + 3) ls (.ref (G.2.2.1 0 (0)) :: rest))) : W p l e R s m args below meth c H locs cells slots Q (F0 m pc ls (.ref (G.2.2.1 8 i) :: rest)) :=
  r_get (C := RX8) (T := TX8) (N := 14) hx hb hts hin hown hK hI hv rfl rfl 2 (by decide) hlink (fun _ h9 => h9) rfl hdg kk
theorem gg_8_3 (hx : p.tables.exec = Jvm.exec) (hb : c.code = cc) (hts : ∀ w ∈ Ts, w.before args s = true) (hin : ∀ w ∈ u_ws RX8 TX8 14, w ∈ Ts) (hown : s.vm.findClass own = some m.cls) (hK : KW G s) (hI : Iv V G st H) (hv : V 8 i) (hlink : (Cond.fieldLink own index "BeamLines" "lines" "LBeamLines$Lines;").before args s = true) (hdg : decode cc pc = .ok (.getfield index, 3)) (kk : W p l e R s m args below meth c H locs cells slots Q (F0 m (pc + 3) ls (.ref (G.2.2.1 3 (0)) :: rest))) : W p l e R s m args below meth c H locs cells slots Q (F0 m pc ls (.ref (G.2.2.1 8 i) :: rest)) :=
  r_get (C := RX8) (T := TX8) (N := 14) hx hb hts hin hown hK hI hv rfl rfl 3 (by decide) hlink (fun _ h9 => h9) rfl hdg kk
theorem gg_8_4 (hx : p.tables.exec = Jvm.exec) (hb : c.code = cc) (hts : ∀ w ∈ Ts, w.before args s = true) (hin : ∀ w ∈ u_ws RX8 TX8 14, w ∈ Ts) (hown : s.vm.findClass own = some m.cls) (hK : KW G s) (hI : Iv V G st H) (hv : V 8 i) (hlink : (Cond.fieldLink own index "BeamLines" "trial" "LBeamLines$Beam;").before args s = true) (hdg : decode cc pc = .ok (.getfield index, 3)) (kk : W p l e R s m args below meth c H locs cells slots Q (F0 m (pc + 3) ls (.ref (G.2.2.1 0 (1)) :: rest))) : W p l e R s m args below meth c H locs cells slots Q (F0 m pc ls (.ref (G.2.2.1 8 i) :: rest)) :=
  r_get (C := RX8) (T := TX8) (N := 14) hx hb hts hin hown hK hI hv rfl rfl 4 (by decide) hlink (fun _ h9 => h9) rfl hdg kk
theorem gg_8_5 (hx : p.tables.exec = Jvm.exec) (hb : c.code = cc) (hts : ∀ w ∈ Ts, w.before args s = true) (hin : ∀ w ∈ u_ws RX8 TX8 14, w ∈ Ts) (hown : s.vm.findClass own = some m.cls) (hK : KW G s) (hI : Iv V G st H) (hv : V 8 i) (hlink : (Cond.fieldLink own index "BeamLines" "trialLines" "LBeamLines$Lines;").before args s = true) (hdg : decode cc pc = .ok (.getfield index, 3)) (kk : W p l e R s m args below meth c H locs cells slots Q (F0 m (pc + 3) ls (.ref (G.2.2.1 3 (1)) :: rest))) : W p l e R s m args below meth c H locs cells slots Q (F0 m pc ls (.ref (G.2.2.1 8 i) :: rest)) :=
  r_get (C := RX8) (T := TX8) (N := 14) hx hb hts hin hown hK hI hv rfl rfl 5 (by decide) hlink (fun _ h9 => h9) rfl hdg kk
theorem gg_8_6 (hx : p.tables.exec = Jvm.exec) (hb : c.code = cc) (hts : ∀ w ∈ Ts, w.before args s = true) (hin : ∀ w ∈ u_ws RX8 TX8 14, w ∈ Ts) (hown : s.vm.findClass own = some m.cls) (hK : KW G s) (hI : Iv V G st H) (hv : V 8 i) (hlink : (Cond.fieldLink own index "BeamLines" "forces" "LBeamLines$Forces;").before args s = true) (hdg : decode cc pc = .ok (.getfield index, 3)) (kk : W p l e R s m args below meth c H locs cells slots Q (F0 m (pc + 3) ls (.ref (G.2.2.1 1 (0)) :: rest))) : W p l e R s m args below meth c H locs cells slots Q (F0 m pc ls (.ref (G.2.2.1 8 i) :: rest)) :=
  r_get (C := RX8) (T := TX8) (N := 14) hx hb hts hin hown hK hI hv rfl rfl 6 (by decide) hlink (fun _ h9 => h9) rfl hdg kk
theorem gg_8_7 (hx : p.tables.exec = Jvm.exec) (hb : c.code = cc) (hts : ∀ w ∈ Ts, w.before args s = true) (hin : ∀ w ∈ u_ws RX8 TX8 14, w ∈ Ts) (hown : s.vm.findClass own = some m.cls) (hK : KW G s) (hI : Iv V G st H) (hv : V 8 i) (hlink : (Cond.fieldLink own index "BeamLines" "withoutTrain" "LBeamLines$Forces;").before args s = true) (hdg : decode cc pc = .ok (.getfield index, 3)) (kk : W p l e R s m args below meth c H locs cells slots Q (F0 m (pc + 3) ls (.ref (G.2.2.1 1 (1)) :: rest))) : W p l e R s m args below meth c H locs cells slots Q (F0 m pc ls (.ref (G.2.2.1 8 i) :: rest)) :=
  r_get (C := RX8) (T := TX8) (N := 14) hx hb hts hin hown hK hI hv rfl rfl 7 (by decide) hlink (fun _ h9 => h9) rfl hdg kk
theorem gg_8_8 (hx : p.tables.exec = Jvm.exec) (hb : c.code = cc) (hts : ∀ w ∈ Ts, w.before args s = true) (hin : ∀ w ∈ u_ws RX8 TX8 14, w ∈ Ts) (hown : s.vm.findClass own = some m.cls) (hK : KW G s) (hI : Iv V G st H) (hv : V 8 i) (hlink : (Cond.fieldLink own index "BeamLines" "peak" "LBeamLines$Peak;").before args s = true) (hdg : decode cc pc = .ok (.getfield index, 3)) (kk : W p l e R s m args below meth c H locs cells slots Q (F0 m (pc + 3) ls (.ref (G.2.2.1 4 (0)) :: rest))) : W p l e R s m args below meth c H locs cells slots Q (F0 m pc ls (.ref (G.2.2.1 8 i) :: rest)) :=
  r_get (C := RX8) (T := TX8) (N := 14) hx hb hts hin hown hK hI hv rfl rfl 8 (by decide) hlink (fun _ h9 => h9) rfl hdg kk
theorem gg_8_9 (hx : p.tables.exec = Jvm.exec) (hb : c.code = cc) (hts : ∀ w ∈ Ts, w.before args s = true) (hin : ∀ w ∈ u_ws RX8 TX8 14, w ∈ Ts) (hown : s.vm.findClass own = some m.cls) (hK : KW G s) (hI : Iv V G st H) (hv : V 8 i) (hlink : (Cond.fieldLink own index "BeamLines" "history" "LBeamLines$History;").before args s = true) (hdg : decode cc pc = .ok (.getfield index, 3)) (kk : W p l e R s m args below meth c H locs cells slots Q (F0 m (pc + 3) ls (.ref (G.2.2.1 2 (0)) :: rest))) : W p l e R s m args below meth c H locs cells slots Q (F0 m pc ls (.ref (G.2.2.1 8 i) :: rest)) :=
  r_get (C := RX8) (T := TX8) (N := 14) hx hb hts hin hown hK hI hv rfl rfl 9 (by decide) hlink (fun _ h9 => h9) rfl hdg kk
theorem gg_8_10 (hx : p.tables.exec = Jvm.exec) (hb : c.code = cc) (hts : ∀ w ∈ Ts, w.before args s = true) (hin : ∀ w ∈ u_ws RX8 TX8 14, w ∈ Ts) (hown : s.vm.findClass own = some m.cls) (hK : KW G s) (hI : Iv V G st H) (hv : V 8 i) (hlink : (Cond.fieldLink own index "BeamLines" "saved" "[LBeamLines$Beam;").before args s = true) (hdg : decode cc pc = .ok (.getfield index, 3)) (kk : W p l e R s m args below meth c H locs cells slots Q (F0 m (pc + 3) ls (.ref (G.2.2.1 26 (0)) :: rest))) : W p l e R s m args below meth c H locs cells slots Q (F0 m pc ls (.ref (G.2.2.1 8 i) :: rest)) :=
  r_get (C := RX8) (T := TX8) (N := 14) hx hb hts hin hown hK hI hv rfl rfl 10 (by decide) hlink (fun _ h9 => h9) rfl hdg kk
theorem gg_8_11 (hx : p.tables.exec = Jvm.exec) (hb : c.code = cc) (hts : ∀ w ∈ Ts, w.before args s = true) (hin : ∀ w ∈ u_ws RX8 TX8 14, w ∈ Ts) (hown : s.vm.findClass own = some m.cls) (hK : KW G s) (hI : Iv V G st H) (hv : V 8 i) (hlink : (Cond.fieldLink own index "BeamLines" "isSaved" "[Z").before args s = true) (hdg : decode cc pc = .ok (.getfield index, 3)) (kk : W p l e R s m args below meth c H locs cells slots Q (F0 m (pc + 3) ls (.ref (G.2.2.1 27 (0)) :: rest))) : W p l e R s m args below meth c H locs cells slots Q (F0 m pc ls (.ref (G.2.2.1 8 i) :: rest)) :=
  r_get (C := RX8) (T := TX8) (N := 14) hx hb hts hin hown hK hI hv rfl rfl 11 (by decide) hlink (fun _ h9 => h9) rfl hdg kk
theorem gg_8_12 (hx : p.tables.exec = Jvm.exec) (hb : c.code = cc) (hts : ∀ w ∈ Ts, w.before args s = true) (hin : ∀ w ∈ u_ws RX8 TX8 14, w ∈ Ts) (hown : s.vm.findClass own = some m.cls) (hK : KW G s) (hI : Iv V G st H) (hv : V 8 i) (hlink : (Cond.fieldLink own index "BeamLines" "written" "[C").before args s = true) (hdg : decode cc pc = .ok (.getfield index, 3)) (kk : W p l e R s m args below meth c H locs cells slots Q (F0 m (pc + 3) ls (.ref (G.2.2.1 28 (0)) :: rest))) : W p l e R s m args below meth c H locs cells slots Q (F0 m pc ls (.ref (G.2.2.1 8 i) :: rest)) :=
  r_get (C := RX8) (T := TX8) (N := 14) hx hb hts hin hown hK hI hv rfl rfl 12 (by decide) hlink (fun _ h9 => h9) rfl hdg kk
theorem gg_8_13 (hx : p.tables.exec = Jvm.exec) (hb : c.code = cc) (hts : ∀ w ∈ Ts, w.before args s = true) (hin : ∀ w ∈ u_ws RX8 TX8 14, w ∈ Ts) (hown : s.vm.findClass own = some m.cls) (hK : KW G s) (hI : Iv V G st H) (hv : V 8 i) (hlink : (Cond.fieldLink own index "BeamLines" "writtenLength" "I").before args s = true) (hdg : decode cc pc = .ok (.getfield index, 3)) (kk : W p l e R s m args below meth c H locs cells slots Q (F0 m (pc + 3) ls (.int (iI (st 8 13 i 0)) :: rest))) : W p l e R s m args below meth c H locs cells slots Q (F0 m pc ls (.ref (G.2.2.1 8 i) :: rest)) :=
  r_get (C := RX8) (T := TX8) (N := 14) hx hb hts hin hown hK hI hv rfl rfl 13 (by decide) hlink (fun _ h9 => h9) rfl hdg kk
theorem pp_8_13 (hx : p.tables.exec = Jvm.exec) (hb : c.code = cc) (hts : ∀ w ∈ Ts, w.before args s = true) (hin : ∀ w ∈ u_ws RX8 TX8 14, w ∈ Ts) (hown : s.vm.findClass own = some m.cls) (hK : KW G s) (hI : Iv V G st H) (hS : va_S G.2.2.2.1 H0 H locs) (hv : V 8 i) (hlink : (Cond.fieldLink own index "BeamLines" "writtenLength" "I").before args s = true) (hdg : decode cc pc = .ok (.putfield index, 3)) {x : Int} (kk : ∀ (st1 : St), st1 = up st 8 13 i 0 x → ∀ (H1 : Heap) (locs1 : List Loc), Iv V G st1 H1 → va_S G.2.2.2.1 H0 H1 locs1 → W p l e R s m args below meth c H1 locs1 cells slots Q (F0 m (pc + 3) ls rest)) : W p l e R s m args below meth c H locs cells slots Q (F0 m pc ls (.int (iI x) :: .ref (G.2.2.1 8 i) :: rest)) :=
  r_put (C := RX8) (T := TX8) (N := 14) (ty := .int) hx hb hts hin tyX8 tyX8_ok nmX8 hown hK hI hS hv rfl rfl 13 (by decide) hlink (fun _ h9 => h9) rfl (by decide +kernel) rfl rfl (Nat.le_of_ble_eq_true rfl) hdg (by rw [cel_8, up_same]; rfl) kk
theorem gg_9_0 (hx : p.tables.exec = Jvm.exec) (hb : c.code = cc) (hts : ∀ w ∈ Ts, w.before args s = true) (hin : ∀ w ∈ u_ws RX9 TX9 22, w ∈ Ts) (hown : s.vm.findClass own = some m.cls) (hK : KW G s) (hI : Iv V G st H) (hv : V 9 i) (hlink : (Cond.fieldLink own index "BeamLinesModel" "a" "[I").before args s = true) (hdg : decode cc pc = .ok (.getfield index, 3)) (kk : W p l e R s m args below meth c H locs cells slots Q (F0 m (pc + 3) ls (.ref (G.2.2.1 30 (0)) :: rest))) : W p l e R s m args below meth c H locs cells slots Q (F0 m pc ls (.ref (G.2.2.1 9 i) :: rest)) :=
  r_get (C := RX9) (T := TX9) (N := 22) hx hb hts hin hown hK hI hv rfl rfl 0 (by decide) hlink (fun _ h9 => h9) rfl hdg kk
theorem gg_9_1 (hx : p.tables.exec = Jvm.exec) (hb : c.code = cc) (hts : ∀ w ∈ Ts, w.before args s = true) (hin : ∀ w ∈ u_ws RX9 TX9 22, w ∈ Ts) (hown : s.vm.findClass own = some m.cls) (hK : KW G s) (hI : Iv V G st H) (hv : V 9 i) (hlink : (Cond.fieldLink own index "BeamLinesModel" "aside" "[I").before args s = true) (hdg : decode cc pc = .ok (.getfield index, 3)) (kk : W p l e R s m args below meth c H locs cells slots Q (F0 m (pc + 3) ls (.ref (G.2.2.1 30 (1)) :: rest))) : W p l e R s m args below meth c H locs cells slots Q (F0 m pc ls (.ref (G.2.2.1 9 i) :: rest)) :=
  r_get (C := RX9) (T := TX9) (N := 22) hx hb hts hin hown hK hI hv rfl rfl 1 (by decide) hlink (fun _ h9 => h9) rfl hdg kk
theorem gg_9_2 (hx : p.tables.exec = Jvm.exec) (hb : c.code = cc) (hts : ∀ w ∈ Ts, w.before args s = true) (hin : ∀ w ∈ u_ws RX9 TX9 22, w ∈ Ts) (hown : s.vm.findClass own = some m.cls) (hK : KW G s) (hI : Iv V G st H) (hv : V 9 i) (hlink : (Cond.fieldLink own index "BeamLinesModel" "kept" "[I").before args s = true) (hdg : decode cc pc = .ok (.getfield index, 3)) (kk : W p l e R s m args below meth c H locs cells slots Q (F0 m (pc + 3) ls (.ref (G.2.2.1 30 (2)) :: rest))) : W p l e R s m args below meth c H locs cells slots Q (F0 m pc ls (.ref (G.2.2.1 9 i) :: rest)) :=
  r_get (C := RX9) (T := TX9) (N := 22) hx hb hts hin hown hK hI hv rfl rfl 2 (by decide) hlink (fun _ h9 => h9) rfl hdg kk
theorem gg_9_3 (hx : p.tables.exec = Jvm.exec) (hb : c.code = cc) (hts : ∀ w ∈ Ts, w.before args s = true) (hin : ∀ w ∈ u_ws RX9 TX9 22, w ∈ Ts) (hown : s.vm.findClass own = some m.cls) (hK : KW G s) (hI : Iv V G st H) (hv : V 9 i) (hlink : (Cond.fieldLink own index "BeamLinesModel" "saved" "[I").before args s = true) (hdg : decode cc pc = .ok (.getfield index, 3)) (kk : W p l e R s m args below meth c H locs cells slots Q (F0 m (pc + 3) ls (.ref (G.2.2.1 30 (3)) :: rest))) : W p l e R s m args below meth c H locs cells slots Q (F0 m pc ls (.ref (G.2.2.1 9 i) :: rest)) :=
  r_get (C := RX9) (T := TX9) (N := 22) hx hb hts hin hown hK hI hv rfl rfl 3 (by decide) hlink (fun _ h9 => h9) rfl hdg kk
theorem gg_9_4 (hx : p.tables.exec = Jvm.exec) (hb : c.code = cc) (hts : ∀ w ∈ Ts, w.before args s = true) (hin : ∀ w ∈ u_ws RX9 TX9 22, w ∈ Ts) (hown : s.vm.findClass own = some m.cls) (hK : KW G s) (hI : Iv V G st H) (hv : V 9 i) (hlink : (Cond.fieldLink own index "BeamLinesModel" "isSaved" "[Z").before args s = true) (hdg : decode cc pc = .ok (.getfield index, 3)) (kk : W p l e R s m args below meth c H locs cells slots Q (F0 m (pc + 3) ls (.ref (G.2.2.1 34 (0)) :: rest))) : W p l e R s m args below meth c H locs cells slots Q (F0 m pc ls (.ref (G.2.2.1 9 i) :: rest)) :=
  r_get (C := RX9) (T := TX9) (N := 22) hx hb hts hin hown hK hI hv rfl rfl 4 (by decide) hlink (fun _ h9 => h9) rfl hdg kk
theorem gg_9_5 (hx : p.tables.exec = Jvm.exec) (hb : c.code = cc) (hts : ∀ w ∈ Ts, w.before args s = true) (hin : ∀ w ∈ u_ws RX9 TX9 22, w ∈ Ts) (hown : s.vm.findClass own = some m.cls) (hK : KW G s) (hI : Iv V G st H) (hv : V 9 i) (hlink : (Cond.fieldLink own index "BeamLinesModel" "keptMany" "I").before args s = true) (hdg : decode cc pc = .ok (.getfield index, 3)) (kk : W p l e R s m args below meth c H locs cells slots Q (F0 m (pc + 3) ls (.int (iI (st 9 5 i 0)) :: rest))) : W p l e R s m args below meth c H locs cells slots Q (F0 m pc ls (.ref (G.2.2.1 9 i) :: rest)) :=
  r_get (C := RX9) (T := TX9) (N := 22) hx hb hts hin hown hK hI hv rfl rfl 5 (by decide) hlink (fun _ h9 => h9) rfl hdg kk
theorem pp_9_5 (hx : p.tables.exec = Jvm.exec) (hb : c.code = cc) (hts : ∀ w ∈ Ts, w.before args s = true) (hin : ∀ w ∈ u_ws RX9 TX9 22, w ∈ Ts) (hown : s.vm.findClass own = some m.cls) (hK : KW G s) (hI : Iv V G st H) (hS : va_S G.2.2.2.1 H0 H locs) (hv : V 9 i) (hlink : (Cond.fieldLink own index "BeamLinesModel" "keptMany" "I").before args s = true) (hdg : decode cc pc = .ok (.putfield index, 3)) {x : Int} (kk : ∀ (st1 : St), st1 = up st 9 5 i 0 x → ∀ (H1 : Heap) (locs1 : List Loc), Iv V G st1 H1 → va_S G.2.2.2.1 H0 H1 locs1 → W p l e R s m args below meth c H1 locs1 cells slots Q (F0 m (pc + 3) ls rest)) : W p l e R s m args below meth c H locs cells slots Q (F0 m pc ls (.int (iI x) :: .ref (G.2.2.1 9 i) :: rest)) :=
  r_put (C := RX9) (T := TX9) (N := 22) (ty := .int) hx hb hts hin tyX9 tyX9_ok nmX9 hown hK hI hS hv rfl rfl 5 (by decide) hlink (fun _ h9 => h9) rfl (by decide +kernel) rfl rfl (Nat.le_of_ble_eq_true rfl) hdg (by rw [cel_9, up_same]; rfl) kk
theorem gg_9_6 (hx : p.tables.exec = Jvm.exec) (hb : c.code = cc) (hts : ∀ w ∈ Ts, w.before args s = true) (hin : ∀ w ∈ u_ws RX9 TX9 22, w ∈ Ts) (hown : s.vm.findClass own = some m.cls) (hK : KW G s) (hI : Iv V G st H) (hv : V 9 i) (hlink : (Cond.fieldLink own index "BeamLinesModel" "thrown" "I").before args s = true) (hdg : decode cc pc = .ok (.getfield index, 3)) (kk : W p l e R s m args below meth c H locs cells slots Q (F0 m (pc + 3) ls (.int (iI (st 9 6 i 0)) :: rest))) : W p l e R s m args below meth c H locs cells slots Q (F0 m pc ls (.ref (G.2.2.1 9 i) :: rest)) :=
  r_get (C := RX9) (T := TX9) (N := 22) hx hb hts hin hown hK hI hv rfl rfl 6 (by decide) hlink (fun _ h9 => h9) rfl hdg kk
theorem pp_9_6 (hx : p.tables.exec = Jvm.exec) (hb : c.code = cc) (hts : ∀ w ∈ Ts, w.before args s = true) (hin : ∀ w ∈ u_ws RX9 TX9 22, w ∈ Ts) (hown : s.vm.findClass own = some m.cls) (hK : KW G s) (hI : Iv V G st H) (hS : va_S G.2.2.2.1 H0 H locs) (hv : V 9 i) (hlink : (Cond.fieldLink own index "BeamLinesModel" "thrown" "I").before args s = true) (hdg : decode cc pc = .ok (.putfield index, 3)) {x : Int} (kk : ∀ (st1 : St), st1 = up st 9 6 i 0 x → ∀ (H1 : Heap) (locs1 : List Loc), Iv V G st1 H1 → va_S G.2.2.2.1 H0 H1 locs1 → W p l e R s m args below meth c H1 locs1 cells slots Q (F0 m (pc + 3) ls rest)) : W p l e R s m args below meth c H locs cells slots Q (F0 m pc ls (.int (iI x) :: .ref (G.2.2.1 9 i) :: rest)) :=
  r_put (C := RX9) (T := TX9) (N := 22) (ty := .int) hx hb hts hin tyX9 tyX9_ok nmX9 hown hK hI hS hv rfl rfl 6 (by decide) hlink (fun _ h9 => h9) rfl (by decide +kernel) rfl rfl (Nat.le_of_ble_eq_true rfl) hdg (by rw [cel_9, up_same]; rfl) kk
theorem gg_9_7 (hx : p.tables.exec = Jvm.exec) (hb : c.code = cc) (hts : ∀ w ∈ Ts, w.before args s = true) (hin : ∀ w ∈ u_ws RX9 TX9 22, w ∈ Ts) (hown : s.vm.findClass own = some m.cls) (hK : KW G s) (hI : Iv V G st H) (hv : V 9 i) (hlink : (Cond.fieldLink own index "BeamLinesModel" "buffer" "[I").before args s = true) (hdg : decode cc pc = .ok (.getfield index, 3)) (kk : W p l e R s m args below meth c H locs cells slots Q (F0 m (pc + 3) ls (.ref (G.2.2.1 30 (4)) :: rest))) : W p l e R s m args below meth c H locs cells slots Q (F0 m pc ls (.ref (G.2.2.1 9 i) :: rest)) :=
  r_get (C := RX9) (T := TX9) (N := 22) hx hb hts hin hown hK hI hv rfl rfl 7 (by decide) hlink (fun _ h9 => h9) rfl hdg kk
theorem gg_9_8 (hx : p.tables.exec = Jvm.exec) (hb : c.code = cc) (hts : ∀ w ∈ Ts, w.before args s = true) (hin : ∀ w ∈ u_ws RX9 TX9 22, w ∈ Ts) (hown : s.vm.findClass own = some m.cls) (hK : KW G s) (hI : Iv V G st H) (hv : V 9 i) (hlink : (Cond.fieldLink own index "BeamLinesModel" "buffered" "I").before args s = true) (hdg : decode cc pc = .ok (.getfield index, 3)) (kk : W p l e R s m args below meth c H locs cells slots Q (F0 m (pc + 3) ls (.int (iI (st 9 8 i 0)) :: rest))) : W p l e R s m args below meth c H locs cells slots Q (F0 m pc ls (.ref (G.2.2.1 9 i) :: rest)) :=
  r_get (C := RX9) (T := TX9) (N := 22) hx hb hts hin hown hK hI hv rfl rfl 8 (by decide) hlink (fun _ h9 => h9) rfl hdg kk
theorem pp_9_8 (hx : p.tables.exec = Jvm.exec) (hb : c.code = cc) (hts : ∀ w ∈ Ts, w.before args s = true) (hin : ∀ w ∈ u_ws RX9 TX9 22, w ∈ Ts) (hown : s.vm.findClass own = some m.cls) (hK : KW G s) (hI : Iv V G st H) (hS : va_S G.2.2.2.1 H0 H locs) (hv : V 9 i) (hlink : (Cond.fieldLink own index "BeamLinesModel" "buffered" "I").before args s = true) (hdg : decode cc pc = .ok (.putfield index, 3)) {x : Int} (kk : ∀ (st1 : St), st1 = up st 9 8 i 0 x → ∀ (H1 : Heap) (locs1 : List Loc), Iv V G st1 H1 → va_S G.2.2.2.1 H0 H1 locs1 → W p l e R s m args below meth c H1 locs1 cells slots Q (F0 m (pc + 3) ls rest)) : W p l e R s m args below meth c H locs cells slots Q (F0 m pc ls (.int (iI x) :: .ref (G.2.2.1 9 i) :: rest)) :=
  r_put (C := RX9) (T := TX9) (N := 22) (ty := .int) hx hb hts hin tyX9 tyX9_ok nmX9 hown hK hI hS hv rfl rfl 8 (by decide) hlink (fun _ h9 => h9) rfl (by decide +kernel) rfl rfl (Nat.le_of_ble_eq_true rfl) hdg (by rw [cel_9, up_same]; rfl) kk
theorem gg_9_9 (hx : p.tables.exec = Jvm.exec) (hb : c.code = cc) (hts : ∀ w ∈ Ts, w.before args s = true) (hin : ∀ w ∈ u_ws RX9 TX9 22, w ∈ Ts) (hown : s.vm.findClass own = some m.cls) (hK : KW G s) (hI : Iv V G st H) (hv : V 9 i) (hlink : (Cond.fieldLink own index "BeamLinesModel" "at" "I").before args s = true) (hdg : decode cc pc = .ok (.getfield index, 3)) (kk : W p l e R s m args below meth c H locs cells slots Q (F0 m (pc + 3) ls (.int (iI (st 9 9 i 0)) :: rest))) : W p l e R s m args below meth c H locs cells slots Q (F0 m pc ls (.ref (G.2.2.1 9 i) :: rest)) :=
  r_get (C := RX9) (T := TX9) (N := 22) hx hb hts hin hown hK hI hv rfl rfl 9 (by decide) hlink (fun _ h9 => h9) rfl hdg kk
theorem pp_9_9 (hx : p.tables.exec = Jvm.exec) (hb : c.code = cc) (hts : ∀ w ∈ Ts, w.before args s = true) (hin : ∀ w ∈ u_ws RX9 TX9 22, w ∈ Ts) (hown : s.vm.findClass own = some m.cls) (hK : KW G s) (hI : Iv V G st H) (hS : va_S G.2.2.2.1 H0 H locs) (hv : V 9 i) (hlink : (Cond.fieldLink own index "BeamLinesModel" "at" "I").before args s = true) (hdg : decode cc pc = .ok (.putfield index, 3)) {x : Int} (kk : ∀ (st1 : St), st1 = up st 9 9 i 0 x → ∀ (H1 : Heap) (locs1 : List Loc), Iv V G st1 H1 → va_S G.2.2.2.1 H0 H1 locs1 → W p l e R s m args below meth c H1 locs1 cells slots Q (F0 m (pc + 3) ls rest)) : W p l e R s m args below meth c H locs cells slots Q (F0 m pc ls (.int (iI x) :: .ref (G.2.2.1 9 i) :: rest)) :=
  r_put (C := RX9) (T := TX9) (N := 22) (ty := .int) hx hb hts hin tyX9 tyX9_ok nmX9 hown hK hI hS hv rfl rfl 9 (by decide) hlink (fun _ h9 => h9) rfl (by decide +kernel) rfl rfl (Nat.le_of_ble_eq_true rfl) hdg (by rw [cel_9, up_same]; rfl) kk
theorem gg_9_10 (hx : p.tables.exec = Jvm.exec) (hb : c.code = cc) (hts : ∀ w ∈ Ts, w.before args s = true) (hin : ∀ w ∈ u_ws RX9 TX9 22, w ∈ Ts) (hown : s.vm.findClass own = some m.cls) (hK : KW G s) (hI : Iv V G st H) (hv : V 9 i) (hlink : (Cond.fieldLink own index "BeamLinesModel" "behind" "I").before args s = true) (hdg : decode cc pc = .ok (.getfield index, 3)) (kk : W p l e R s m args below meth c H locs cells slots Q (F0 m (pc + 3) ls (.int (iI (st 9 10 i 0)) :: rest))) : W p l e R s m args below meth c H locs cells slots Q (F0 m pc ls (.ref (G.2.2.1 9 i) :: rest)) :=
  r_get (C := RX9) (T := TX9) (N := 22) hx hb hts hin hown hK hI hv rfl rfl 10 (by decide) hlink (fun _ h9 => h9) rfl hdg kk
theorem pp_9_10 (hx : p.tables.exec = Jvm.exec) (hb : c.code = cc) (hts : ∀ w ∈ Ts, w.before args s = true) (hin : ∀ w ∈ u_ws RX9 TX9 22, w ∈ Ts) (hown : s.vm.findClass own = some m.cls) (hK : KW G s) (hI : Iv V G st H) (hS : va_S G.2.2.2.1 H0 H locs) (hv : V 9 i) (hlink : (Cond.fieldLink own index "BeamLinesModel" "behind" "I").before args s = true) (hdg : decode cc pc = .ok (.putfield index, 3)) {x : Int} (kk : ∀ (st1 : St), st1 = up st 9 10 i 0 x → ∀ (H1 : Heap) (locs1 : List Loc), Iv V G st1 H1 → va_S G.2.2.2.1 H0 H1 locs1 → W p l e R s m args below meth c H1 locs1 cells slots Q (F0 m (pc + 3) ls rest)) : W p l e R s m args below meth c H locs cells slots Q (F0 m pc ls (.int (iI x) :: .ref (G.2.2.1 9 i) :: rest)) :=
  r_put (C := RX9) (T := TX9) (N := 22) (ty := .int) hx hb hts hin tyX9 tyX9_ok nmX9 hown hK hI hS hv rfl rfl 10 (by decide) hlink (fun _ h9 => h9) rfl (by decide +kernel) rfl rfl (Nat.le_of_ble_eq_true rfl) hdg (by rw [cel_9, up_same]; rfl) kk
theorem gg_9_11 (hx : p.tables.exec = Jvm.exec) (hb : c.code = cc) (hts : ∀ w ∈ Ts, w.before args s = true) (hin : ∀ w ∈ u_ws RX9 TX9 22, w ∈ Ts) (hown : s.vm.findClass own = some m.cls) (hK : KW G s) (hI : Iv V G st H) (hv : V 9 i) (hlink : (Cond.fieldLink own index "BeamLinesModel" "kind" "I").before args s = true) (hdg : decode cc pc = .ok (.getfield index, 3)) (kk : W p l e R s m args below meth c H locs cells slots Q (F0 m (pc + 3) ls (.int (iI (st 9 11 i 0)) :: rest))) : W p l e R s m args below meth c H locs cells slots Q (F0 m pc ls (.ref (G.2.2.1 9 i) :: rest)) :=
  r_get (C := RX9) (T := TX9) (N := 22) hx hb hts hin hown hK hI hv rfl rfl 11 (by decide) hlink (fun _ h9 => h9) rfl hdg kk
theorem pp_9_11 (hx : p.tables.exec = Jvm.exec) (hb : c.code = cc) (hts : ∀ w ∈ Ts, w.before args s = true) (hin : ∀ w ∈ u_ws RX9 TX9 22, w ∈ Ts) (hown : s.vm.findClass own = some m.cls) (hK : KW G s) (hI : Iv V G st H) (hS : va_S G.2.2.2.1 H0 H locs) (hv : V 9 i) (hlink : (Cond.fieldLink own index "BeamLinesModel" "kind" "I").before args s = true) (hdg : decode cc pc = .ok (.putfield index, 3)) {x : Int} (kk : ∀ (st1 : St), st1 = up st 9 11 i 0 x → ∀ (H1 : Heap) (locs1 : List Loc), Iv V G st1 H1 → va_S G.2.2.2.1 H0 H1 locs1 → W p l e R s m args below meth c H1 locs1 cells slots Q (F0 m (pc + 3) ls rest)) : W p l e R s m args below meth c H locs cells slots Q (F0 m pc ls (.int (iI x) :: .ref (G.2.2.1 9 i) :: rest)) :=
  r_put (C := RX9) (T := TX9) (N := 22) (ty := .int) hx hb hts hin tyX9 tyX9_ok nmX9 hown hK hI hS hv rfl rfl 11 (by decide) hlink (fun _ h9 => h9) rfl (by decide +kernel) rfl rfl (Nat.le_of_ble_eq_true rfl) hdg (by rw [cel_9, up_same]; rfl) kk
theorem gg_9_12 (hx : p.tables.exec = Jvm.exec) (hb : c.code = cc) (hts : ∀ w ∈ Ts, w.before args s = true) (hin : ∀ w ∈ u_ws RX9 TX9 22, w ∈ Ts) (hown : s.vm.findClass own = some m.cls) (hK : KW G s) (hI : Iv V G st H) (hv : V 9 i) (hlink : (Cond.fieldLink own index "BeamLinesModel" "number" "I").before args s = true) (hdg : decode cc pc = .ok (.getfield index, 3)) (kk : W p l e R s m args below meth c H locs cells slots Q (F0 m (pc + 3) ls (.int (iI (st 9 12 i 0)) :: rest))) : W p l e R s m args below meth c H locs cells slots Q (F0 m pc ls (.ref (G.2.2.1 9 i) :: rest)) :=
  r_get (C := RX9) (T := TX9) (N := 22) hx hb hts hin hown hK hI hv rfl rfl 12 (by decide) hlink (fun _ h9 => h9) rfl hdg kk
theorem pp_9_12 (hx : p.tables.exec = Jvm.exec) (hb : c.code = cc) (hts : ∀ w ∈ Ts, w.before args s = true) (hin : ∀ w ∈ u_ws RX9 TX9 22, w ∈ Ts) (hown : s.vm.findClass own = some m.cls) (hK : KW G s) (hI : Iv V G st H) (hS : va_S G.2.2.2.1 H0 H locs) (hv : V 9 i) (hlink : (Cond.fieldLink own index "BeamLinesModel" "number" "I").before args s = true) (hdg : decode cc pc = .ok (.putfield index, 3)) {x : Int} (kk : ∀ (st1 : St), st1 = up st 9 12 i 0 x → ∀ (H1 : Heap) (locs1 : List Loc), Iv V G st1 H1 → va_S G.2.2.2.1 H0 H1 locs1 → W p l e R s m args below meth c H1 locs1 cells slots Q (F0 m (pc + 3) ls rest)) : W p l e R s m args below meth c H locs cells slots Q (F0 m pc ls (.int (iI x) :: .ref (G.2.2.1 9 i) :: rest)) :=
  r_put (C := RX9) (T := TX9) (N := 22) (ty := .int) hx hb hts hin tyX9 tyX9_ok nmX9 hown hK hI hS hv rfl rfl 12 (by decide) hlink (fun _ h9 => h9) rfl (by decide +kernel) rfl rfl (Nat.le_of_ble_eq_true rfl) hdg (by rw [cel_9, up_same]; rfl) kk
theorem gg_9_13 (hx : p.tables.exec = Jvm.exec) (hb : c.code = cc) (hts : ∀ w ∈ Ts, w.before args s = true) (hin : ∀ w ∈ u_ws RX9 TX9 22, w ∈ Ts) (hown : s.vm.findClass own = some m.cls) (hK : KW G s) (hI : Iv V G st H) (hv : V 9 i) (hlink : (Cond.fieldLink own index "BeamLinesModel" "wrong" "I").before args s = true) (hdg : decode cc pc = .ok (.getfield index, 3)) (kk : W p l e R s m args below meth c H locs cells slots Q (F0 m (pc + 3) ls (.int (iI (st 9 13 i 0)) :: rest))) : W p l e R s m args below meth c H locs cells slots Q (F0 m pc ls (.ref (G.2.2.1 9 i) :: rest)) :=
  r_get (C := RX9) (T := TX9) (N := 22) hx hb hts hin hown hK hI hv rfl rfl 13 (by decide) hlink (fun _ h9 => h9) rfl hdg kk
theorem pp_9_13 (hx : p.tables.exec = Jvm.exec) (hb : c.code = cc) (hts : ∀ w ∈ Ts, w.before args s = true) (hin : ∀ w ∈ u_ws RX9 TX9 22, w ∈ Ts) (hown : s.vm.findClass own = some m.cls) (hK : KW G s) (hI : Iv V G st H) (hS : va_S G.2.2.2.1 H0 H locs) (hv : V 9 i) (hlink : (Cond.fieldLink own index "BeamLinesModel" "wrong" "I").before args s = true) (hdg : decode cc pc = .ok (.putfield index, 3)) {x : Int} (kk : ∀ (st1 : St), st1 = up st 9 13 i 0 x → ∀ (H1 : Heap) (locs1 : List Loc), Iv V G st1 H1 → va_S G.2.2.2.1 H0 H1 locs1 → W p l e R s m args below meth c H1 locs1 cells slots Q (F0 m (pc + 3) ls rest)) : W p l e R s m args below meth c H locs cells slots Q (F0 m pc ls (.int (iI x) :: .ref (G.2.2.1 9 i) :: rest)) :=
  r_put (C := RX9) (T := TX9) (N := 22) (ty := .int) hx hb hts hin tyX9 tyX9_ok nmX9 hown hK hI hS hv rfl rfl 13 (by decide) hlink (fun _ h9 => h9) rfl (by decide +kernel) rfl rfl (Nat.le_of_ble_eq_true rfl) hdg (by rw [cel_9, up_same]; rfl) kk
theorem gg_9_14 (hx : p.tables.exec = Jvm.exec) (hb : c.code = cc) (hts : ∀ w ∈ Ts, w.before args s = true) (hin : ∀ w ∈ u_ws RX9 TX9 22, w ∈ Ts) (hown : s.vm.findClass own = some m.cls) (hK : KW G s) (hI : Iv V G st H) (hv : V 9 i) (hlink : (Cond.fieldLink own index "BeamLinesModel" "wrongAt" "I").before args s = true) (hdg : decode cc pc = .ok (.getfield index, 3)) (kk : W p l e R s m args below meth c H locs cells slots Q (F0 m (pc + 3) ls (.int (iI (st 9 14 i 0)) :: rest))) : W p l e R s m args below meth c H locs cells slots Q (F0 m pc ls (.ref (G.2.2.1 9 i) :: rest)) :=
  r_get (C := RX9) (T := TX9) (N := 22) hx hb hts hin hown hK hI hv rfl rfl 14 (by decide) hlink (fun _ h9 => h9) rfl hdg kk
theorem pp_9_14 (hx : p.tables.exec = Jvm.exec) (hb : c.code = cc) (hts : ∀ w ∈ Ts, w.before args s = true) (hin : ∀ w ∈ u_ws RX9 TX9 22, w ∈ Ts) (hown : s.vm.findClass own = some m.cls) (hK : KW G s) (hI : Iv V G st H) (hS : va_S G.2.2.2.1 H0 H locs) (hv : V 9 i) (hlink : (Cond.fieldLink own index "BeamLinesModel" "wrongAt" "I").before args s = true) (hdg : decode cc pc = .ok (.putfield index, 3)) {x : Int} (kk : ∀ (st1 : St), st1 = up st 9 14 i 0 x → ∀ (H1 : Heap) (locs1 : List Loc), Iv V G st1 H1 → va_S G.2.2.2.1 H0 H1 locs1 → W p l e R s m args below meth c H1 locs1 cells slots Q (F0 m (pc + 3) ls rest)) : W p l e R s m args below meth c H locs cells slots Q (F0 m pc ls (.int (iI x) :: .ref (G.2.2.1 9 i) :: rest)) :=
  r_put (C := RX9) (T := TX9) (N := 22) (ty := .int) hx hb hts hin tyX9 tyX9_ok nmX9 hown hK hI hS hv rfl rfl 14 (by decide) hlink (fun _ h9 => h9) rfl (by decide +kernel) rfl rfl (Nat.le_of_ble_eq_true rfl) hdg (by rw [cel_9, up_same]; rfl) kk
theorem gg_9_15 (hx : p.tables.exec = Jvm.exec) (hb : c.code = cc) (hts : ∀ w ∈ Ts, w.before args s = true) (hin : ∀ w ∈ u_ws RX9 TX9 22, w ∈ Ts) (hown : s.vm.findClass own = some m.cls) (hK : KW G s) (hI : Iv V G st H) (hv : V 9 i) (hlink : (Cond.fieldLink own index "BeamLinesModel" "errorAt" "I").before args s = true) (hdg : decode cc pc = .ok (.getfield index, 3)) (kk : W p l e R s m args below meth c H locs cells slots Q (F0 m (pc + 3) ls (.int (iI (st 9 15 i 0)) :: rest))) : W p l e R s m args below meth c H locs cells slots Q (F0 m pc ls (.ref (G.2.2.1 9 i) :: rest)) :=
  r_get (C := RX9) (T := TX9) (N := 22) hx hb hts hin hown hK hI hv rfl rfl 15 (by decide) hlink (fun _ h9 => h9) rfl hdg kk
theorem pp_9_15 (hx : p.tables.exec = Jvm.exec) (hb : c.code = cc) (hts : ∀ w ∈ Ts, w.before args s = true) (hin : ∀ w ∈ u_ws RX9 TX9 22, w ∈ Ts) (hown : s.vm.findClass own = some m.cls) (hK : KW G s) (hI : Iv V G st H) (hS : va_S G.2.2.2.1 H0 H locs) (hv : V 9 i) (hlink : (Cond.fieldLink own index "BeamLinesModel" "errorAt" "I").before args s = true) (hdg : decode cc pc = .ok (.putfield index, 3)) {x : Int} (kk : ∀ (st1 : St), st1 = up st 9 15 i 0 x → ∀ (H1 : Heap) (locs1 : List Loc), Iv V G st1 H1 → va_S G.2.2.2.1 H0 H1 locs1 → W p l e R s m args below meth c H1 locs1 cells slots Q (F0 m (pc + 3) ls rest)) : W p l e R s m args below meth c H locs cells slots Q (F0 m pc ls (.int (iI x) :: .ref (G.2.2.1 9 i) :: rest)) :=
  r_put (C := RX9) (T := TX9) (N := 22) (ty := .int) hx hb hts hin tyX9 tyX9_ok nmX9 hown hK hI hS hv rfl rfl 15 (by decide) hlink (fun _ h9 => h9) rfl (by decide +kernel) rfl rfl (Nat.le_of_ble_eq_true rfl) hdg (by rw [cel_9, up_same]; rfl) kk
theorem gg_9_16 (hx : p.tables.exec = Jvm.exec) (hb : c.code = cc) (hts : ∀ w ∈ Ts, w.before args s = true) (hin : ∀ w ∈ u_ws RX9 TX9 22, w ∈ Ts) (hown : s.vm.findClass own = some m.cls) (hK : KW G s) (hI : Iv V G st H) (hv : V 9 i) (hlink : (Cond.fieldLink own index "BeamLinesModel" "square" "[J").before args s = true) (hdg : decode cc pc = .ok (.getfield index, 3)) (kk : W p l e R s m args below meth c H locs cells slots Q (F0 m (pc + 3) ls (.ref (G.2.2.1 36 (0)) :: rest))) : W p l e R s m args below meth c H locs cells slots Q (F0 m pc ls (.ref (G.2.2.1 9 i) :: rest)) :=
  r_get (C := RX9) (T := TX9) (N := 22) hx hb hts hin hown hK hI hv rfl rfl 16 (by decide) hlink (fun _ h9 => h9) rfl hdg kk
theorem gg_9_17 (hx : p.tables.exec = Jvm.exec) (hb : c.code = cc) (hts : ∀ w ∈ Ts, w.before args s = true) (hin : ∀ w ∈ u_ws RX9 TX9 22, w ∈ Ts) (hown : s.vm.findClass own = some m.cls) (hK : KW G s) (hI : Iv V G st H) (hv : V 9 i) (hlink : (Cond.fieldLink own index "BeamLinesModel" "line" "[J").before args s = true) (hdg : decode cc pc = .ok (.getfield index, 3)) (kk : W p l e R s m args below meth c H locs cells slots Q (F0 m (pc + 3) ls (.ref (G.2.2.1 37 (0)) :: rest))) : W p l e R s m args below meth c H locs cells slots Q (F0 m pc ls (.ref (G.2.2.1 9 i) :: rest)) :=
  r_get (C := RX9) (T := TX9) (N := 22) hx hb hts hin hown hK hI hv rfl rfl 17 (by decide) hlink (fun _ h9 => h9) rfl hdg kk
theorem gg_9_18 (hx : p.tables.exec = Jvm.exec) (hb : c.code = cc) (hts : ∀ w ∈ Ts, w.before args s = true) (hin : ∀ w ∈ u_ws RX9 TX9 22, w ∈ Ts) (hown : s.vm.findClass own = some m.cls) (hK : KW G s) (hI : Iv V G st H) (hv : V 9 i) (hlink : (Cond.fieldLink own index "BeamLinesModel" "unit" "J").before args s = true) (hdg : decode cc pc = .ok (.getfield index, 3)) (kk : W p l e R s m args below meth c H locs cells slots Q (F0 m (pc + 3) ls (.long (lI (st 9 18 i 0)) :: rest))) : W p l e R s m args below meth c H locs cells slots Q (F0 m pc ls (.ref (G.2.2.1 9 i) :: rest)) :=
  r_get (C := RX9) (T := TX9) (N := 22) hx hb hts hin hown hK hI hv rfl rfl 18 (by decide) hlink (fun _ h9 => h9) rfl hdg kk
theorem pp_9_18 (hx : p.tables.exec = Jvm.exec) (hb : c.code = cc) (hts : ∀ w ∈ Ts, w.before args s = true) (hin : ∀ w ∈ u_ws RX9 TX9 22, w ∈ Ts) (hown : s.vm.findClass own = some m.cls) (hK : KW G s) (hI : Iv V G st H) (hS : va_S G.2.2.2.1 H0 H locs) (hv : V 9 i) (hlink : (Cond.fieldLink own index "BeamLinesModel" "unit" "J").before args s = true) (hdg : decode cc pc = .ok (.putfield index, 3)) {x : Int} (kk : ∀ (st1 : St), st1 = up st 9 18 i 0 x → ∀ (H1 : Heap) (locs1 : List Loc), Iv V G st1 H1 → va_S G.2.2.2.1 H0 H1 locs1 → W p l e R s m args below meth c H1 locs1 cells slots Q (F0 m (pc + 3) ls rest)) : W p l e R s m args below meth c H locs cells slots Q (F0 m pc ls (.long (lI x) :: .ref (G.2.2.1 9 i) :: rest)) :=
  r_put (C := RX9) (T := TX9) (N := 22) (ty := .long) hx hb hts hin tyX9 tyX9_ok nmX9 hown hK hI hS hv rfl rfl 18 (by decide) hlink (fun _ h9 => h9) rfl (by decide +kernel) rfl rfl (Nat.le_of_ble_eq_true rfl) hdg (by rw [cel_9, up_same]; rfl) kk
theorem gg_9_19 (hx : p.tables.exec = Jvm.exec) (hb : c.code = cc) (hts : ∀ w ∈ Ts, w.before args s = true) (hin : ∀ w ∈ u_ws RX9 TX9 22, w ∈ Ts) (hown : s.vm.findClass own = some m.cls) (hK : KW G s) (hI : Iv V G st H) (hv : V 9 i) (hlink : (Cond.fieldLink own index "BeamLinesModel" "tried" "[I").before args s = true) (hdg : decode cc pc = .ok (.getfield index, 3)) (kk : W p l e R s m args below meth c H locs cells slots Q (F0 m (pc + 3) ls (.ref (G.2.2.1 30 (5)) :: rest))) : W p l e R s m args below meth c H locs cells slots Q (F0 m pc ls (.ref (G.2.2.1 9 i) :: rest)) :=
  r_get (C := RX9) (T := TX9) (N := 22) hx hb hts hin hown hK hI hv rfl rfl 19 (by decide) hlink (fun _ h9 => h9) rfl hdg kk
theorem gg_9_20 (hx : p.tables.exec = Jvm.exec) (hb : c.code = cc) (hts : ∀ w ∈ Ts, w.before args s = true) (hin : ∀ w ∈ u_ws RX9 TX9 22, w ∈ Ts) (hown : s.vm.findClass own = some m.cls) (hK : KW G s) (hI : Iv V G st H) (hv : V 9 i) (hlink : (Cond.fieldLink own index "BeamLinesModel" "written" "[I").before args s = true) (hdg : decode cc pc = .ok (.getfield index, 3)) (kk : W p l e R s m args below meth c H locs cells slots Q (F0 m (pc + 3) ls (.ref (G.2.2.1 30 (6)) :: rest))) : W p l e R s m args below meth c H locs cells slots Q (F0 m pc ls (.ref (G.2.2.1 9 i) :: rest)) :=
  r_get (C := RX9) (T := TX9) (N := 22) hx hb hts hin hown hK hI hv rfl rfl 20 (by decide) hlink (fun _ h9 => h9) rfl hdg kk
theorem gg_9_21 (hx : p.tables.exec = Jvm.exec) (hb : c.code = cc) (hts : ∀ w ∈ Ts, w.before args s = true) (hin : ∀ w ∈ u_ws RX9 TX9 22, w ∈ Ts) (hown : s.vm.findClass own = some m.cls) (hK : KW G s) (hI : Iv V G st H) (hv : V 9 i) (hlink : (Cond.fieldLink own index "BeamLinesModel" "writtenMany" "I").before args s = true) (hdg : decode cc pc = .ok (.getfield index, 3)) (kk : W p l e R s m args below meth c H locs cells slots Q (F0 m (pc + 3) ls (.int (iI (st 9 21 i 0)) :: rest))) : W p l e R s m args below meth c H locs cells slots Q (F0 m pc ls (.ref (G.2.2.1 9 i) :: rest)) :=
  r_get (C := RX9) (T := TX9) (N := 22) hx hb hts hin hown hK hI hv rfl rfl 21 (by decide) hlink (fun _ h9 => h9) rfl hdg kk
theorem pp_9_21 (hx : p.tables.exec = Jvm.exec) (hb : c.code = cc) (hts : ∀ w ∈ Ts, w.before args s = true) (hin : ∀ w ∈ u_ws RX9 TX9 22, w ∈ Ts) (hown : s.vm.findClass own = some m.cls) (hK : KW G s) (hI : Iv V G st H) (hS : va_S G.2.2.2.1 H0 H locs) (hv : V 9 i) (hlink : (Cond.fieldLink own index "BeamLinesModel" "writtenMany" "I").before args s = true) (hdg : decode cc pc = .ok (.putfield index, 3)) {x : Int} (kk : ∀ (st1 : St), st1 = up st 9 21 i 0 x → ∀ (H1 : Heap) (locs1 : List Loc), Iv V G st1 H1 → va_S G.2.2.2.1 H0 H1 locs1 → W p l e R s m args below meth c H1 locs1 cells slots Q (F0 m (pc + 3) ls rest)) : W p l e R s m args below meth c H locs cells slots Q (F0 m pc ls (.int (iI x) :: .ref (G.2.2.1 9 i) :: rest)) :=
  r_put (C := RX9) (T := TX9) (N := 22) (ty := .int) hx hb hts hin tyX9 tyX9_ok nmX9 hown hK hI hS hv rfl rfl 21 (by decide) hlink (fun _ h9 => h9) rfl (by decide +kernel) rfl rfl (Nat.le_of_ble_eq_true rfl) hdg (by rw [cel_9, up_same]; rfl) kk
end FieldRows
