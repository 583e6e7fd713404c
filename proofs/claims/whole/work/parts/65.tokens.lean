/-! the tokens of a text T of n bytes -/
def cL (b : Int) : Bool := decide (97 ≤ b ∧ b ≤ 122)
def cD (b : Int) : Bool := decide (48 ≤ b ∧ b ≤ 57)
def cP (b : Int) : Bool := decide (b = 32)
def scn (c : Int → Bool) (T : Int → Int) (n : Int) : Nat → Int → Int
  | 0, p => p
  | m + 1, p => if p < n ∧ c (T p) = true then scn c T n m (p + 1) else p
def sc (c : Int → Bool) (T : Int → Int) (n p : Int) : Int := scn c T n (n - p).toNat p
theorem scq (c : Int → Bool) (T : Int → Int) (n p : Int) : sc c T n p = if p < n ∧ c (T p) = true then sc c T n (p + 1) else p := by
  unfold sc
  by_cases h : p < n
  · rw [show (n - p).toNat = (n - (p + 1)).toNat + 1 by omega]
    rfl
  · rw [show (n - p).toNat = 0 by omega, if_neg (fun q => h q.1)]
    rfl
theorem sc_go {c : Int → Bool} {T : Int → Int} {n p : Int} (h : p < n) (hc : c (T p) = true) : sc c T n p = sc c T n (p + 1) := by rw [scq, if_pos ⟨h, hc⟩]
theorem sc_no {c : Int → Bool} {T : Int → Int} {n p : Int} (h : ¬ (p < n ∧ c (T p) = true)) : sc c T n p = p := by rw [scq, if_neg h]
theorem scn_b (c : Int → Bool) (T : Int → Int) (n : Int) : ∀ (m : Nat) (p : Int), p ≤ scn c T n m p ∧ (p ≤ n → scn c T n m p ≤ n) := by
  intro m
  induction m with
  | zero => intro p; exact ⟨Int.le_refl _, fun h => h⟩
  | succ m ih =>
    intro p
    unfold scn
    by_cases h : p < n ∧ c (T p) = true
    · rw [if_pos h]
      have := ih (p + 1)
      exact ⟨by omega, fun _ => this.2 (by omega)⟩
    · rw [if_neg h]
      exact ⟨Int.le_refl _, fun h => h⟩
theorem sc_b (c : Int → Bool) (T : Int → Int) (n p : Int) : p ≤ sc c T n p ∧ (p ≤ n → sc c T n p ≤ n) := scn_b c T n _ p
def mi7 (x : Int) : Int := imin x 10000000
def vln (T : Int → Int) (n : Int) : Nat → Int → Int → Int
  | 0, _, v => v
  | m + 1, p, v => if p < n ∧ cD (T p) = true then vln T n m (p + 1) (mi7 (v * 10 + T p - 48)) else v
def vl (T : Int → Int) (n p v : Int) : Int := vln T n (n - p).toNat p v
theorem vl_eq (T : Int → Int) (n p v : Int) : vl T n p v = if p < n ∧ cD (T p) = true then vl T n (p + 1) (mi7 (v * 10 + T p - 48)) else v := by
  unfold vl
  by_cases h : p < n
  · rw [show (n - p).toNat = (n - (p + 1)).toNat + 1 by omega]
    rfl
  · rw [show (n - p).toNat = 0 by omega, if_neg (fun q => h q.1)]
    rfl
/-- the kind of a byte -/
def kdX (b : Int) : Int := if 97 ≤ b ∧ b ≤ 122 then 1 else if 48 ≤ b ∧ b ≤ 57 then 2 else if b = 32 then 5 else if b = 59 then 3 else 4
theorem kdX_L {b : Int} : cL b = true ↔ kdX b = 1 := by
  unfold cL kdX
  by_cases h : 97 ≤ b ∧ b ≤ 122
  · rw [if_pos h]; simp [h]
  · rw [if_neg h]
    constructor
    · intro q; exact absurd (of_decide_eq_true q) h
    · intro q; exfalso; repeat' split at q
      all_goals omega
theorem kdX_D {b : Int} : cD b = true ↔ kdX b = 2 := by
  unfold cD kdX
  by_cases h : 97 ≤ b ∧ b ≤ 122
  · rw [if_pos h]
    constructor
    · intro q; have := of_decide_eq_true q; omega
    · intro q; omega
  · rw [if_neg h]
    by_cases h2 : 48 ≤ b ∧ b ≤ 57
    · rw [if_pos h2]; simp [h2]
    · rw [if_neg h2]
      constructor
      · intro q; exact absurd (of_decide_eq_true q) h2
      · intro q; exfalso; repeat' split at q
        all_goals omega
theorem kdX_P {b : Int} : cP b = true ↔ kdX b = 5 := by
  unfold cP kdX
  by_cases h : 97 ≤ b ∧ b ≤ 122
  · rw [if_pos h]
    constructor
    · intro q; have := of_decide_eq_true q; omega
    · intro q; omega
  · rw [if_neg h]
    by_cases h2 : 48 ≤ b ∧ b ≤ 57
    · rw [if_pos h2]
      constructor
      · intro q; have := of_decide_eq_true q; omega
      · intro q; omega
    · rw [if_neg h2]
      by_cases h3 : b = 32
      · rw [if_pos h3]; simp [h3]
      · rw [if_neg h3]
        constructor
        · intro q; exact absurd (of_decide_eq_true q) h3
        · intro q; exfalso; split at q <;> omega
theorem kdX_b (b : Int) : 1 ≤ kdX b ∧ kdX b ≤ 5 := by
  unfold kdX
  repeat' split
  all_goals omega
def ctE (T : Int → Int) (n k p : Int) : Int := if k = 1 then sc cL T n p else if k = 2 then sc cD T n p else p
/-- where the token that begins at s ends -/
def tkE (T : Int → Int) (n s : Int) : Int := if n ≤ s then s else ctE T n (kdX (T s)) (s + 1)
/-- where the t-th token begins -/
def tkS (T : Int → Int) (n : Int) : Nat → Int
  | 0 => sc cP T n 0
  | t + 1 => sc cP T n (tkE T n (tkS T n t))
theorem ctE_b (T : Int → Int) (n k p : Int) : p ≤ ctE T n k p ∧ (p ≤ n → ctE T n k p ≤ n) := by
  unfold ctE
  split
  · exact sc_b _ _ _ _
  · split
    · exact sc_b _ _ _ _
    · exact ⟨Int.le_refl _, fun h => h⟩
theorem tkE_b {T : Int → Int} {n s : Int} (h : s ≤ n) : s ≤ tkE T n s ∧ tkE T n s ≤ n ∧ (s < n → s < tkE T n s) := by
  unfold tkE
  by_cases c : n ≤ s
  · rw [if_pos c]; omega
  · rw [if_neg c]
    have := ctE_b T n (kdX (T s)) (s + 1)
    have h2 := this.2 (by omega)
    omega
theorem tkS_b {T : Int → Int} {n : Int} (hn : 0 ≤ n) : ∀ t : Nat, 0 ≤ tkS T n t ∧ tkS T n t ≤ n
  | 0 => by
    have := sc_b cP T n 0
    exact ⟨this.1, this.2 hn⟩
  | t + 1 => by
    have h := tkS_b (T := T) hn t
    have e := tkE_b (T := T) h.2
    have := sc_b cP T n (tkE T n (tkS T n t))
    unfold tkS
    exact ⟨by omega, this.2 e.2.1⟩
/-- the token i stands in the class's rows -/
def TOK (st : St) (T : Int → Int) (n : Int) (i : Nat) : Prop := tkS T n i < n ∧ st 22 0 0 i = kdX (T (tkS T n i)) ∧ st 23 0 0 i = tkS T n i ∧ st 24 0 0 i = tkE T n (tkS T n i) ∧ (kdX (T (tkS T n i)) = 2 → st 25 0 0 i = vl T n (tkS T n i) 0)
/-- the m tokens of the text -/
def TKS (st : St) (T : Int → Int) (n : Int) (m : Nat) : Prop := st 7 6 0 0 = m ∧ (m : Int) ≤ 500 ∧ tkS T n m = n ∧ ∀ i, i < m → TOK st T n i
/-- bytes of a text -/
def TB (T : Int → Int) (n : Int) : Prop := ∀ j, 0 ≤ j → j < n → 0 ≤ T j ∧ T j ≤ 65535
theorem W7_byteAt {Q : Int → St → Prop} {st : St} {n j : Int} {T : Int → Int} (hT : TXc st n T) (hn : 0 ≤ n) (hn2 : n ≤ 500) (h0 : 0 ≤ j) (h1 : j < n) (h : Q (T j) st) : f7_byteAt Q st j := by
  unfold f7_byteAt
  rw [hT.1]
  have ij : inI j := inI_s (by omega) (by omega)
  refine ⟨ij, fun c => absurd c (by omega), fun _ => ⟨ij, inI_s (by omega) (by omega), fun c => absurd c (by omega), fun _ => ⟨ij, fun c => absurd c (by omega), fun _ => ⟨by omega, by omega, ?_⟩⟩⟩⟩
  rw [hT.2 j h0 h1]
  exact h
theorem W7_kindOfByte {Q : Int → St → Prop} {st : St} {b : Int} (hb : inI b) (h : Q (kdX b) st) : f7_kindOfByte Q st b := by
  unfold kdX at h
  have z : ¬ (97 ≤ b ∧ b ≤ 122) → ¬ (48 ≤ b ∧ b ≤ 57) → f7_kindOfByte_j28 Q b st := fun c1 c2 => by
    rw [if_neg c1, if_neg c2] at h
    unfold f7_kindOfByte_j28
    refine ⟨hb, fun e => ?_, fun e => ⟨hb, fun e2 => ?_, fun e2 => ?_⟩⟩
    · rwa [if_pos e] at h
    · rwa [if_neg e, if_pos e2] at h
    · rwa [if_neg e, if_neg e2] at h
  have y : ¬ (97 ≤ b ∧ b ≤ 122) → f7_kindOfByte_j14 Q b st := fun c1 => by
    unfold f7_kindOfByte_j14
    refine ⟨hb, fun e => z c1 (by omega), fun e => ⟨hb, fun e2 => z c1 (by omega), fun e2 => ?_⟩⟩
    rwa [if_neg c1, if_pos (by omega)] at h
  unfold f7_kindOfByte
  refine ⟨hb, fun e => y (by omega), fun e => ⟨hb, fun e2 => y (by omega), fun e2 => ?_⟩⟩
  rwa [if_pos (by omega)] at h
theorem W7_has {Q : Int → St → Prop} {st : St} {m j : Int} (hm : st 7 6 0 0 = m) (hm0 : 0 ≤ m) (hm2 : m ≤ 500) (h0 : 0 ≤ j) (h1 : j ≤ 1000) (hy : j < m → Q 1 st) (hz : m ≤ j → Q 0 st) : f7_hasToken Q st j := by
  have ij : inI j := inI_s (by omega) (by omega)
  unfold f7_hasToken
  rw [hm]
  by_cases c : j < m
  · exact ⟨ij, fun e => absurd e (by omega), fun _ => ⟨ij, inI_s (by omega) (by omega), fun e => absurd e (by omega), fun _ => ⟨ij, fun e => absurd e (by omega), fun _ => hy c⟩⟩⟩
  · exact ⟨ij, fun e => absurd e (by omega), fun _ => ⟨ij, inI_s (by omega) (by omega), fun _ => hz (by omega), fun e => absurd (by omega) e⟩⟩
