/-! Row: what its methods do -/
def RW (st : St) (r : Int) : Prop := 0 ≤ st 6 2 r 0 ∧ st 6 2 r 0 ≤ rcap r
theorem rcap_b (r : Int) : 3 ≤ rcap r ∧ rcap r ≤ 8 := by unfold rcap; repeat' split <;> omega
theorem W6_has {o : Int} {Q : Int → St → Prop} {st : St} {n : Int} (hR : RW st o) (hn : inI n) (h1 : 0 ≤ n → n < st 6 2 o 0 → Q 1 st) (h0 : ¬ (0 ≤ n ∧ n < st 6 2 o 0) → Q 0 st) : f6_has o Q st n := by
  have hc := rcap_b o
  have ha := hR.1
  have hb := hR.2
  have hs : inI (st 6 2 o 0) := inI_s (by omega) (by omega)
  have hr : inI (rcap o) := inI_s (by omega) (by omega)
  unfold f6_has
  exact ⟨hn, fun c => h0 (by omega), fun c => ⟨hn, hs, fun c => h0 (by omega), fun c => ⟨hn, hr, fun c => absurd c (by omega), fun c => ⟨hn, hr, fun c => absurd c (by omega), fun c => h1 (by omega) (by omega)⟩⟩⟩⟩
theorem inI_0' : inI 0 := inI_s (by omega) (by omega)
theorem inI_1 : inI 1 := inI_s (by omega) (by omega)
theorem W6_first {o : Int} {Q : Int → St → Prop} {st : St} {n : Int} (hR : RW st o) (hn : inI n) (h1 : 0 ≤ n → n < st 6 2 o 0 → Q (st 10 0 o n) st) (h0 : ¬ (0 ≤ n ∧ n < st 6 2 o 0) → Q 0 st) : f6_first o Q st n := by
  unfold f6_first
  refine W6_has hR hn (fun a b => ⟨inI_1, fun c => absurd c (by omega), fun _ => ⟨a, by have := hR.2; omega, h1 a b⟩⟩) (fun a => ⟨inI_0', fun _ => h0 a, fun c => absurd rfl c⟩)
theorem W6_second {o : Int} {Q : Int → St → Prop} {st : St} {n : Int} (hR : RW st o) (hn : inI n) (h1 : 0 ≤ n → n < st 6 2 o 0 → Q (st 11 0 o n) st) (h0 : ¬ (0 ≤ n ∧ n < st 6 2 o 0) → Q 0 st) : f6_second o Q st n := by
  unfold f6_second
  refine W6_has hR hn (fun a b => ⟨inI_1, fun c => absurd c (by omega), fun _ => ⟨a, by have := hR.2; omega, h1 a b⟩⟩) (fun a => ⟨inI_0', fun _ => h0 a, fun c => absurd rfl c⟩)
theorem W6_isFull {o : Int} {Q : Int → St → Prop} {st : St} (hR : RW st o) (h1 : st 6 2 o 0 = rcap o → Q 1 st) (h0 : st 6 2 o 0 < rcap o → Q 0 st) : f6_isFull o Q st := by
  have hc := rcap_b o
  have ha := hR.1
  have hb := hR.2
  have hs : inI (st 6 2 o 0) := inI_s (by omega) (by omega)
  have hr : inI (rcap o) := inI_s (by omega) (by omega)
  unfold f6_isFull
  exact ⟨hs, hr, fun c => h1 (by omega), fun c => ⟨hs, hr, fun c => h0 c, fun c => absurd c (by omega)⟩⟩
theorem W6_setSecond {o : Int} {Q : St → Prop} {st : St} {n v : Int} (hR : RW st o) (h0 : 0 ≤ n) (h1 : n < st 6 2 o 0) (h : Q (up st 11 0 o n v)) : f6_setSecond o Q st n v := by
  have hc := rcap_b o
  have hb := hR.2
  unfold f6_setSecond
  refine W6_has hR (inI_s (by omega) (by omega)) (fun a b => ⟨inI_1, fun c => absurd c (by omega), fun _ => ⟨a, by omega, ?_⟩⟩) (fun a => absurd ⟨h0, h1⟩ a)
  rintro _ rfl
  exact h
theorem W6_holdsFirst {o : Int} {Q : Int → St → Prop} {st : St} {a : Int} (hR : RW st o) (hv : ∀ k, 0 ≤ k → k < st 6 2 o 0 → inI (st 10 0 o k)) (ha : inI a) (h1 : ∀ k, 0 ≤ k → k < st 6 2 o 0 → st 10 0 o k = a → Q 1 st) (h0 : (∀ k, 0 ≤ k → k < st 6 2 o 0 → ¬ st 10 0 o k = a) → Q 0 st) : f6_holdsFirst o Q st a := by
  have hc := rcap_b o
  have hs0 := hR.1
  have hb := hR.2
  have hs : inI (st 6 2 o 0) := inI_s (by omega) (by omega)
  have hr : inI (rcap o) := inI_s (by omega) (by omega)
  have L : ∀ (n : Nat) (v : Int), 0 ≤ v → v ≤ st 6 2 o 0 → (∀ k, 0 ≤ k → k < v → ¬ st 10 0 o k = a) → st 6 2 o 0 - v < n → f6_holdsFirst_l2 o Q a n st v := by
    intro n
    induction n with
    | zero => intro v a1 a2 a3 a4; omega
    | succ n ih =>
      intro v a1 a2 a3 a4
      have hvv : inI v := inI_s (by omega) (by omega)
      unfold f6_holdsFirst_l2
      refine ⟨hvv, hs, fun c => h0 (fun k k0 k1 => a3 k k0 (by omega)), fun c => ⟨hvv, hr, fun c => absurd c (by omega), fun c => ⟨a1, by omega, hv v a1 (by omega), ha, fun e => h1 v a1 (by omega) e, fun e => ?_⟩⟩⟩
      rintro _ rfl
      refine ih (v + 1) (by omega) (by omega) (fun k k0 k1 => ?_) (by omega)
      by_cases hk : k = v
      · subst hk; exact e
      · exact a3 k k0 (by omega)
  unfold f6_holdsFirst
  exact ⟨100, L 100 0 (by omega) (by omega) (fun k a b => absurd a (by omega)) (by omega)⟩
theorem W6_holdsSecond {o : Int} {Q : Int → St → Prop} {st : St} {a : Int} (hR : RW st o) (hv : ∀ k, 0 ≤ k → k < st 6 2 o 0 → inI (st 11 0 o k)) (ha : inI a) (h1 : ∀ k, 0 ≤ k → k < st 6 2 o 0 → st 11 0 o k = a → Q 1 st) (h0 : (∀ k, 0 ≤ k → k < st 6 2 o 0 → ¬ st 11 0 o k = a) → Q 0 st) : f6_holdsSecond o Q st a := by
  have hc := rcap_b o
  have hs0 := hR.1
  have hb := hR.2
  have hs : inI (st 6 2 o 0) := inI_s (by omega) (by omega)
  have hr : inI (rcap o) := inI_s (by omega) (by omega)
  have L : ∀ (n : Nat) (v : Int), 0 ≤ v → v ≤ st 6 2 o 0 → (∀ k, 0 ≤ k → k < v → ¬ st 11 0 o k = a) → st 6 2 o 0 - v < n → f6_holdsSecond_l2 o Q a n st v := by
    intro n
    induction n with
    | zero => intro v a1 a2 a3 a4; omega
    | succ n ih =>
      intro v a1 a2 a3 a4
      have hvv : inI v := inI_s (by omega) (by omega)
      unfold f6_holdsSecond_l2
      refine ⟨hvv, hs, fun c => h0 (fun k k0 k1 => a3 k k0 (by omega)), fun c => ⟨hvv, hr, fun c => absurd c (by omega), fun c => ⟨a1, by omega, hv v a1 (by omega), ha, fun e => h1 v a1 (by omega) e, fun e => ?_⟩⟩⟩
      rintro _ rfl
      refine ih (v + 1) (by omega) (by omega) (fun k k0 k1 => ?_) (by omega)
      by_cases hk : k = v
      · subst hk; exact e
      · exact a3 k k0 (by omega)
  unfold f6_holdsSecond
  exact ⟨100, L 100 0 (by omega) (by omega) (fun k a b => absurd a (by omega)) (by omega)⟩
/-- how many of the first m values are at most a -/
def cuN (f : Int → Int) (a : Int) : Nat → Int
  | 0 => 0
  | n + 1 => cuN f a n + if f n ≤ a then 1 else 0
def suN (f : Int → Int) : Nat → Int
  | 0 => 0
  | n + 1 => suN f n + f n
def mxN (f : Int → Int) : Nat → Int
  | 0 => 0
  | n + 1 => imax (mxN f n) (f n)
theorem cuN_b (f : Int → Int) (a : Int) : ∀ n : Nat, 0 ≤ cuN f a n ∧ cuN f a n ≤ n
  | 0 => ⟨by simp [cuN], by simp [cuN]⟩
  | n + 1 => by
    have := cuN_b f a n
    unfold cuN
    split <;> omega
theorem W6_countUpTo {o : Int} {Q : Int → St → Prop} {st : St} {a : Int} (hR : RW st o) (hv : ∀ k, 0 ≤ k → k < st 6 2 o 0 → inI (st 10 0 o k)) (ha : inI a) (h : Q (cuN (st 10 0 o) a (st 6 2 o 0).toNat) st) : f6_countUpTo o Q st a := by
  have hc := rcap_b o
  have hs0 := hR.1
  have hb := hR.2
  have hs : inI (st 6 2 o 0) := inI_s (by omega) (by omega)
  have hr : inI (rcap o) := inI_s (by omega) (by omega)
  have L : ∀ (n m : Nat), (m : Int) ≤ st 6 2 o 0 → st 6 2 o 0 - m < n → f6_countUpTo_l4 o Q a n st (cuN (st 10 0 o) a m) m := by
    intro n
    induction n with
    | zero => intro m a1 a2; omega
    | succ n ih =>
      intro m a1 a2
      have hvv : inI (m : Int) := inI_s (by omega) (by omega)
      unfold f6_countUpTo_l4
      refine ⟨hvv, hs, fun c => ?_, fun c => ⟨hvv, hr, fun c => absurd c (by omega), fun c => ⟨by omega, by omega, hv _ (by omega) (by omega), ha, fun e => ?_, fun e => ?_⟩⟩⟩
      · have : m = (st 6 2 o 0).toNat := by omega
        rw [this]; exact h
      · unfold f6_countUpTo_j34
        rintro _ rfl
        have := ih (m + 1) (by omega) (by omega)
        rw [show cuN (st 10 0 o) a (m + 1) = cuN (st 10 0 o) a m by rw [cuN, if_neg (by omega)]; omega] at this
        exact this
      · rintro _ rfl
        unfold f6_countUpTo_j34
        rintro _ rfl
        have := ih (m + 1) (by omega) (by omega)
        rw [show cuN (st 10 0 o) a (m + 1) = cuN (st 10 0 o) a m + 1 by rw [cuN, if_pos (by omega)]] at this
        exact this
  unfold f6_countUpTo
  exact ⟨100, L 100 0 (by omega) (by omega)⟩
theorem W6_sumOfFirsts {o : Int} {Q : Int → St → Prop} {st : St} (hR : RW st o) (h : Q (suN (st 10 0 o) (st 6 2 o 0).toNat) st) : f6_sumOfFirsts o Q st := by
  have hc := rcap_b o
  have hs0 := hR.1
  have hb := hR.2
  have hs : inI (st 6 2 o 0) := inI_s (by omega) (by omega)
  have L : ∀ (n m : Nat), (m : Int) ≤ st 6 2 o 0 → st 6 2 o 0 - m < n → f6_sumOfFirsts_l4 o Q n st (suN (st 10 0 o) m) m := by
    intro n
    induction n with
    | zero => intro m a1 a2; omega
    | succ n ih =>
      intro m a1 a2
      have hvv : inI (m : Int) := inI_s (by omega) (by omega)
      unfold f6_sumOfFirsts_l4
      refine ⟨hvv, hs, fun c => ?_, fun c => W6_first hR hvv (fun b0 b1 => ?_) (fun b => absurd ⟨by omega, by omega⟩ b)⟩
      · have : m = (st 6 2 o 0).toNat := by omega
        rw [this]; exact h
      · rintro _ rfl _ rfl
        exact ih (m + 1) (by omega) (by omega)
  unfold f6_sumOfFirsts
  exact ⟨100, L 100 0 (by omega) (by omega)⟩
theorem W6_greatestSecond {o : Int} {Q : Int → St → Prop} {st : St} (hR : RW st o) (hv : ∀ k, 0 ≤ k → k < st 6 2 o 0 → inI (st 11 0 o k)) (h : Q (mxN (st 11 0 o) (st 6 2 o 0).toNat) st) : f6_greatestSecond o Q st := by
  have hc := rcap_b o
  have hs0 := hR.1
  have hb := hR.2
  have hs : inI (st 6 2 o 0) := inI_s (by omega) (by omega)
  have M : ∀ m : Nat, (m : Int) ≤ st 6 2 o 0 → inI (mxN (st 11 0 o) m) := by
    intro m
    induction m with
    | zero => intro _; exact inI_0'
    | succ m ih =>
      intro hm
      unfold mxN imax
      split
      · exact hv _ (by omega) (by omega)
      · exact ih (by omega)
  have L : ∀ (n m : Nat), (m : Int) ≤ st 6 2 o 0 → st 6 2 o 0 - m < n → f6_greatestSecond_l4 o Q n st (mxN (st 11 0 o) m) m := by
    intro n
    induction n with
    | zero => intro m a1 a2; omega
    | succ n ih =>
      intro m a1 a2
      have hvv : inI (m : Int) := inI_s (by omega) (by omega)
      unfold f6_greatestSecond_l4
      refine ⟨hvv, hs, fun c => ?_, fun c => W6_second hR hvv (fun b0 b1 => ⟨M m a1, hv _ b0 b1, ?_⟩) (fun b => absurd ⟨by omega, by omega⟩ b)⟩
      · have : m = (st 6 2 o 0).toNat := by omega
        rw [this]; exact h
      · rintro _ rfl _ rfl
        exact ih (m + 1) (by omega) (by omega)
  unfold f6_greatestSecond
  exact ⟨100, L 100 0 (by omega) (by omega)⟩
/-- places above lo moved up by one, up to sz -/
def shR (st : St) (o lo sz : Int) : St := fun K k i j => if (K = 10 ∨ K = 11) ∧ k = 0 ∧ i = o ∧ lo < j ∧ j ≤ sz then st K k i (j - 1) else st K k i j
theorem shR_0 (st : St) (o sz : Int) : shR st o sz sz = st := by
  funext K k i j
  unfold shR
  rw [if_neg (by omega)]
theorem shR_S {st : St} {o v sz : Int} (h : v ≤ sz) : up (up (shR st o v sz) 10 0 o v (shR st o v sz 10 0 o (v - 1))) 11 0 o v (up (shR st o v sz) 10 0 o v (shR st o v sz 10 0 o (v - 1)) 11 0 o (v - 1)) = shR st o (v - 1) sz := by
  funext K k i j
  have e1 : shR st o v sz 10 0 o (v - 1) = st 10 0 o (v - 1) := by unfold shR; rw [if_neg (by omega)]
  have e2 : shR st o v sz 11 0 o (v - 1) = st 11 0 o (v - 1) := by unfold shR; rw [if_neg (by omega)]
  rw [up_ne (K' := 11) (by omega), e1, e2, up_eq, up_eq]
  by_cases h1 : K = 11 ∧ k = 0 ∧ i = o ∧ j = v
  · obtain ⟨rfl, rfl, rfl, rfl⟩ := h1
    rw [if_pos ⟨rfl, rfl, rfl, rfl⟩]
    unfold shR
    rw [if_pos ⟨Or.inr rfl, rfl, rfl, by omega, by omega⟩]
  · rw [if_neg h1]
    by_cases h2 : K = 10 ∧ k = 0 ∧ i = o ∧ j = v
    · obtain ⟨rfl, rfl, rfl, rfl⟩ := h2
      rw [if_pos ⟨rfl, rfl, rfl, rfl⟩]
      unfold shR
      rw [if_pos ⟨Or.inl rfl, rfl, rfl, by omega, by omega⟩]
    · rw [if_neg h2]
      unfold shR
      by_cases h3 : (K = 10 ∨ K = 11) ∧ k = 0 ∧ i = o ∧ v < j ∧ j ≤ sz
      · rw [if_pos h3, if_pos ⟨h3.1, h3.2.1, h3.2.2.1, by omega, h3.2.2.2.2⟩]
      · rw [if_neg h3, if_neg (by omega)]
/-- the state with a pair put in at n -/
def insS (st : St) (o n f s : Int) : St := up (up (up (shR st o n (st 6 2 o 0)) 10 0 o n f) 11 0 o n s) 6 2 o 0 (st 6 2 o 0 + 1)
theorem shR_keep {st : St} {o lo sz : Int} {K k : Nat} {i j : Int} (h : ¬ ((K = 10 ∨ K = 11) ∧ k = 0 ∧ i = o ∧ lo < j ∧ j ≤ sz)) : shR st o lo sz K k i j = st K k i j := if_neg h
theorem W6_putAt {o : Int} {Q : Int → St → Prop} {st : St} {n f s : Int} (hR : RW st o) (h0 : 0 ≤ n) (h1 : n ≤ st 6 2 o 0) (h2 : st 6 2 o 0 < rcap o) (h : Q n (insS st o n f s)) : f6_putAt o Q st n f s := by
  have hc := rcap_b o
  have hs0 := hR.1
  have hs : inI (st 6 2 o 0) := inI_s (by omega) (by omega)
  have hn : inI n := inI_s (by omega) (by omega)
  have L : ∀ (m : Nat) (v : Int), n ≤ v → v ≤ st 6 2 o 0 → v - n < m → f6_putAt_l27 o Q n f s m (shR st o v (st 6 2 o 0)) v := by
    intro m
    induction m with
    | zero => intro v a1 a2 a3; omega
    | succ m ih =>
      intro v a1 a2 a3
      unfold f6_putAt_l27
      refine ⟨inI_s (by omega) (by omega), hn, fun c => ⟨h0, by omega, ?_⟩, fun c => ⟨by omega, by omega, by omega, by omega, ?_⟩⟩
      · have hv : v = n := by omega
        subst hv
        rintro _ rfl
        refine ⟨h0, by omega, ?_⟩
        rintro _ rfl _ rfl
        rw [up_ne (K' := 6) (by omega), up_ne (K' := 6) (by omega), shR_keep (by omega)]
        exact h
      · rintro _ rfl
        refine ⟨by omega, by omega, by omega, by omega, ?_⟩
        rintro _ rfl _ rfl
        rw [shR_S a2]
        exact ih (v + -1) (by omega) (by omega) (by omega)
  unfold f6_putAt
  refine W6_isFull hR (fun c => absurd c (by omega)) (fun _ => ⟨inI_0', fun _ => ⟨hn, fun c => absurd c (by omega), fun _ => ⟨hn, hs, fun _ => ?_, fun c => absurd h1 c⟩⟩, fun c => absurd rfl c⟩)
  rintro _ rfl
  refine ⟨100, ?_⟩
  have := L 100 (st 6 2 o 0) h1 (by omega) (by omega)
  rwa [shR_0] at this
theorem W6_putLast {o : Int} {Q : Int → St → Prop} {st : St} {f s : Int} (hR : RW st o) (h2 : st 6 2 o 0 < rcap o) (h : Q (st 6 2 o 0) (insS st o (st 6 2 o 0) f s)) : f6_putLast o Q st f s := by
  unfold f6_putLast
  exact W6_putAt hR hR.1 (by omega) h2 h
theorem W6_putInOrder {o : Int} {Q : Int → St → Prop} {st : St} {f s : Int} (hR : RW st o) (hv : ∀ k, 0 ≤ k → k < st 6 2 o 0 → inI (st 10 0 o k)) (ha : inI f) (h2 : st 6 2 o 0 < rcap o) (h : Q (cuN (st 10 0 o) f (st 6 2 o 0).toNat) (insS st o (cuN (st 10 0 o) f (st 6 2 o 0).toNat) f s)) : f6_putInOrder o Q st f s := by
  unfold f6_putInOrder
  have hb := cuN_b (st 10 0 o) f (st 6 2 o 0).toNat
  have := hR.1
  exact W6_countUpTo hR hv ha (W6_putAt hR (by omega) (by omega) h2 h)
/-- places from n on, below v, moved down by one -/
def shL (st : St) (o n v : Int) : St := fun K k i j => if (K = 10 ∨ K = 11) ∧ k = 0 ∧ i = o ∧ n ≤ j ∧ j < v then st K k i (j + 1) else st K k i j
theorem shL_0 (st : St) (o n : Int) : shL st o n n = st := by
  funext K k i j
  unfold shL
  rw [if_neg (by omega)]
theorem shL_S {st : St} {o n v : Int} (h : n ≤ v) : up (up (shL st o n v) 10 0 o v (shL st o n v 10 0 o (v + 1))) 11 0 o v (up (shL st o n v) 10 0 o v (shL st o n v 10 0 o (v + 1)) 11 0 o (v + 1)) = shL st o n (v + 1) := by
  funext K k i j
  have e1 : shL st o n v 10 0 o (v + 1) = st 10 0 o (v + 1) := by unfold shL; rw [if_neg (by omega)]
  have e2 : shL st o n v 11 0 o (v + 1) = st 11 0 o (v + 1) := by unfold shL; rw [if_neg (by omega)]
  rw [up_ne (K' := 11) (by omega), e1, e2, up_eq, up_eq]
  by_cases h1 : K = 11 ∧ k = 0 ∧ i = o ∧ j = v
  · obtain ⟨rfl, rfl, rfl, rfl⟩ := h1
    rw [if_pos ⟨rfl, rfl, rfl, rfl⟩]
    unfold shL
    rw [if_pos ⟨Or.inr rfl, rfl, rfl, by omega, by omega⟩]
  · rw [if_neg h1]
    by_cases h2 : K = 10 ∧ k = 0 ∧ i = o ∧ j = v
    · obtain ⟨rfl, rfl, rfl, rfl⟩ := h2
      rw [if_pos ⟨rfl, rfl, rfl, rfl⟩]
      unfold shL
      rw [if_pos ⟨Or.inl rfl, rfl, rfl, by omega, by omega⟩]
    · rw [if_neg h2]
      unfold shL
      by_cases h3 : (K = 10 ∨ K = 11) ∧ k = 0 ∧ i = o ∧ n ≤ j ∧ j < v
      · rw [if_pos h3, if_pos ⟨h3.1, h3.2.1, h3.2.2.1, h3.2.2.2.1, by omega⟩]
      · rw [if_neg h3, if_neg (by omega)]
def remS (st : St) (o n : Int) : St := shL (up st 6 2 o 0 (st 6 2 o 0 - 1)) o n (st 6 2 o 0 - 1)
theorem W6_remove {o : Int} {Q : St → Prop} {st : St} {n : Int} (hR : RW st o) (h0 : 0 ≤ n) (h1 : n < st 6 2 o 0) (h : Q (remS st o n)) : f6_remove o Q st n := by
  have hc := rcap_b o
  have hs0 := hR.1
  have hs1 := hR.2
  have L : ∀ (m : Nat) (v : Int), n ≤ v → v ≤ st 6 2 o 0 - 1 → st 6 2 o 0 - v < m → f6_remove_l21 o Q m (shL (up st 6 2 o 0 (st 6 2 o 0 - 1)) o n v) v := by
    intro m
    induction m with
    | zero => intro v a1 a2 a3; omega
    | succ m ih =>
      intro v a1 a2 a3
      have e6 : shL (up st 6 2 o 0 (st 6 2 o 0 - 1)) o n v 6 2 o 0 = st 6 2 o 0 - 1 := by
        unfold shL
        rw [if_neg (by omega)]
        exact up_same _ _ _ _ _ _
      unfold f6_remove_l21
      rw [e6]
      refine ⟨inI_s (by omega) (by omega), inI_s (by omega) (by omega), fun c => ?_, fun c => ⟨by omega, by omega, by omega, by omega, ?_⟩⟩
      · have hv : v = st 6 2 o 0 - 1 := by omega
        subst hv
        exact h
      · rintro _ rfl
        refine ⟨by omega, by omega, by omega, by omega, ?_⟩
        rintro _ rfl _ rfl
        rw [shL_S a1]
        exact ih (v + 1) (by omega) (by omega) (by omega)
  unfold f6_remove
  refine W6_has hR (inI_s (by omega) (by omega)) (fun _ _ => ⟨inI_1, fun c => absurd c (by omega), fun _ => ?_⟩) (fun a => absurd ⟨h0, h1⟩ a)
  rintro _ rfl
  refine ⟨100, ?_⟩
  have := L 100 n (by omega) (by omega) (by omega)
  rwa [shL_0] at this
/-- the first v pairs of the row a in the row o -/
def cpR (st st5 : St) (o a v : Int) : St := fun K k i j => if (K = 10 ∨ K = 11) ∧ k = 0 ∧ i = o ∧ 0 ≤ j ∧ j < v then st K k a j else st5 K k i j
def cpyR (st : St) (o a : Int) : St := cpR st (up st 6 2 o 0 (st 6 2 a 0)) o a (st 6 2 a 0)
theorem cpR_S {st st5 : St} {o a v : Int} (hv : 0 ≤ v) : up (up (cpR st st5 o a v) 10 0 o v (st 10 0 a v)) 11 0 o v (st 11 0 a v) = cpR st st5 o a (v + 1) := by
  funext K k i j
  rw [up_eq, up_eq]
  by_cases h1 : K = 11 ∧ k = 0 ∧ i = o ∧ j = v
  · obtain ⟨rfl, rfl, rfl, rfl⟩ := h1
    rw [if_pos ⟨rfl, rfl, rfl, rfl⟩]
    unfold cpR
    rw [if_pos ⟨Or.inr rfl, rfl, rfl, by omega, by omega⟩]
  · rw [if_neg h1]
    by_cases h2 : K = 10 ∧ k = 0 ∧ i = o ∧ j = v
    · obtain ⟨rfl, rfl, rfl, rfl⟩ := h2
      rw [if_pos ⟨rfl, rfl, rfl, rfl⟩]
      unfold cpR
      rw [if_pos ⟨Or.inl rfl, rfl, rfl, by omega, by omega⟩]
    · rw [if_neg h2]
      unfold cpR
      by_cases h3 : (K = 10 ∨ K = 11) ∧ k = 0 ∧ i = o ∧ 0 ≤ j ∧ j < v
      · rw [if_pos h3, if_pos ⟨h3.1, h3.2.1, h3.2.2.1, h3.2.2.2.1, by omega⟩]
      · rw [if_neg h3, if_neg (by omega)]
theorem W6_copyFrom {o a : Int} {Q : St → Prop} {st : St} (hR : RW st a) (hne : a ≠ o) (hcap : rcap a = rcap o) (h : Q (cpyR st o a)) : f6_copyFrom o a Q st := by
  have hc := rcap_b o
  have hs0 := hR.1
  have hs1 := hR.2
  have hsa : inI (st 6 2 a 0) := inI_s (by omega) (by omega)
  have hro : inI (rcap o) := inI_s (by omega) (by omega)
  have em : imin (rcap o) (rcap o) = rcap o := by unfold imin; split <;> rfl
  have em2 : imin (st 6 2 a 0) (rcap o) = st 6 2 a 0 := by unfold imin; split <;> omega
  have L : ∀ (m : Nat) (v : Int), 0 ≤ v → v ≤ st 6 2 a 0 → st 6 2 a 0 - v < m → f6_copyFrom_l26 o a Q m (cpR st (up st 6 2 o 0 (st 6 2 a 0)) o a v) v := by
    intro m
    induction m with
    | zero => intro v a1 a2 a3; omega
    | succ m ih =>
      intro v a1 a2 a3
      have e6 : cpR st (up st 6 2 o 0 (st 6 2 a 0)) o a v 6 2 o 0 = st 6 2 a 0 := by
        unfold cpR
        rw [if_neg (by omega)]
        exact up_same _ _ _ _ _ _
      have ea : cpR st (up st 6 2 o 0 (st 6 2 a 0)) o a v 6 2 a 0 = st 6 2 a 0 := by
        unfold cpR
        rw [if_neg (by omega)]
        exact up_ne (by omega)
      have hv1 : inI v := inI_s (by omega) (by omega)
      have f10 : cpR st (up st 6 2 o 0 (st 6 2 a 0)) o a v 10 0 a v = st 10 0 a v := by
        unfold cpR
        rw [if_neg (by omega)]
        exact up_ne (by omega)
      have f11 : cpR st (up st 6 2 o 0 (st 6 2 a 0)) o a v 11 0 a v = st 11 0 a v := by
        unfold cpR
        rw [if_neg (by omega)]
        exact up_ne (by omega)
      unfold f6_copyFrom_l26
      rw [e6]
      refine ⟨hv1, hsa, fun c => ?_, fun c => ?_⟩
      · have hv : v = st 6 2 a 0 := by omega
        subst hv
        exact h
      · refine W6_first (by unfold RW; rw [ea]; exact hR) hv1 (fun _ b1 => ⟨a1, by omega, ?_⟩) (fun b => absurd ⟨a1, by rw [ea]; omega⟩ b)
        rintro _ rfl
        refine W6_second (by unfold RW; rw [up_ne (by omega), ea]; exact hR) hv1 (fun _ b1 => ⟨a1, by omega, ?_⟩) (fun b => absurd ⟨a1, by rw [up_ne (by omega), ea]; omega⟩ b)
        rintro _ rfl _ rfl
        rw [up_ne (K' := 11) (by omega), f10, f11, cpR_S a1]
        exact ih (v + 1) (by omega) (by omega) (by omega)
  unfold f6_copyFrom
  rw [em, em2]
  refine ⟨hro, hro, hsa, hro, ?_⟩
  rintro _ rfl
  refine ⟨100, ?_⟩
  have := L 100 0 (by omega) (by omega) (by omega)
  rwa [show cpR st (up st 6 2 o 0 (st 6 2 a 0)) o a 0 = up st 6 2 o 0 (st 6 2 a 0) by funext K k i j; unfold cpR; rw [if_neg (by omega)]] at this
