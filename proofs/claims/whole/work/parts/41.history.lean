/-! the history: the class's and the reference's -/
def nA (f : Int → Int) : Int → Int := fun j => if 0 ≤ j ∧ j < 47 then f j else 0
theorem nA_ext {f g : Int → Int} (h : ∀ j, 0 ≤ j → j < 47 → f j = g j) : nA f = nA g := by
  funext j
  unfold nA
  by_cases c : 0 ≤ j ∧ j < 47
  · rw [if_pos c, if_pos c]; exact h j c.1 c.2
  · rw [if_neg c, if_neg c]
/-- the k-th block of 47 of the reference's array d -/
def kA (st : St) (d k : Int) : Int → Int := nA (fun j => st 30 0 d (47 * k + j))
/-- what the history holds after one more -/
def pushB (n : Int) (B : Int → Int → Int) (A : Int → Int) : Int → Int → Int := fun k => if n < 8 then (if k = n then A else B k) else if k = 7 then A else B (k + 1)
def pushN (n : Int) : Int := if n < 8 then n + 1 else 8
def FK (st st' : St) : Prop := ∀ K s i j, ¬ ((K = 30 ∧ i = 2) ∨ (K = 9 ∧ s = 5)) → st' K s i j = st K s i j
theorem cpyN_in {st : St} {d a s b m j : Int} (h0 : 0 ≤ j) (h1 : j < m) : cpyN st d a s b m 30 0 d (a + j) = st 30 0 s (b + j) := by
  unfold cpyN
  rw [if_pos ⟨rfl, rfl, rfl, by omega, by omega⟩, show b + (a + j - a) = b + j by omega]
theorem cpyN_out {st : St} {d a s b m : Int} {K k : Nat} {i j : Int} (h : ¬ (K = 30 ∧ k = 0 ∧ i = d ∧ a ≤ j ∧ j < a + m)) : cpyN st d a s b m K k i j = st K k i j := if_neg h
theorem mlen2 : mlen 2 = 376 := by decide
theorem mlen1 : mlen 1 = 47 := by decide
theorem W9_keeps_j49 {a0 n : Int} {B : Int → Int → Int} {Q : St → Prop} {st st0 : St} (ha : ¬ a0 = 2) (hm : mlen a0 = 47) (hF : FK st0 st) (hn : st 9 5 0 0 = n) (h0 : 0 ≤ n) (h7 : n ≤ 7) (hB : ∀ k, 0 ≤ k → k < n → kA st 2 k = B k)
    (h : ∀ s, FK st0 s → s 9 5 0 0 = n + 1 → (∀ k, 0 ≤ k → k < n + 1 → kA s 2 k = if k = n then nA (fun j => st0 30 0 a0 j) else B k) → Q s) : f9_keeps_j49 a0 Q st := by
  have m2 := mlen2
  unfold f9_keeps_j49
  rw [hn]
  refine W9_copies (fun e => ha e.symm) (by omega) (by omega) (by omega) (by omega) ?_
  rintro _ rfl
  have e5 : cpyN st 2 (47 * n) a0 0 47 9 5 0 0 = n := (cpyN_out (by omega)).trans hn
  rw [e5]
  refine h _ (fun K s i j hK => ?_) (by rw [up_eq, if_pos ⟨rfl, rfl, rfl, rfl⟩]) (fun k k0 k1 => ?_)
  · rw [up_ne (by omega), cpyN_out (by omega)]
    exact hF K s i j hK
  · by_cases c : k = n
    · rw [if_pos c]
      refine nA_ext (fun j j0 j1 => ?_)
      rw [up_ne (by omega), c, cpyN_in j0 j1, Int.zero_add]
      exact hF 30 0 a0 j (by omega)
    · rw [if_neg c, ← hB k k0 (by omega)]
      refine nA_ext (fun j j0 j1 => ?_)
      rw [up_ne (by omega), cpyN_out (by omega)]
theorem W9_keeps {a0 n : Int} {B : Int → Int → Int} {Q : St → Prop} {st : St} (ha : ¬ a0 = 2) (hm : mlen a0 = 47) (hn : st 9 5 0 0 = n) (h0 : 0 ≤ n) (h8 : n ≤ 8) (hB : ∀ k, 0 ≤ k → k < n → kA st 2 k = B k)
    (h : ∀ s, FK st s → s 9 5 0 0 = pushN n → (∀ k, 0 ≤ k → k < pushN n → kA s 2 k = pushB n B (nA (fun j => st 30 0 a0 j)) k) → Q s) : f9_keeps a0 Q st := by
  have m2 := mlen2
  have L : n = 8 → ∀ (m : Nat) (v : Int) (s : St), 0 ≤ v → v ≤ 329 → FK st s → s 9 5 0 0 = 8 → (∀ j, 0 ≤ j → j < 376 → s 30 0 2 j = if j < v then st 30 0 2 (j + 47) else st 30 0 2 j) → 329 - v < m → f9_keeps_l11 a0 Q m s v := by
    intro n8 m
    induction m with
    | zero => intro v s a1 a2 f a3 a4 a5; omega
    | succ m ih =>
      intro v s a1 a2 f a3 a4 a5
      unfold f9_keeps_l11
      refine ⟨inI_s (by omega) (by omega), fun c => ?_, fun c => ⟨by omega, by omega, a1, by omega, ?_⟩⟩
      · rintro _ rfl
        rw [a3]
        refine W9_keeps_j49 (n := 7) (B := fun k => B (k + 1)) (st0 := st) ha hm (fun K s2 i j hK => (up_ne (by omega)).trans (f K s2 i j hK)) (by rw [up_eq, if_pos ⟨rfl, rfl, rfl, rfl⟩]; omega) (by omega) (by omega) (fun k k0 k1 => ?_) (fun s' f' c' k' => h s' f' (by rw [c']; unfold pushN; rw [if_neg (by omega)]; omega) (fun k k0 k1 => ?_))
        · rw [← hB (k + 1) (by omega) (by omega)]
          refine nA_ext (fun j j0 j1 => ?_)
          rw [up_ne (by omega), a4 (47 * k + j) (by omega) (by omega), if_pos (by omega), show 47 * k + j + 47 = 47 * (k + 1) + j by omega]
        · unfold pushN at k1
          rw [if_neg (by omega)] at k1
          rw [k' k k0 (by omega)]
          unfold pushB
          rw [if_neg (show ¬ n < 8 by omega)]
      · rintro _ rfl _ rfl
        refine ih (v + 1) _ (by omega) (by omega) (fun K s2 i j hK => (up_ne (by omega)).trans (f K s2 i j hK)) ((up_ne (by omega)).trans a3) (fun j j0 j1 => ?_) (by omega)
        rw [up_eq]
        by_cases c2 : j = v
        · rw [if_pos ⟨rfl, rfl, rfl, c2⟩, if_pos (by omega), a4 (v + 47) (by omega) (by omega), if_neg (by omega), c2]
        · rw [if_neg (by omega), a4 j j0 j1]
          by_cases c3 : j < v
          · rw [if_pos c3, if_pos (by omega)]
          · rw [if_neg c3, if_neg (by omega)]
  unfold f9_keeps
  rw [hn]
  refine ⟨inI_s (by omega) (by omega), fun c => ⟨1000, L c 1000 0 st (by omega) (by omega) (fun _ _ _ _ _ => rfl) (by omega) (fun j j0 j1 => by rw [if_neg (by omega)]) (by omega)⟩, fun c => ?_⟩
  refine W9_keeps_j49 (B := B) (st0 := st) ha hm (fun _ _ _ _ _ => rfl) hn h0 (by omega) hB (fun s f c' k' => h s f (by rw [c']; unfold pushN; rw [if_pos (by omega)]) (fun k k0 k1 => ?_))
  unfold pushN at k1
  rw [if_pos (by omega)] at k1
  rw [k' k k0 k1]
  unfold pushB
  rw [if_pos (show n < 8 by omega)]
/-- the class's history -/
def HC (st : St) (n : Int) (B : Int → Int → Int) : Prop := (∀ k, 0 ≤ k → k < 8 → 5 ≤ st 16 0 0 k ∧ st 16 0 0 k ≤ 12) ∧ (∀ j k, 0 ≤ j → j < k → k < 8 → ¬ st 16 0 0 j = st 16 0 0 k) ∧ st 2 1 0 0 = n ∧ (0 ≤ n ∧ n ≤ 8) ∧ ∀ k, 0 ≤ k → k < n → BH st (st 16 0 0 k) (B k)
/-- only the history has changed -/
def FH (st st' : St) : Prop := ∀ K s i j, ¬ (K = 16 ∨ K = 2 ∨ (K = 0 ∧ 5 ≤ i ∧ i ≤ 12) ∨ ((K = 6 ∨ K = 10 ∨ K = 11) ∧ 20 ≤ i ∧ i < 52)) → st' K s i j = st K s i j
theorem W2_remember_j13 {n : Int} {A : Int → Int} {B : Int → Int → Int} {Q : St → Prop} {st st0 : St} (hH : HC st n B) (h7 : n ≤ 7) (hB : BH st 0 A) (hF : FH st0 st)
    (h : ∀ s, FH st0 s → HC s (n + 1) (fun k => if k = n then A else B k) → Q s) : f2_remember_j13 0 Q st := by
  obtain ⟨p1, p2, p3, p4, p5⟩ := hH
  unfold f2_remember_j13
  rw [p3]
  have hp := p1 n p4.1 (by omega)
  refine ⟨p4.1, by omega, ?_⟩
  rintro _ rfl
  refine ⟨⟨by omega, by omega⟩, W0_copyFrom (by omega) hB (fun s f b => ?_)⟩
  rintro _ rfl
  have e2 : s 2 1 0 0 = n := (f 2 1 0 0 (by omega)).trans p3
  rw [e2]
  have e16 : ∀ k, up s 2 1 0 0 (n + 1) 16 0 0 k = st 16 0 0 k := fun k => (up_ne (by omega)).trans (f 16 0 0 k (by omega))
  refine h _ (fun K s2 i j hK => ?_) ⟨fun k k0 k1 => by rw [e16]; exact p1 k k0 k1, fun j k j0 jk k1 => by rw [e16, e16]; exact p2 j k j0 jk k1, by rw [up_eq, if_pos ⟨rfl, rfl, rfl, rfl⟩], by omega, fun k k0 k1 => ?_⟩
  · rw [up_ne (by omega), f K s2 i j (by omega)]
    exact hF K s2 i j hK
  · rw [e16]
    by_cases c : k = n
    · rw [c]
      show BH _ _ (if n = n then A else B n)
      rw [if_pos rfl]
      exact b.fr (fun K s2 i j hK => up_ne (by omega))
    · show BH _ _ (if k = n then A else B k)
      rw [if_neg c]
      have hne := p2 k n k0 (by omega) (by omega)
      have hk := p1 k k0 (by omega)
      exact (p5 k k0 (by omega)).fr (fun K s2 i j hK => (up_ne (by omega)).trans (f K s2 i j (by omega)))
theorem W2_remember {n : Int} {A : Int → Int} {B : Int → Int → Int} {Q : St → Prop} {st : St} (hH : HC st n B) (hB : BH st 0 A) (h : ∀ s, FH st s → HC s (pushN n) (pushB n B A) → Q s) : f2_remember 0 Q st := by
  obtain ⟨p1, p2, p3, p4, p5⟩ := hH
  have hq := p1 0 (by omega) (by omega)
  have fin : ∀ s n' B', FH st s → HC s (n' + 1) B' → n' + 1 = pushN n → (∀ k, 0 ≤ k → k < pushN n → B' k = pushB n B A k) → Q s := fun s n' B' f hc e eB => by
    rw [e] at hc
    refine h s f ⟨hc.1, hc.2.1, hc.2.2.1, hc.2.2.2.1, fun k k0 k1 => ?_⟩
    rw [← eB k k0 k1]
    exact hc.2.2.2.2 k k0 k1
  have L : n = 8 → ∀ (m : Nat) (v : Int) (s : St), 1 ≤ v → v ≤ 8 → (∀ K s2 i j, ¬ K = 16 → s K s2 i j = st K s2 i j) → (∀ k, 0 ≤ k → k < 8 → s 16 0 0 k = if k < v - 1 then st 16 0 0 (k + 1) else st 16 0 0 k) → 8 - v < m → f2_forgetOldest_l9 (fun st4 => f2_remember_j13 0 Q st4) (st 16 0 0 0) m s v := by
    intro n8 m
    induction m with
    | zero => intro v s a1 a2 f a4 a5; omega
    | succ m ih =>
      intro v s a1 a2 f a4 a5
      unfold f2_forgetOldest_l9
      refine ⟨inI_s (by omega) (by omega), fun c => ?_, fun c => ⟨by omega, by omega, ?_⟩⟩
      · rintro _ rfl _ rfl
        have e16 : ∀ k, 0 ≤ k → k < 8 → up (up s 16 0 0 7 (st 16 0 0 0)) 2 1 0 0 7 16 0 0 k = if k = 7 then st 16 0 0 0 else st 16 0 0 (k + 1) := fun k k0 k1 => by
          rw [up_ne (by omega), up_eq]
          by_cases d : k = 7
          · rw [if_pos ⟨rfl, rfl, rfl, d⟩, if_pos d]
          · rw [if_neg (by omega), if_neg d, a4 k k0 k1, if_pos (by omega)]
        have eF : ∀ K s2 i j, ¬ (K = 16 ∨ K = 2) → up (up s 16 0 0 7 (st 16 0 0 0)) 2 1 0 0 7 K s2 i j = st K s2 i j := fun K s2 i j hK => by
          rw [up_ne (by omega), up_ne (by omega), f K s2 i j (by omega)]
        refine W2_remember_j13 (n := 7) (B := fun k => B (k + 1)) (st0 := st) ⟨fun k k0 k1 => ?_, fun j k j0 jk k1 => ?_, by rw [up_eq, if_pos ⟨rfl, rfl, rfl, rfl⟩], by omega, fun k k0 k1 => ?_⟩ (by omega) (hB.fr (fun K s2 i j hK => eF K s2 i j (by omega))) (fun K s2 i j hK => eF K s2 i j (by omega)) (fun s' f' hc => fin s' 7 _ f' hc (by unfold pushN; rw [if_neg (by omega)]; omega) (fun k k0 k1 => ?_))
        · rw [e16 k k0 k1]
          split
          · exact hq
          · exact p1 (k + 1) (by omega) (by omega)
        · rw [e16 j j0 (by omega), e16 k (by omega) k1, if_neg (by omega)]
          by_cases d : k = 7
          · rw [if_pos d]
            have := p2 0 (j + 1) (by omega) (by omega) (by omega)
            omega
          · rw [if_neg d]
            exact p2 (j + 1) (k + 1) (by omega) (by omega) (by omega)
        · rw [e16 k k0 (by omega), if_neg (by omega)]
          exact (p5 (k + 1) (by omega) (by omega)).fr (fun K s2 i j hK => eF K s2 i j (by omega))
        · unfold pushB
          rw [if_neg (show ¬ n < 8 by omega)]
      · rintro _ rfl
        have e1 : s 16 0 0 v = st 16 0 0 v := by rw [a4 v (by omega) (by omega), if_neg (by omega)]
        have hv := p1 v (by omega) (by omega)
        rw [e1]
        refine ⟨⟨by omega, by omega⟩, by omega, by omega, ?_⟩
        rintro _ rfl _ rfl
        refine ih (v + 1) _ (by omega) (by omega) (fun K s2 i j hK => (up_ne (by omega)).trans (f K s2 i j hK)) (fun k k0 k1 => ?_) (by omega)
        rw [up_eq]
        by_cases d : k = v - 1
        · rw [if_pos ⟨rfl, rfl, rfl, d⟩, if_pos (by omega), d, show v - 1 + 1 = v by omega]
        · rw [if_neg (by omega), a4 k k0 k1]
          by_cases d2 : k < v - 1
          · rw [if_pos d2, if_pos (by omega)]
          · rw [if_neg d2, if_neg (by omega)]
  unfold f2_remember
  rw [p3]
  refine ⟨inI_s (by omega) (by omega), fun c => ?_, fun c => ?_⟩
  · refine W2_remember_j13 (st0 := st) ⟨p1, p2, p3, p4, p5⟩ (by omega) hB (fun _ _ _ _ _ => rfl) (fun s' f' hc => fin s' n _ f' hc (by unfold pushN; rw [if_pos c]) (fun k k0 k1 => ?_))
    unfold pushB
    rw [if_pos c]
  · unfold f2_forgetOldest
    rintro _ rfl
    refine ⟨⟨by omega, by omega⟩, 100, L (by omega) 100 1 st (by omega) (by omega) (fun _ _ _ _ _ => rfl) (fun k k0 k1 => by rw [if_neg (by omega)]) (by omega)⟩
