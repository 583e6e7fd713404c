theorem allA_b {A : Int → Int} (hA : VF A) {kind n : Int} (head : Int) (hk : kind = 2 → 0 ≤ n ∧ n ≤ 30) (hk0 : 0 ≤ kind) (hk2 : kind ≤ 2) : -10000000000000000 ≤ allA A kind n head ∧ allA A kind n head ≤ 10000000000000000 := by
  rw [allA_TA]
  have l3 := hA.1.2.1
  refine TA_b hA head (fun x x0 x1 => ?_)
  unfold byA
  split
  · have := infA_b hA.1 n x0 (show x ≤ 30 by omega)
    omega
  · split
    · have := shB_b hA.1 n x0 (show x ≤ 30 by omega)
      omega
    · have h9 := hk (by omega)
      exact mmB_b hA.1 h9.1 h9.2 x0 (by omega)
/-- the head with the least or the greatest -/
def wsN (f : Int → Int) (a2 top : Int) : Nat → Int → Int → Int → Int
  | 0, best, _, _ => best
  | m + 1, best, bv, v => if top < v then best else if (a2 = 0 ∧ f v < bv) ∨ (¬ a2 = 0 ∧ bv < f v) then wsN f a2 top m v (f v) (v + 1) else wsN f a2 top m best bv (v + 1)
def wsA (A : Int → Int) (kind n a2 : Int) : Int := wsN (fun v => allA A kind n v) a2 (lhA A) 100 0 (allA A kind n 0) 1
theorem W9_worst1 {Q : Int → St → Prop} {st : St} {kind n a2 : Int} (hA : VF (aM st)) (hl : LW st) (hk : 0 ≤ kind) (hk2 : kind ≤ 2) (hn : 0 ≤ n) (hn2 : ¬ kind = 0 → n ≤ st 30 0 0 0) (hn3 : kind = 0 → n < st 30 0 0 2) (ha : inI a2) (h : Q (wsA (aM st) kind n a2) st) : f9_all (fun z3 st4 => ∃ k, f9_worst_l19 Q kind n a2 k st4 0 z3 1) st kind n 0 := by
  have hb := lhA_b hA
  have n5 : st 30 0 0 2 ≤ 5 := hA.1.2.2.2.1
  have l3 : st 30 0 0 0 ≤ 30 := hA.1.2.1
  have n30 : n ≤ 30 := by
    by_cases c : kind = 0
    · have := hn3 c; omega
    · have := hn2 c; omega
  have tb := fun head => allA_b hA head (kind := kind) (n := n) (fun _ => ⟨hn, n30⟩) hk hk2
  have L : ∀ (m : Nat) (best bv v : Int), 0 ≤ v → v ≤ lhA (aM st) + 1 → inL bv → Q (wsN (fun v => allA (aM st) kind n v) a2 (lhA (aM st)) m best bv v) st → lhA (aM st) + 1 - v < m → f9_worst_l19 Q kind n a2 m st best bv v := by
    intro m
    induction m with
    | zero => intro best bv v a1 a2' a3 a4 a5; omega
    | succ m ih =>
      intro best bv v a1 a2' a3 a4 a5
      unfold f9_worst_l19
      unfold wsN at a4
      refine W9_lastHead hA ⟨inI_s (by omega) (by omega), inI_s (by omega) (by omega), fun c => ?_, fun c => ?_⟩
      · rwa [if_pos c] at a4
      · rw [if_neg c] at a4
        have hv := tb v
        have hvl : inL (allA (aM st) kind n v) := inL_s (by omega) (by omega)
        refine W9_all hA hl hk hk2 (fun e => ⟨hn, hn3 e⟩) (by omega) (by omega) (by omega) (by omega) ⟨ha, fun e => ⟨hvl, a3, fun c2 => ?_, fun c2 => ?_⟩, fun e => ⟨hvl, a3, fun c2 => ?_, fun c2 => ?_⟩⟩
        · rw [if_pos (Or.inl ⟨e, c2⟩)] at a4
          unfold f9_worst_j64 f9_worst_j72
          rintro _ rfl
          exact ih v _ (v + 1) (by omega) (by omega) hvl a4 (by omega)
        · rw [if_neg (by omega)] at a4
          unfold f9_worst_j72
          rintro _ rfl
          exact ih best bv (v + 1) (by omega) (by omega) a3 a4 (by omega)
        · rw [if_pos (Or.inr ⟨e, c2⟩)] at a4
          unfold f9_worst_j64 f9_worst_j72
          rintro _ rfl
          exact ih v _ (v + 1) (by omega) (by omega) hvl a4 (by omega)
        · rw [if_neg (by omega)] at a4
          unfold f9_worst_j72
          rintro _ rfl
          exact ih best bv (v + 1) (by omega) (by omega) a3 a4 (by omega)
  have h0 := tb 0
  refine W9_all hA hl hk hk2 (fun e => ⟨hn, hn3 e⟩) (by omega) (by omega) (by omega) (by omega) ?_
  exact ⟨100, L 100 0 _ 1 (by omega) (by omega) (inL_s (by omega) (by omega)) h (by omega)⟩
theorem W8_worstHead {A : Int → Int} {Q : Int → St → Prop} {st : St} {kind n a2 : Int} (hA : VF A) (hB : BF st 0 A) (hL : LR st 0 A) (hk : 0 ≤ kind) (hk2 : kind ≤ 2) (hn : 0 ≤ n) (hn2 : ¬ kind = 0 → n ≤ A 0) (hn3 : kind = 0 → n < A 2) (ha : inI a2) (h : ∀ s, F1 0 st s → Q (wsA A kind n a2) s) : f8_worstHead Q st kind n a2 := by
  have hb := lhA_b hA
  have hC := hA.1
  have n5 := hC.2.2.2.1
  have l3 := hC.2.1
  have n30 : n ≤ 30 := by
    by_cases c : kind = 0
    · have := hn3 c; omega
    · have := hn2 c; omega
  have tb := fun head => allA_b hA head (kind := kind) (n := n) (fun _ => ⟨hn, n30⟩) hk hk2
  -- a round
  have R : ∀ (m : Nat) (best bv v : Int) (s : St), inL bv → 0 ≤ v → v ≤ lhA A → F1 0 st s →
      (v = 0 ∨ ((a2 = 0 ∧ allA A kind n v < bv) ∨ (¬ a2 = 0 ∧ bv < allA A kind n v)) → ∀ s', F1 0 st s' → f8_worstHead_l18 Q kind n a2 (lhA A) m s' v (allA A kind n v) (v + 1)) →
      (¬ (v = 0 ∨ ((a2 = 0 ∧ allA A kind n v < bv) ∨ (¬ a2 = 0 ∧ bv < allA A kind n v))) → ∀ s', F1 0 st s' → f8_worstHead_l18 Q kind n a2 (lhA A) m s' best bv (v + 1)) → f8_worstHead_l18 Q kind n a2 (lhA A) (m + 1) s best bv v := by
    intro m best bv v s hbv v0 v1 f k1 k0
    unfold f8_worstHead_l18
    refine ⟨inI_s (by omega) (by omega), inI_s (by omega) (by omega), fun c => absurd c (by omega), fun c => ?_⟩
    refine W1_underAll hA (hB.f1 f) (hL.f1 f) (by omega) (by omega) (fun s' f' r' => ?_)
    refine W1_ofKind r' hC hk hk2 hn hn2 hn3 ?_
    show inI a2 ∧ ((a2 = 0 → inL (allA A kind n v) ∧ inL bv ∧ ((bv ≤ allA A kind n v → _) ∧ (¬ bv ≤ allA A kind n v → _))) ∧ (¬ a2 = 0 → inL (allA A kind n v) ∧ inL bv ∧ ((allA A kind n v ≤ bv → _) ∧ (¬ allA A kind n v ≤ bv → _))))
    have hv := tb v
    have hvl : inL (allA A kind n v) := inL_s (by omega) (by omega)
    have hvI : inI v := inI_s (by omega) (by omega)
    have ff := f.trans f'
    have J0 : ¬ ((a2 = 0 ∧ allA A kind n v < bv) ∨ (¬ a2 = 0 ∧ bv < allA A kind n v)) → f8_worstHead_j86 (fun st v4x18 v5x18 v8x18 => f8_worstHead_l18 Q kind n a2 (lhA A) m st v4x18 v5x18 v8x18) Q kind n a2 (lhA A) s' best bv v (allA A kind n v) 0 := fun q => by
      unfold f8_worstHead_j86
      refine ⟨hvI, fun e => ?_, fun e => ⟨inI_0, fun _ => ?_, fun z => absurd rfl z⟩⟩
      · unfold f8_worstHead_j98 f8_worstHead_j106
        rintro _ rfl
        exact k1 (Or.inl e) s' ff
      · unfold f8_worstHead_j106
        rintro _ rfl
        exact k0 (fun z => z.elim e q) s' ff
    have J1 : ((a2 = 0 ∧ allA A kind n v < bv) ∨ (¬ a2 = 0 ∧ bv < allA A kind n v)) → f8_worstHead_j86 (fun st v4x18 v5x18 v8x18 => f8_worstHead_l18 Q kind n a2 (lhA A) m st v4x18 v5x18 v8x18) Q kind n a2 (lhA A) s' best bv v (allA A kind n v) 1 := fun q => by
      unfold f8_worstHead_j86
      refine ⟨hvI, fun e => ?_, fun e => ⟨inI_1, fun z => absurd z (by omega), fun _ => ?_⟩⟩
      · unfold f8_worstHead_j98 f8_worstHead_j106
        rintro _ rfl
        exact k1 (Or.inl e) s' ff
      · unfold f8_worstHead_j98 f8_worstHead_j106
        rintro _ rfl
        exact k1 (Or.inr q) s' ff
    exact ⟨ha, fun e => ⟨hvl, hbv, fun c2 => J0 (by omega), fun c2 => J1 (Or.inl ⟨e, by omega⟩)⟩, fun e => ⟨hvl, hbv, fun c2 => J0 (by omega), fun c2 => J1 (Or.inr ⟨e, by omega⟩)⟩⟩
  have L : ∀ (m : Nat) (best bv v : Int) (s : St), 1 ≤ v → v ≤ lhA A + 1 → inL bv → F1 0 st s → (∀ s', F1 0 st s' → Q (wsN (fun v => allA A kind n v) a2 (lhA A) m best bv v) s') → lhA A + 1 - v < m → f8_worstHead_l18 Q kind n a2 (lhA A) m s best bv v := by
    intro m
    induction m with
    | zero => intro best bv v s a1 a2' a3 f a4 a5; omega
    | succ m ih =>
      intro best bv v s a1 a2' a3 f a4 a5
      by_cases c : lhA A < v
      · unfold f8_worstHead_l18
        unfold wsN at a4
        rw [if_pos c] at a4
        exact ⟨inI_s (by omega) (by omega), inI_s (by omega) (by omega), fun _ => a4 s f, fun z => absurd c z⟩
      · have hv := tb v
        unfold wsN at a4
        rw [if_neg c] at a4
        refine R m best bv v s a3 (by omega) (by omega) f (fun q s' f' => ?_) (fun q s' f' => ?_)
        · rw [if_pos (q.resolve_left (by omega))] at a4
          exact ih v _ (v + 1) s' (by omega) (by omega) (inL_s (by omega) (by omega)) f' a4 (by omega)
        · rw [if_neg (fun z => q (Or.inr z))] at a4
          exact ih best bv (v + 1) s' (by omega) (by omega) a3 f' a4 (by omega)
  have h0 := tb 0
  unfold f8_worstHead
  refine W0_lastHead hA hB ⟨101, R 100 0 0 0 st inL_0 (by omega) (by omega) F1.rf (fun _ s' f' => L 100 0 _ 1 s' (by omega) (by omega) (inL_s (by omega) (by omega)) f' h (by omega)) (fun q => absurd (Or.inl rfl) q)⟩
