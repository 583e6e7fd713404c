/-! lifting: the sets agree; the worst heads agree -/
set_option maxRecDepth 100000 in
theorem ior_nat : ∀ a b : Fin 32, ior (a.val : Int) (b.val : Int) = ((a.val ||| b.val : Nat) : Int) := by decide
theorem ior_nat2 {a b : Nat} (ha : a < 32) (hb : b < 32) : ior (a : Int) (b : Int) = ((a ||| b : Nat) : Int) := ior_nat ⟨a, ha⟩ ⟨b, hb⟩
theorem ishl_nat : ∀ k : Fin 5, ishl 1 (k.val : Int) = ((2 ^ k.val : Nat) : Int) := by decide
theorem ishl_nat2 {k : Nat} (hk : k < 5) : ishl 1 (k : Int) = ((2 ^ k : Nat) : Int) := ishl_nat ⟨k, hk⟩
theorem pow_32 {k : Nat} (hk : k < 5) : 2 ^ k < 32 := by
  obtain rfl | rfl | rfl | rfl | rfl : k = 0 ∨ k = 1 ∨ k = 2 ∨ k = 3 ∨ k = 4 := by omega
  all_goals decide
theorem or_32 {a b : Nat} (ha : a < 32) (hb : b < 32) : a ||| b < 32 := Nat.or_lt_two_pow (n := 5) ha hb
/-- z is the set of the s that P names -/
def isSet (P : Nat → Prop) (z : Int) : Prop := ∃ n : Nat, z = n ∧ n < 32 ∧ ∀ s : Nat, n.testBit s = true ↔ P s
theorem isSet.u {P P' : Nat → Prop} {z z' : Int} (h : isSet P z) (h' : isSet P' z') (e : ∀ s, P s ↔ P' s) : z = z' := by
  obtain ⟨n, rfl, _, h3⟩ := h
  obtain ⟨n', rfl, _, h3'⟩ := h'
  have : n = n' := Nat.eq_of_testBit_eq (fun i => by
    by_cases c : P i
    · rw [(h3 i).mpr c, (h3' i).mpr ((e i).mp c)]
    · have c1 : ¬ n.testBit i = true := fun q => c ((h3 i).mp q)
      have c2 : ¬ n'.testBit i = true := fun q => c ((e i).mpr ((h3' i).mp q))
      cases h1 : n.testBit i <;> cases h2 : n'.testBit i <;> simp_all)
  rw [this]
theorem isSet.or {P P' P'' : Nat → Prop} {z z' : Int} (h : isSet P z) (h' : isSet P' z') (e : ∀ s, P'' s ↔ P s ∨ P' s) : isSet P'' (ior z z') := by
  obtain ⟨n, rfl, h2, h3⟩ := h
  obtain ⟨n', rfl, h2', h3'⟩ := h'
  refine ⟨n ||| n', ior_nat2 h2 h2', or_32 h2 h2', fun s => ?_⟩
  rw [Nat.testBit_or, Bool.or_eq_true, h3, h3', e]
theorem isSet.z {P : Nat → Prop} (h : ∀ s, ¬ P s) : isSet P 0 := ⟨0, rfl, by omega, fun s => by rw [Nat.zero_testBit]; exact ⟨fun q => absurd q (by simp), fun q => absurd q (h s)⟩⟩
theorem isSet.one {P : Nat → Prop} {k : Int} (h0 : 0 ≤ k) (h5 : k < 5) (h : ∀ s : Nat, P s ↔ (s : Int) = k) : isSet P (ishl 1 k) := by
  obtain ⟨m, rfl⟩ := Int.eq_ofNat_of_zero_le h0
  refine ⟨2 ^ m, ishl_nat2 (by omega), pow_32 (by omega), fun s => ?_⟩
  rw [Nat.testBit_two_pow, h s, decide_eq_true_iff]
  omega
theorem isSet.e {P P' : Nat → Prop} {z : Int} (h : isSet P z) (e : ∀ s, P s ↔ P' s) : isSet P' z := by
  obtain ⟨n, h1, h2, h3⟩ := h
  exact ⟨n, h1, h2, fun s => (h3 s).trans (e s)⟩
theorem isSet.b {P : Nat → Prop} {z : Int} (h : isSet P z) : 0 ≤ z ∧ z < 32 := by
  obtain ⟨n, rfl, h2, _⟩ := h
  omega
theorem lsN_set {R : Int → Int} : ∀ m : Nat, m ≤ 5 → isSet (fun s => s < m ∧ R s < 0) (lsN R m) := by
  intro m
  induction m with
  | zero => intro _; exact isSet.z (fun s q => by omega)
  | succ m ih =>
    intro h
    have h1 := ih (by omega)
    unfold lsN
    by_cases c : 0 ≤ R m
    · rw [if_pos c]
      refine h1.e (fun s => ⟨fun q => ⟨by omega, q.2⟩, fun q => ⟨?_, q.2⟩⟩)
      by_cases e : s = m
      · rw [e] at q
        have := q.2
        omega
      · omega
    · rw [if_neg c]
      refine h1.or (isSet.one (P := fun s => (s : Int) = m) (by omega) (by omega) (fun s => Iff.rfl)) (fun s => ⟨fun q => ?_, fun q => ?_⟩)
      · by_cases e : s = m
        · exact Or.inr (by omega)
        · exact Or.inl ⟨by omega, q.2⟩
      · rcases q with q | q
        · exact ⟨by omega, q.2⟩
        · have : s = m := by omega
          rw [this]
          exact ⟨by omega, by omega⟩
/-- the supports that lift under a head up to top -/
def liP (A : Int → Int) (top : Int) (s : Nat) : Prop := (s : Int) < A 2 ∧ ∃ head, 0 ≤ head ∧ head ≤ top ∧ TA A head (infA A s) < 0
theorem W8_lifting {A : Int → Int} {Q : Int → St → Prop} {st : St} (hA : VF A) (hB : BF st 0 A) (hL : LR st 0 A) (h : ∀ s z, F1 0 st s → isSet (liP A (lhA A)) z → Q z s) : f8_lifting Q st := by
  have hb := lhA_b hA
  have hC := hA.1
  have n5 := hC.2.2.2.1
  have L : ∀ (m : Nat) (v z : Int) (s : St), 0 ≤ v → v ≤ lhA A + 1 → F1 0 st s → isSet (liP A (v - 1)) z → lhA A + 1 - v < m → f8_lifting_l12 Q (lhA A) m s z v := by
    intro m
    induction m with
    | zero => intro v z s a1 a2 f a3 a4; omega
    | succ m ih =>
      intro v z s a1 a2 f a3 a4
      unfold f8_lifting_l12
      refine ⟨inI_s (by omega) (by omega), inI_s (by omega) (by omega), fun c => ?_, fun c => ?_⟩
      · have : v - 1 = lhA A := by omega
        rw [this] at a3
        exact h s z f a3
      · refine W1_underAll hA (hB.f1 f) (hL.f1 f) (by omega) (by omega) (fun s' f' r' => ?_)
        refine W1_liftedSet (R := rcA A (TA A v)) r'.1 (fun i _ _ => ?_) ?_
        · have := TAi_b hA v i
          unfold rcA
          split
          · exact inL_s (by omega) (by omega)
          · exact inL_0
        · rintro _ rfl _ rfl
          refine ih (v + 1) _ s' (by omega) (by omega) (f.trans f') (a3.or (lsN_set (R := rcA A (TA A v)) 5 (by omega)) (fun k => ⟨fun q => ?_, fun q => ?_⟩)) (by omega)
          · obtain ⟨q1, hd, h0, h1, h2⟩ := q
            by_cases e : hd = v
            · refine Or.inr ⟨by omega, ?_⟩
              unfold rcA
              rw [if_pos q1, ← e]
              exact h2
            · exact Or.inl ⟨q1, hd, h0, by omega, h2⟩
          · rcases q with q | q
            · obtain ⟨q1, hd, h0, h1, h2⟩ := q
              exact ⟨q1, hd, h0, by omega, h2⟩
            · have q2 := q.2
              unfold rcA at q2
              by_cases c3 : (k : Int) < A 2
              · rw [if_pos c3] at q2
                exact ⟨c3, v, a1, by omega, q2⟩
              · rw [if_neg c3] at q2
                omega
  unfold f8_lifting
  refine W0_lastHead hA hB ⟨100, L 100 0 0 st (by omega) (by omega) F1.rf (isSet.z (fun s q => ?_)) (by omega)⟩
  obtain ⟨q1, hd, h0, h1, h2⟩ := q
  omega
theorem W9_lifting1 {Q : Int → St → Prop} {st : St} (hA : VF (aM st)) (hl : LW st) (h : ∀ z, isSet (liP (aM st) (lhA (aM st))) z → Q z st) : ∃ k, f9_lifting_l13 Q k st 0 0 := by
  have hb := lhA_b hA
  have hC := hA.1
  have n2 : 2 ≤ st 30 0 0 2 := hC.2.2.1
  have n5 : st 30 0 0 2 ≤ 5 := hC.2.2.2.1
  have eR : ∀ i head, allA (aM st) 0 i head = TA (aM st) head (infA (aM st) i) := fun i head => by
    rw [allA_TA]
    have : byA (aM st) 0 i = infA (aM st) i := by funext x; unfold byA; rw [if_pos rfl]
    rw [this]
  have In : ∀ (B13 : St → Int → Int → Prop) (s : Int), 0 ≤ s → s < st 30 0 0 2 → (∀ z, isSet (fun k => (k : Int) < s + 1 ∧ liP (aM st) (lhA (aM st)) k) z → B13 st z (s + 1)) → ∀ (m : Nat) (v z : Int), 0 ≤ v → v ≤ lhA (aM st) + 1 → isSet (fun k => ((k : Int) < s ∧ liP (aM st) (lhA (aM st)) k) ∨ ((k : Int) = s ∧ liP (aM st) (v - 1) k)) z → lhA (aM st) + 1 - v < m → f9_lifting_l25 B13 Q s m st z v := by
    intro B13 s s0 s1 hk m
    induction m with
    | zero => intro v z a1 a2 a3 a4; omega
    | succ m ih =>
      intro v z a1 a2 a3 a4
      unfold f9_lifting_l25
      refine W9_lastHead hA ⟨inI_s (by omega) (by omega), inI_s (by omega) (by omega), fun c => ?_, fun c => ?_⟩
      · rintro _ rfl
        refine hk z (a3.e (fun k => ⟨fun q => ?_, fun q => ?_⟩))
        · rcases q with q | q
          · exact ⟨by omega, q.2⟩
          · have : v - 1 = lhA (aM st) := by omega
            rw [this] at q
            exact ⟨by omega, q.2⟩
        · have : v - 1 = lhA (aM st) := by omega
          rw [this]
          by_cases e : (k : Int) = s
          · exact Or.inr ⟨e, q.2⟩
          · exact Or.inl ⟨by omega, q.2⟩
      · refine W9_all hA hl (by omega) (by omega) (fun _ => ⟨s0, s1⟩) (by omega) (by omega) (by omega) (by omega) ?_
        rw [eR]
        have ht := TAi_b hA v s
        refine ⟨inL_s (by omega) (by omega), fun c2 => ?_, fun c2 => ?_⟩
        · unfold f9_lifting_j53
          rintro _ rfl _ rfl
          refine ih (v + 1) _ (by omega) (by omega) (a3.or (P' := fun _ => False) (isSet.z (fun _ q => q)) (fun k => ⟨fun q => Or.inl ?_, fun q => ?_⟩)) (by omega)
          · rcases q with q | q
            · exact Or.inl q
            · obtain ⟨q0, q1, hd, h0, h1, h2⟩ := q
              refine Or.inr ⟨q0, q1, hd, h0, ?_, h2⟩
              by_cases e : hd = v
              · rw [e, q0] at h2
                omega
              · omega
          · rcases q with (q | q) | q
            · exact Or.inl q
            · obtain ⟨q0, q1, hd, h0, h1, h2⟩ := q
              exact Or.inr ⟨q0, q1, hd, h0, by omega, h2⟩
            · exact absurd q id
        · unfold f9_lifting_j53
          rintro _ rfl _ rfl
          refine ih (v + 1) _ (by omega) (by omega) (a3.or (isSet.one (P := fun k => (k : Int) = s) s0 (by omega) (fun k => Iff.rfl)) (fun k => ⟨fun q => ?_, fun q => ?_⟩)) (by omega)
          · rcases q with q | q
            · exact Or.inl (Or.inl q)
            · exact Or.inr q.1
          · rcases q with (q | q) | q
            · exact Or.inl q
            · obtain ⟨q0, q1, hd, h0, h1, h2⟩ := q
              exact Or.inr ⟨q0, q1, hd, h0, by omega, h2⟩
            · refine Or.inr ⟨q, by rw [q]; exact s1, v, a1, by omega, ?_⟩
              rw [q]
              omega
  have Out : ∀ (m : Nat) (s z : Int), 0 ≤ s → s ≤ st 30 0 0 2 → isSet (fun k => (k : Int) < s ∧ liP (aM st) (lhA (aM st)) k) z → st 30 0 0 2 - s < m → f9_lifting_l13 Q m st z s := by
    intro m
    induction m with
    | zero => intro s z a1 a2 a3 a4; omega
    | succ m ih =>
      intro s z a1 a2 a3 a4
      unfold f9_lifting_l13
      refine ⟨inI_s (by omega) (by omega), inI_s (by omega) (by omega), fun c => h z (a3.e (fun k => ⟨fun q => q.2, fun q => ⟨?_, q⟩⟩)), fun c => ?_⟩
      · have : (k : Int) < st 30 0 0 2 := q.1
        omega
      · refine ⟨100, In _ s a1 (by omega) (fun z' hz => ih (s + 1) z' (by omega) (by omega) hz (by omega)) 100 0 z (by omega) (by omega) (a3.e (fun k => ⟨fun q => Or.inl q, fun q => ?_⟩)) (by omega)⟩
        rcases q with q | q
        · exact q
        · obtain ⟨q0, q1, hd, h0, h1, h2⟩ := q
          omega
  exact ⟨100, Out 100 0 0 (by omega) (by omega) (isSet.z (fun k q => by omega)) (by omega)⟩
