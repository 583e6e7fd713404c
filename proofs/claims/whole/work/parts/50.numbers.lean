/-! the numbers asked: support, weight, axle, count, unit -/
theorem W8_support {A : Int → Int} {n : Int} {B : Int → Int → Int} {F : Int → Int} {S : Int → Int → Int} {Q : Int → St → Prop} {X : String → St → Prop} {st : St} {a0 a1 : Int} (h : CS st A n B F S) (h0 : inI a0) (h1 : inI a1) (hx : ¬ (0 ≤ a0 ∧ a0 < A 2) → X "java/lang/IndexOutOfBoundsException" st) (hy : 0 ≤ a0 ∧ a0 < A 2 → ¬ (0 ≤ a1 ∧ a1 ≤ 1) → X "java/lang/IllegalArgumentException" st)
    (hq : 0 ≤ a0 ∧ a0 < A 2 → 0 ≤ a1 ∧ a1 ≤ 1 → Q (A (6 + 2 * a0 + a1)) st) : f8_support Q X st a0 a1 := by
  have b := h.2.1.2.2.1
  unfold f8_support f8_pairNumber
  refine W8_needNumber b.1 b.2.1 h0 (fun c d => ?_) hx
  refine W8_needRange h1 inI_0 inI_1 (fun e f => ⟨h1, fun z => ?_, fun z => ?_⟩) (hy ⟨c, d⟩)
  · refine W6_first b.1 h0 (fun _ _ => ?_) (fun q => absurd ⟨c, by rw [b.2.1]; exact d⟩ q)
    rw [(b.2.2 a0 c d).1]
    have := hq ⟨c, d⟩ ⟨e, f⟩
    rw [z, Int.add_zero] at this
    exact this
  · refine W6_second b.1 h0 (fun _ _ => ?_) (fun q => absurd ⟨c, by rw [b.2.1]; exact d⟩ q)
    rw [(b.2.2 a0 c d).2]
    have := hq ⟨c, d⟩ ⟨e, f⟩
    rw [show a1 = 1 by omega] at this
    exact this
theorem W9_support {A : Int → Int} {n : Int} {B : Int → Int → Int} {F : Int → Int} {S : Int → Int → Int} {Q : Int → St → Prop} {st : St} {a0 a1 : Int} (h : MS st A n B F S) (h0 : inI a0) (h1 : inI a1) (hx : ¬ (0 ≤ a0 ∧ a0 < A 2) → ∀ s, FQ st s → s 9 6 0 0 = 1 → Q 0 s) (hy : 0 ≤ a0 ∧ a0 < A 2 → ¬ (0 ≤ a1 ∧ a1 ≤ 1) → ∀ s, FQ st s → s 9 6 0 0 = 2 → Q 0 s)
    (hq : 0 ≤ a0 ∧ a0 < A 2 → 0 ≤ a1 ∧ a1 ≤ 1 → ∀ s, FQ st s → s 9 6 0 0 = 0 → Q (A (6 + 2 * a0 + a1)) s) : f9_support Q st a0 a1 := by
  have h3 := h.2.2.1
  have hi := h.2.1.c.2.2.2.1
  have m0 := mlen0
  have ec : st 30 0 0 2 = A 2 := congrFun h.1 2
  have bad : ∀ c : Int, 0 < c → c ≤ 3 → (∀ s, FQ st s → s 9 6 0 0 = c → Q 0 s) → f9_support_j27 Q a0 a1 st c := fun c c0 c3 k => by
    unfold f9_support_j27
    exact gate (by omega) c3 (fun e => absurd e (by omega)) (fun _ => k _ (FQ.up6 h3) (by rw [up_eq, if_pos ⟨rfl, rfl, rfl, rfl⟩]))
  unfold f9_support
  refine W9_isSupport h.mr.1.1.1 h0 ?_
  rw [ec]
  by_cases c : 0 ≤ a0 ∧ a0 < A 2
  · rw [if_pos c]
    refine ⟨inI_1, fun e => absurd e (by omega), fun _ => W9_isIn h1 inI_0 inI_1 ?_⟩
    by_cases d : 0 ≤ a1 ∧ a1 ≤ 1
    · rw [if_pos d]
      refine ⟨inI_1, fun e => absurd e (by omega), fun _ => ?_⟩
      unfold f9_support_j27
      refine gate (by omega) (by omega) (fun _ => ⟨by omega, by omega, ?_⟩) (fun e => absurd e (by omega))
      have e1 : up st 9 6 0 0 0 30 0 0 (6 + 2 * a0 + a1) = A (6 + 2 * a0 + a1) := (up_ne (by omega)).trans (congrFun h.1 _)
      rw [e1]
      exact hq (by omega) d _ (FQ.up6 h3) (by rw [up_eq, if_pos ⟨rfl, rfl, rfl, rfl⟩])
    · rw [if_neg d]
      exact ⟨inI_0, fun _ => bad 2 (by omega) (by omega) (hy (by omega) d), fun e => absurd rfl e⟩
  · rw [if_neg c]
    exact ⟨inI_0, fun _ => bad 1 (by omega) (by omega) (hx (by omega)), fun e => absurd rfl e⟩
theorem W8_weight {A : Int → Int} {n : Int} {B : Int → Int → Int} {F : Int → Int} {S : Int → Int → Int} {Q : Int → St → Prop} {X : String → St → Prop} {st : St} {a0 a1 : Int} (h : CS st A n B F S) (h0 : inI a0) (h1 : inI a1) (hx : ¬ (0 ≤ a0 ∧ a0 < A 4) → X "java/lang/IndexOutOfBoundsException" st) (hy : 0 ≤ a0 ∧ a0 < A 4 → ¬ (0 ≤ a1 ∧ a1 ≤ 1) → X "java/lang/IllegalArgumentException" st)
    (hq : 0 ≤ a0 ∧ a0 < A 4 → 0 ≤ a1 ∧ a1 ≤ 1 → Q (A (19 + 2 * a0 + a1)) st) : f8_weight Q X st a0 a1 := by
  have b := h.2.1.2.2.2.2.1
  unfold f8_weight f8_pairNumber
  refine W8_needNumber b.1 b.2.1 h0 (fun c d => ?_) hx
  refine W8_needRange h1 inI_0 inI_1 (fun e f => ⟨h1, fun z => ?_, fun z => ?_⟩) (hy ⟨c, d⟩)
  · refine W6_first b.1 h0 (fun _ _ => ?_) (fun q => absurd ⟨c, by rw [b.2.1]; exact d⟩ q)
    rw [(b.2.2 a0 c d).1]
    have := hq ⟨c, d⟩ ⟨e, f⟩
    rw [z, Int.add_zero] at this
    exact this
  · refine W6_second b.1 h0 (fun _ _ => ?_) (fun q => absurd ⟨c, by rw [b.2.1]; exact d⟩ q)
    rw [(b.2.2 a0 c d).2]
    have := hq ⟨c, d⟩ ⟨e, f⟩
    rw [show a1 = 1 by omega] at this
    exact this
theorem W9_weight {A : Int → Int} {n : Int} {B : Int → Int → Int} {F : Int → Int} {S : Int → Int → Int} {Q : Int → St → Prop} {st : St} {a0 a1 : Int} (h : MS st A n B F S) (h0 : inI a0) (h1 : inI a1) (hx : ¬ (0 ≤ a0 ∧ a0 < A 4) → ∀ s, FQ st s → s 9 6 0 0 = 1 → Q 0 s) (hy : 0 ≤ a0 ∧ a0 < A 4 → ¬ (0 ≤ a1 ∧ a1 ≤ 1) → ∀ s, FQ st s → s 9 6 0 0 = 2 → Q 0 s)
    (hq : 0 ≤ a0 ∧ a0 < A 4 → 0 ≤ a1 ∧ a1 ≤ 1 → ∀ s, FQ st s → s 9 6 0 0 = 0 → Q (A (19 + 2 * a0 + a1)) s) : f9_weight Q st a0 a1 := by
  have h3 := h.2.2.1
  have hi := h.2.1.1.1.2.2.2.1.2
  have low := h.2.1.1.1.2.2.2.1.1
  have m0 := mlen0
  have ec : st 30 0 0 4 = A 4 := congrFun h.1 4
  have bad : ∀ c : Int, 0 < c → c ≤ 3 → (∀ s, FQ st s → s 9 6 0 0 = c → Q 0 s) → f9_weight_j35 Q a0 a1 st c := fun c c0 c3 k => by
    unfold f9_weight_j35
    exact gate (by omega) c3 (fun e => absurd e (by omega)) (fun _ => k _ (FQ.up6 h3) (by rw [up_eq, if_pos ⟨rfl, rfl, rfl, rfl⟩]))
  unfold f9_weight
  rw [ec]
  refine W9_isIn h0 inI_0 (inI_s (by omega) (by omega)) ?_
  by_cases c : 0 ≤ a0 ∧ a0 ≤ A 4 - 1
  · rw [if_pos c]
    refine ⟨inI_1, fun e => absurd e (by omega), fun _ => W9_isIn h1 inI_0 inI_1 ?_⟩
    by_cases d : 0 ≤ a1 ∧ a1 ≤ 1
    · rw [if_pos d]
      refine ⟨inI_1, fun e => absurd e (by omega), fun _ => ?_⟩
      unfold f9_weight_j35
      refine gate (by omega) (by omega) (fun _ => ⟨by omega, by omega, ?_⟩) (fun e => absurd e (by omega))
      have e1 : up st 9 6 0 0 0 30 0 0 (19 + 2 * a0 + a1) = A (19 + 2 * a0 + a1) := (up_ne (by omega)).trans (congrFun h.1 _)
      rw [e1]
      exact hq (by omega) d _ (FQ.up6 h3) (by rw [up_eq, if_pos ⟨rfl, rfl, rfl, rfl⟩])
    · rw [if_neg d]
      exact ⟨inI_0, fun _ => bad 2 (by omega) (by omega) (hy (by omega) d), fun e => absurd rfl e⟩
  · rw [if_neg c]
    exact ⟨inI_0, fun _ => bad 1 (by omega) (by omega) (hx (by omega)), fun e => absurd rfl e⟩
theorem W8_axle {A : Int → Int} {n : Int} {B : Int → Int → Int} {F : Int → Int} {S : Int → Int → Int} {Q : Int → St → Prop} {X : String → St → Prop} {st : St} {a0 a1 : Int} (h : CS st A n B F S) (h0 : inI a0) (h1 : inI a1) (hx : ¬ (0 ≤ a0 ∧ a0 < A 5) → X "java/lang/IndexOutOfBoundsException" st) (hy : 0 ≤ a0 ∧ a0 < A 5 → ¬ (0 ≤ a1 ∧ a1 ≤ 1) → X "java/lang/IllegalArgumentException" st)
    (hq : 0 ≤ a0 ∧ a0 < A 5 → 0 ≤ a1 ∧ a1 ≤ 1 → Q (A (35 + 2 * a0 + a1)) st) : f8_axle Q X st a0 a1 := by
  have b := h.2.1.2.2.2.2.2
  unfold f8_axle f8_pairNumber
  refine W8_needNumber b.1 b.2.1 h0 (fun c d => ?_) hx
  refine W8_needRange h1 inI_0 inI_1 (fun e f => ⟨h1, fun z => ?_, fun z => ?_⟩) (hy ⟨c, d⟩)
  · refine W6_first b.1 h0 (fun _ _ => ?_) (fun q => absurd ⟨c, by rw [b.2.1]; exact d⟩ q)
    rw [(b.2.2 a0 c d).1]
    have := hq ⟨c, d⟩ ⟨e, f⟩
    rw [z, Int.add_zero] at this
    exact this
  · refine W6_second b.1 h0 (fun _ _ => ?_) (fun q => absurd ⟨c, by rw [b.2.1]; exact d⟩ q)
    rw [(b.2.2 a0 c d).2]
    have := hq ⟨c, d⟩ ⟨e, f⟩
    rw [show a1 = 1 by omega] at this
    exact this
theorem W9_axle {A : Int → Int} {n : Int} {B : Int → Int → Int} {F : Int → Int} {S : Int → Int → Int} {Q : Int → St → Prop} {st : St} {a0 a1 : Int} (h : MS st A n B F S) (h0 : inI a0) (h1 : inI a1) (hx : ¬ (0 ≤ a0 ∧ a0 < A 5) → ∀ s, FQ st s → s 9 6 0 0 = 1 → Q 0 s) (hy : 0 ≤ a0 ∧ a0 < A 5 → ¬ (0 ≤ a1 ∧ a1 ≤ 1) → ∀ s, FQ st s → s 9 6 0 0 = 2 → Q 0 s)
    (hq : 0 ≤ a0 ∧ a0 < A 5 → 0 ≤ a1 ∧ a1 ≤ 1 → ∀ s, FQ st s → s 9 6 0 0 = 0 → Q (A (35 + 2 * a0 + a1)) s) : f9_axle Q st a0 a1 := by
  have h3 := h.2.2.1
  have hi := h.2.1.1.1.2.2.2.2.1.2
  have low := h.2.1.1.1.2.2.2.2.1.1
  have m0 := mlen0
  have ec : st 30 0 0 5 = A 5 := congrFun h.1 5
  have bad : ∀ c : Int, 0 < c → c ≤ 3 → (∀ s, FQ st s → s 9 6 0 0 = c → Q 0 s) → f9_axle_j35 Q a0 a1 st c := fun c c0 c3 k => by
    unfold f9_axle_j35
    exact gate (by omega) c3 (fun e => absurd e (by omega)) (fun _ => k _ (FQ.up6 h3) (by rw [up_eq, if_pos ⟨rfl, rfl, rfl, rfl⟩]))
  unfold f9_axle
  rw [ec]
  refine W9_isIn h0 inI_0 (inI_s (by omega) (by omega)) ?_
  by_cases c : 0 ≤ a0 ∧ a0 ≤ A 5 - 1
  · rw [if_pos c]
    refine ⟨inI_1, fun e => absurd e (by omega), fun _ => W9_isIn h1 inI_0 inI_1 ?_⟩
    by_cases d : 0 ≤ a1 ∧ a1 ≤ 1
    · rw [if_pos d]
      refine ⟨inI_1, fun e => absurd e (by omega), fun _ => ?_⟩
      unfold f9_axle_j35
      refine gate (by omega) (by omega) (fun _ => ⟨by omega, by omega, ?_⟩) (fun e => absurd e (by omega))
      have e1 : up st 9 6 0 0 0 30 0 0 (35 + 2 * a0 + a1) = A (35 + 2 * a0 + a1) := (up_ne (by omega)).trans (congrFun h.1 _)
      rw [e1]
      exact hq (by omega) d _ (FQ.up6 h3) (by rw [up_eq, if_pos ⟨rfl, rfl, rfl, rfl⟩])
    · rw [if_neg d]
      exact ⟨inI_0, fun _ => bad 2 (by omega) (by omega) (hy (by omega) d), fun e => absurd rfl e⟩
  · rw [if_neg c]
    exact ⟨inI_0, fun _ => bad 1 (by omega) (by omega) (hx (by omega)), fun e => absurd rfl e⟩
theorem su_sm (f : Int → Int) : ∀ m, suN f m = smE f m := by
  intro m
  induction m with
  | zero => rfl
  | succ m ih => unfold suN smE; rw [ih]
def ctA (A : Int → Int) (k : Int) : Int := if k = 0 then A 0 else if k = 1 then A 2 else if k = 2 then A 3 else if k = 3 then A 4 else if k = 4 then A 5 else if k = 5 then A 1 else if k = 6 then smE (fun k => A (19 + 2 * k)) (A 4).toNat else if k = 7 then smE (fun k => A (35 + 2 * k)) (A 5).toNat else lhA A
theorem W8_count {A : Int → Int} {n : Int} {B : Int → Int → Int} {F : Int → Int} {S : Int → Int → Int} {Q : Int → St → Prop} {X : String → St → Prop} {st : St} {a0 : Int} (h : CS st A n B F S) (h0 : inI a0) (hx : ¬ (0 ≤ a0 ∧ a0 ≤ 8) → X "java/lang/IllegalArgumentException" st) (hq : 0 ≤ a0 ∧ a0 ≤ 8 → Q (ctA A a0) st) : f8_count Q X st a0 := by
  obtain ⟨b0, b1, b2, ⟨i1, i2, i3⟩, b4, b5⟩ := h.2.1
  have v4 := h.1.1.1.2.2.2.1
  have v5 := h.1.1.1.2.2.2.2.1
  unfold f8_count
  rw [b0, b1, b2.2.1, i2, b4.2.1, b5.2.1]
  refine ⟨h0, fun e => ?_, fun e => ?_, fun e => ?_, fun e => ?_, fun e => ?_, fun e => ?_, fun e => ?_, fun e => ?_, fun e => ?_, fun e => hx (by omega)⟩
  · have := hq (by omega); rw [e] at this; exact this
  · have := hq (by omega); rw [e] at this; exact this
  · have := hq (by omega); rw [e] at this; exact this
  · have := hq (by omega); rw [e] at this; exact this
  · have := hq (by omega); rw [e] at this; exact this
  · have := hq (by omega); rw [e] at this; exact this
  · have := hq (by omega)
    rw [e] at this
    refine W6_sumOfFirsts b4.1 ?_
    rw [su_sm, b4.2.1, smE_ext (g := fun k => A (19 + 2 * k)) _ (fun k k0 k1 => (b4.2.2 k k0 (by omega)).1)]
    exact this
  · have := hq (by omega)
    rw [e] at this
    refine W6_sumOfFirsts b5.1 ?_
    rw [su_sm, b5.2.1, smE_ext (g := fun k => A (35 + 2 * k)) _ (fun k k0 k1 => (b5.2.2 k k0 (by omega)).1)]
    exact this
  · have := hq (by omega)
    rw [e] at this
    exact W0_lastHead h.1.1.1 h.cr.2.1 this
