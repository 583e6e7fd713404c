theorem W9_weights {Q : Int → St → Prop} {st : St} {b c : Int} (hb : 0 ≤ b) (hc : 0 ≤ c) (hc2 : c ≤ 8) (hm : b + 2 * c ≤ 48) (h : Q (smE (fun k => st 30 0 0 (b + 2 * k)) c.toNat) st) : f9_weights Q st b c := by
  have m0 := mlen0
  have L : ∀ (m : Nat) (v : Int), 0 ≤ v → v ≤ c → c - v < m → f9_weights_l5 Q b c m st (smE (fun k => st 30 0 0 (b + 2 * k)) v.toNat) v := by
    intro m
    induction m with
    | zero => intro v a1 a2 a3; omega
    | succ m ih =>
      intro v a1 a2 a3
      unfold f9_weights_l5
      refine ⟨inI_s (by omega) (by omega), inI_s (by omega) (by omega), fun q => ?_, fun q => ⟨by omega, by omega, ?_⟩⟩
      · have hv : v = c := by omega
        rw [hv]
        exact h
      · have nx := ih (v + 1) (by omega) (by omega) (by omega)
        rw [smE_S _ a1] at nx
        rintro _ rfl _ rfl
        exact nx
  unfold f9_weights
  exact ⟨100, L 100 0 (by omega) (by omega) (by omega)⟩
theorem W9_count {A : Int → Int} {n : Int} {B : Int → Int → Int} {F : Int → Int} {S : Int → Int → Int} {Q : Int → St → Prop} {st : St} {a0 : Int} (h : MS st A n B F S) (h0 : inI a0) (hx : ¬ (0 ≤ a0 ∧ a0 ≤ 8) → ∀ s, FQ st s → s 9 6 0 0 = 1 → Q 0 s) (hq : 0 ≤ a0 ∧ a0 ≤ 8 → ∀ s, FQ st s → s 9 6 0 0 = 0 → Q (ctA A a0) s) : f9_count Q st a0 := by
  have h3 := h.2.2.1
  have v4 := h.2.1.1.1.2.2.2.1
  have v5 := h.2.1.1.1.2.2.2.2.1
  unfold f9_count
  refine W9_isIn h0 inI_0 (inI_s (by omega) (by omega)) ?_
  by_cases c : 0 ≤ a0 ∧ a0 ≤ 8
  · rw [if_pos c]
    refine ⟨inI_1, fun e => absurd e (by omega), fun _ => ?_⟩
    unfold f9_count_j16
    refine gate (by omega) (by omega) (fun _ => ?_) (fun e => absurd e (by omega))
    have e6 : up st 9 6 0 0 0 9 6 0 0 = 0 := by rw [up_eq, if_pos ⟨rfl, rfl, rfl, rfl⟩]
    have hm := h.fq (FQ.up6 (c := 0) h3)
    have q := hq c _ (FQ.up6 h3) e6
    generalize up st 9 6 0 0 0 = s at hm q
    have eA : ∀ j, s 30 0 0 j = A j := fun j => congrFun hm.1 j
    rw [eA, eA, eA, eA, eA, eA]
    refine ⟨h0, fun e => ?_, fun e => ?_, fun e => ?_, fun e => ?_, fun e => ?_, fun e => ?_, fun e => ?_, fun e => ?_, fun e => ?_⟩
    · rw [e] at q; exact q
    · rw [e] at q; exact q
    · rw [e] at q; exact q
    · rw [e] at q; exact q
    · rw [e] at q; exact q
    · rw [e] at q; exact q
    · rw [e] at q
      refine W9_weights (by omega) (by omega) (by omega) (by omega) ?_
      rw [smE_ext (g := fun k => A (19 + 2 * k)) _ (fun k k0 k1 => eA _)]
      exact q
    · rw [e] at q
      refine W9_weights (by omega) (by omega) (by omega) (by omega) ?_
      rw [smE_ext (g := fun k => A (35 + 2 * k)) _ (fun k k0 k1 => eA _)]
      exact q
    · rw [show a0 = 8 by omega] at q
      refine W9_lastHead (by rw [hm.1]; exact hm.2.1.1.1) ?_
      rw [hm.1]
      exact q
  · rw [if_neg c]
    refine ⟨inI_0, fun _ => ?_, fun e => absurd rfl e⟩
    unfold f9_count_j16
    exact gate (by omega) (by omega) (fun e => absurd e (by omega)) (fun _ => hx c _ (FQ.up6 h3) (by rw [up_eq, if_pos ⟨rfl, rfl, rfl, rfl⟩]))
theorem W8_hinge {A : Int → Int} {n : Int} {B : Int → Int → Int} {F : Int → Int} {S : Int → Int → Int} {Q : Int → St → Prop} {X : String → St → Prop} {st : St} {a0 : Int} (h : CS st A n B F S) (h0 : inI a0) (hx : ¬ (0 ≤ a0 ∧ a0 < A 3) → X "java/lang/IndexOutOfBoundsException" st)
    (hq : 0 ≤ a0 ∧ a0 < A 3 → Q (A (16 + a0)) st) : f8_hinge Q X st a0 := by
  have b := h.2.1.2.2.2.1
  unfold f8_hinge f8_pairNumber
  refine W8_needNumber b.1 b.2.1 h0 (fun c d => ?_) hx
  refine W8_needRange inI_0 inI_0 inI_1 (fun e f => ⟨inI_0, fun z => ?_, fun z => absurd rfl z⟩) (fun q => absurd q (by omega))
  refine W6_first b.1 h0 (fun _ _ => ?_) (fun q => absurd ⟨c, by rw [b.2.1]; exact d⟩ q)
  rw [b.2.2 a0 c d]
  exact hq ⟨c, d⟩
