theorem W9_hinge {A : Int → Int} {n : Int} {B : Int → Int → Int} {F : Int → Int} {S : Int → Int → Int} {Q : Int → St → Prop} {st : St} {a0 : Int} (h : MS st A n B F S) (h0 : inI a0) (hx : ¬ (0 ≤ a0 ∧ a0 < A 3) → ∀ s, FQ st s → s 9 6 0 0 = 1 → Q 0 s)
    (hq : 0 ≤ a0 ∧ a0 < A 3 → ∀ s, FQ st s → s 9 6 0 0 = 0 → Q (A (16 + a0)) s) : f9_hinge Q st a0 := by
  have h3 := h.2.2.1
  have n2 := h.2.1.c.2.2.1
  have n5 := h.2.1.c.2.2.2.1
  have a3 := h.2.1.2.1
  have m0 := mlen0
  have ec : st 30 0 0 3 = A 3 := congrFun h.1 3
  unfold f9_hinge f9_isHinge
  rw [ec]
  refine W9_isIn h0 inI_0 (inI_s (by omega) (by omega)) ?_
  by_cases c : 0 ≤ a0 ∧ a0 ≤ A 3 - 1
  · rw [if_pos c]
    refine ⟨Or.inr rfl, inI_1, fun e => absurd e (by omega), fun _ => ?_⟩
    unfold f9_hinge_j14
    refine gate (by omega) (by omega) (fun _ => ⟨by omega, by omega, ?_⟩) (fun e => absurd e (by omega))
    have e1 : up st 9 6 0 0 0 30 0 0 (16 + a0) = A (16 + a0) := (up_ne (by omega)).trans (congrFun h.1 _)
    rw [e1]
    exact hq (by omega) _ (FQ.up6 h3) (by rw [up_eq, if_pos ⟨rfl, rfl, rfl, rfl⟩])
  · rw [if_neg c]
    refine ⟨Or.inl rfl, inI_0, fun _ => ?_, fun e => absurd rfl e⟩
    unfold f9_hinge_j14
    exact gate (by omega) (by omega) (fun e => absurd e (by omega)) (fun _ => hx (by omega) _ (FQ.up6 h3) (by rw [up_eq, if_pos ⟨rfl, rfl, rfl, rfl⟩]))
theorem cuN_ext {f g : Int → Int} {a : Int} : ∀ m : Nat, (∀ e : Int, 0 ≤ e → e < m → f e = g e) → cuN f a m = cuN g a m := by
  intro m
  induction m with
  | zero => intro _; rfl
  | succ m ih => intro h; unfold cuN; rw [ih (fun e p q => h e p (by omega)), h m (by omega) (by omega)]
/-- hinges up to a place -/
def ptA (A : Int → Int) (x : Int) : Int := cuN (fun k => A (16 + k)) x (A 3).toNat
theorem hng_b {A : Int → Int} (h : VA A) {k : Int} (k0 : 0 ≤ k) (k1 : k < A 3) : 0 ≤ A (16 + k) ∧ A (16 + k) ≤ 30 := h.c.2.2.2.2.2 k k0 (by have := h.2.1; omega)
theorem W8_part {A : Int → Int} {n : Int} {B : Int → Int → Int} {F : Int → Int} {S : Int → Int → Int} {Q : Int → St → Prop} {X : String → St → Prop} {st : St} {a0 : Int} (h : CS st A n B F S) (h0 : inI a0) (hx : ¬ (0 ≤ a0 ∧ a0 ≤ A 0) → X "java/lang/IndexOutOfBoundsException" st)
    (hq : 0 ≤ a0 ∧ a0 ≤ A 0 → Q (ptA A a0) st) : f8_part Q X st a0 := by
  have b := h.2.1.2.2.2.1
  unfold f8_part
  refine W8_needPlace h.cr.2.1.1 h.1.c h0 (fun c d => ?_) hx
  refine W6_countUpTo b.1 (fun k k0 k1 => ?_) h0 ?_
  · rw [b.2.1] at k1
    rw [b.2.2 k k0 k1]
    have := hng_b h.1 k0 k1
    exact inI_s (by omega) (by omega)
  · rw [b.2.1, cuN_ext (g := fun k => A (16 + k)) _ (fun k k0 k1 => b.2.2 k k0 (by omega))]
    exact hq ⟨c, d⟩
theorem W9_part {A : Int → Int} {n : Int} {B : Int → Int → Int} {F : Int → Int} {S : Int → Int → Int} {Q : Int → St → Prop} {st : St} {a0 : Int} (h : MS st A n B F S) (h0 : inI a0) (hx : ¬ (0 ≤ a0 ∧ a0 ≤ A 0) → ∀ s, FQ st s → s 9 6 0 0 = 1 → Q 0 s)
    (hq : 0 ≤ a0 ∧ a0 ≤ A 0 → ∀ s, FQ st s → s 9 6 0 0 = 0 → Q (ptA A a0) s) : f9_part Q st a0 := by
  have h3 := h.2.2.1
  have n2 := h.2.1.c.2.2.1
  have n5 := h.2.1.c.2.2.2.1
  have a3 := h.2.1.2.1
  have m0 := mlen0
  have e0 : st 30 0 0 0 = A 0 := congrFun h.1 0
  unfold f9_part
  refine W9_isPlace h.mr.1.1.1 h0 ?_
  rw [e0]
  by_cases c : 0 ≤ a0 ∧ a0 ≤ A 0
  · rw [if_pos c]
    refine ⟨inI_1, fun e => absurd e (by omega), fun _ => ?_⟩
    unfold f9_part_j14
    refine gate (by omega) (by omega) (fun _ => ?_) (fun e => absurd e (by omega))
    have e6 : up st 9 6 0 0 0 9 6 0 0 = 0 := by rw [up_eq, if_pos ⟨rfl, rfl, rfl, rfl⟩]
    have hm := h.fq (FQ.up6 (c := 0) h3)
    have q := hq c _ (FQ.up6 h3) e6
    generalize up st 9 6 0 0 0 = s at hm q
    have eA : ∀ j, s 30 0 0 j = A j := fun j => congrFun hm.1 j
    have L : ∀ (m : Nat) (v : Int), 0 ≤ v → v ≤ A 3 → A 3 - v < m → f9_part_l30 Q a0 m s (cuN (fun k => A (16 + k)) a0 v.toNat) v := by
      intro m
      induction m with
      | zero => intro v a1 a2 a3'; omega
      | succ m ih =>
        intro v a1 a2 a3'
        unfold f9_part_l30
        rw [eA, eA]
        refine ⟨inI_s (by omega) (by omega), inI_s (by omega) (by omega), fun z => ?_, fun z => ?_⟩
        · have hv : v = A 3 := by omega
          rw [hv]
          exact q
        · have hb := hng_b h.2.1 a1 (show v < A 3 by omega)
          have nx := ih (v + 1) (by omega) (by omega) (by omega)
          rw [show (v + 1).toNat = v.toNat + 1 by omega] at nx
          unfold cuN at nx
          rw [show ((v.toNat : Nat) : Int) = v by omega] at nx
          refine ⟨by omega, by omega, inI_s (by omega) (by omega), h0, fun w => ?_, fun w => ?_⟩
          · unfold f9_part_j59
            rintro _ rfl _ rfl
            rw [if_neg (by omega)] at nx
            exact nx
          · unfold f9_part_j59
            rintro _ rfl _ rfl
            rw [if_pos (by omega)] at nx
            exact nx
    exact ⟨100, L 100 0 (by omega) (by omega) (by omega)⟩
  · rw [if_neg c]
    refine ⟨inI_0, fun _ => ?_, fun e => absurd rfl e⟩
    unfold f9_part_j14
    exact gate (by omega) (by omega) (fun e => absurd e (by omega)) (fun _ => hx c _ (FQ.up6 h3) (by rw [up_eq, if_pos ⟨rfl, rfl, rfl, rfl⟩]))
