/-! gap -/
def rtB (A : Int → Int) (m x : Int) : Int := (if x ≤ m then 0 else - unitA A * (x - m)) + smE (fun k => if A (6 + 2 * k) ≤ m then 0 else infA A k x * (A (6 + 2 * k) - m)) (A 2).toNat
theorem W9_rightBy {Q : Int → St → Prop} {st : St} {f x : Int} (hA : VC (aM st)) (hl : LW st) (hf : -1000 ≤ f) (hf2 : f ≤ 1000) (hx : 0 ≤ x) (hx2 : x ≤ st 30 0 0 0) (h : Q (rtB (aM st) f x) st) : f9_rightBy Q st f x := by
  have n2 : 2 ≤ st 30 0 0 2 := hA.2.2.1
  have n5 : st 30 0 0 2 ≤ 5 := hA.2.2.2.1
  have l3 : st 30 0 0 0 ≤ 30 := hA.2.1
  have L : ∀ (b : Int), Q (b + smE (fun k => if aM st (6 + 2 * k) ≤ f then 0 else infA (aM st) k x * (aM st (6 + 2 * k) - f)) (st 30 0 0 2).toNat) st → ∀ (m : Nat) (v : Int), 0 ≤ v → v ≤ st 30 0 0 2 → st 30 0 0 2 - v < m → f9_rightBy_l23 Q f x m st (b + smE (fun k => if aM st (6 + 2 * k) ≤ f then 0 else infA (aM st) k x * (aM st (6 + 2 * k) - f)) v.toNat) v := by
    intro b hq m
    induction m with
    | zero => intro v a1 a2 a3; omega
    | succ m ih =>
      intro v a1 a2 a3
      unfold f9_rightBy_l23
      refine ⟨inI_s (by omega) (by omega), inI_s (by omega) (by omega), fun c => ?_, fun c => W9_placeOf a1 (by omega) ?_⟩
      · have hv : v = st 30 0 0 2 := by omega
        rw [hv]
        exact hq
      · have hp := hA.2.2.2.2.1 v a1 (by show v < st 30 0 0 2; omega)
        have hp : 0 ≤ st 30 0 0 (6 + 2 * v) ∧ st 30 0 0 (6 + 2 * v) ≤ 30 := hp
        have nx := ih (v + 1) (by omega) (by omega) (by omega)
        rw [smE_S _ a1, ← Int.add_assoc] at nx
        refine ⟨inI_s (by omega) (by omega), inI_s (by omega) (by omega), fun c2 => ?_, fun c2 => W9_reactionBy hA hl a1 (by omega) hx hx2 (W9_placeOf a1 (by omega) ⟨inI_s (by omega) (by omega), ?_⟩)⟩
        · unfold f9_rightBy_j66
          rintro _ rfl _ rfl
          rw [if_pos c2] at nx
          exact nx
        · unfold f9_rightBy_j66
          rintro _ rfl _ rfl
          rw [if_neg c2] at nx
          exact nx
  have go : ∀ b : Int, Q (b + smE (fun k => if aM st (6 + 2 * k) ≤ f then 0 else infA (aM st) k x * (aM st (6 + 2 * k) - f)) (st 30 0 0 2).toNat) st → f9_rightBy_j19 Q f x st b := fun b hq => by
    have := L b hq 100 0 (by omega) (by omega) (by omega)
    rw [smE_0, Int.add_zero] at this
    exact ⟨100, this⟩
  unfold f9_rightBy
  refine ⟨inI_s (by omega) (by omega), inI_s (by omega) (by omega), fun c => go 0 ?_, fun c => ⟨inI_s (by omega) (by omega), ?_⟩⟩
  · unfold rtB at h
    rw [if_pos c] at h
    exact h
  · rw [hl.1]
    refine go _ ?_
    unfold rtB at h
    rw [if_neg c] at h
    exact h
theorem W8_influenceFromRight {A : Int → Int} {Q : Int → St → Prop} {st : St} {f x : Int} (hR : CR st A) (hf : 0 ≤ f) (hf2 : f ≤ 30) (hx : 0 ≤ x) (hx2 : x ≤ A 0) (h : Q (rtB A f x) st) : f8_influenceFromRight Q st f x := by
  obtain ⟨hA, hB, hL⟩ := hR
  have hC := hA.1.1
  have n2 := hC.2.2.1
  have n5 := hC.2.2.2.1
  have l3 := hC.2.1
  have L : ∀ (m : Nat) (v : Int), 0 ≤ v → v ≤ A 2 → A 2 - v < m → f8_influenceFromRight_l5 Q f x m st (smE (fun k => if A (6 + 2 * k) ≤ f then 0 else infA A k x * (A (6 + 2 * k) - f)) v.toNat) v := by
    intro m
    induction m with
    | zero => intro v a1 a2 a3; omega
    | succ m ih =>
      intro v a1 a2 a3
      unfold f8_influenceFromRight_l5
      rw [hB.1.2.2.2.1, hL.2.2.1]
      refine ⟨inI_s (by omega) (by omega), inI_s (by omega) (by omega), fun c => ⟨inI_s (by omega) (by omega), inI_s (by omega) (by omega), fun c2 => ?_, fun c2 => ⟨inI_s (by omega) (by omega), ?_⟩⟩, fun c => ?_⟩
      · have hv : v = A 2 := by omega
        rw [hv]
        unfold rtB at h
        rw [if_pos c2, Int.zero_add] at h
        exact h
      · have hv : v = A 2 := by omega
        rw [hv]
        rintro _ rfl
        unfold rtB at h
        rw [if_neg c2] at h
        have e : smE (fun k => if A (6 + 2 * k) ≤ f then 0 else infA A k x * (A (6 + 2 * k) - f)) (A 2).toNat - unitA A * (x - f) = - unitA A * (x - f) + smE (fun k => if A (6 + 2 * k) ≤ f then 0 else infA A k x * (A (6 + 2 * k) - f)) (A 2).toNat := by
          rw [Int.neg_mul]
          omega
        rw [e]
        exact h
      · have hp := hC.2.2.2.2.1 v a1 (by omega)
        have nx := ih (v + 1) (by omega) (by omega) (by omega)
        rw [smE_S _ a1] at nx
        refine W6_first hB.1.2.1 (inI_s (by omega) (by omega)) (fun _ _ => ?_) (fun q => absurd ⟨a1, by rw [hB.1.2.2.2.1]; omega⟩ q)
        rw [hB.1.2.2.2.2.2.1 v a1 (by omega)]
        rintro _ rfl
        refine ⟨inI_s (by omega) (by omega), fun c2 => ?_, fun c2 => ?_⟩
        · unfold f8_influenceFromRight_j58
          rintro _ rfl
          rw [if_pos (by omega), Int.add_zero] at nx
          exact nx
        · refine W3_at hC hL (inI_s (by omega) (by omega)) (inI_s (by omega) (by omega)) (fun _ _ _ _ => ⟨inI_s (by omega) (by omega), ?_⟩) (fun q => absurd ⟨a1, by omega, hx, hx2⟩ q)
          rintro _ rfl
          unfold f8_influenceFromRight_j58
          rintro _ rfl
          rw [if_neg (by omega)] at nx
          exact nx
  unfold f8_influenceFromRight
  exact ⟨100, L 100 0 (by omega) (by omega) (by omega)⟩
theorem W8_gap {A : Int → Int} {Q : Int → St → Prop} {X : String → St → Prop} {st : St} {a0 a1 : Int} (hR : CR st A) (h0 : inI a0) (h1 : inI a1)
    (hq : 0 ≤ a0 → a0 ≤ A 0 → 0 ≤ a1 → a1 ≤ A 0 → ∀ s, F1 0 st s → Q (mmB A a0 a1 - rtB A a0 a1) s) (hx : ¬ ((0 ≤ a0 ∧ a0 ≤ A 0) ∧ 0 ≤ a1 ∧ a1 ≤ A 0) → X "java/lang/IndexOutOfBoundsException" st) : f8_gap Q X st a0 a1 := by
  have hC := hR.1.1.1
  have l3 := hC.2.1
  unfold f8_gap
  refine W8_needPlace hR.2.1.1 hC h0 (fun c d => ?_) (fun c => hx (fun q => c q.1))
  refine W8_needPlace hR.2.1.1 hC h1 (fun e f => ?_) (fun e => hx (fun q => e q.2))
  exact W8_influenceOnMoment hR c d e f (fun s g => W8_influenceFromRight (hR.f1 g) c (by omega) e f (hq c d e f s g))
theorem W9_gap {Q : Int → St → Prop} {st : St} {a0 a1 : Int} (hM : MR st) (h0 : inI a0) (h1 : inI a1)
    (hq : 0 ≤ a0 → a0 ≤ aM st 0 → 0 ≤ a1 → a1 ≤ aM st 0 → ∀ s, FQ st s → s 9 6 0 0 = 0 → Q (mmB (aM st) a0 a1 - rtB (aM st) a0 a1) s)
    (hx : ¬ ((0 ≤ a0 ∧ a0 ≤ aM st 0) ∧ 0 ≤ a1 ∧ a1 ≤ aM st 0) → ∀ s, FQ st s → s 9 6 0 0 = 1 → Q 0 s) : f9_gap Q st a0 a1 := by
  have hC := hM.1.1.1
  have l3 : st 30 0 0 0 ≤ 30 := hC.2.1
  have bad : ¬ ((0 ≤ a0 ∧ a0 ≤ aM st 0) ∧ 0 ≤ a1 ∧ a1 ≤ aM st 0) → f9_gap_j21 Q a0 a1 st := fun c => by
    unfold f9_gap_j21 f9_gap_j22
    exact gate (by omega) (by omega) (fun e => absurd e (by omega)) (fun _ => hx c _ (FQ.up6 hM.2.2) (by rw [up_eq, if_pos ⟨rfl, rfl, rfl, rfl⟩]))
  unfold f9_gap
  refine W9_isPlace hC h0 ?_
  by_cases c : 0 ≤ a0 ∧ a0 ≤ st 30 0 0 0
  · rw [if_pos c]
    refine ⟨inI_1, fun e => absurd e (by omega), fun _ => W9_isPlace hC h1 ?_⟩
    by_cases d : 0 ≤ a1 ∧ a1 ≤ st 30 0 0 0
    · rw [if_pos d]
      refine ⟨inI_1, fun e => absurd e (by omega), fun _ => ?_⟩
      unfold f9_gap_j22
      refine gate (by omega) (by omega) (fun _ => ?_) (fun e => absurd e (by omega))
      refine W9_lays2 hM (fun s f e6 hl eA => ?_)
      have e0 : s 30 0 0 0 = st 30 0 0 0 := congrFun eA 0
      have hCs : VC (aM s) := by rw [eA]; exact hC
      refine W9_momentBy hCs hl (by omega) (by omega) d.1 (by omega) ?_
      refine W9_rightBy hCs hl (by omega) (by omega) d.1 (by omega) ?_
      rw [eA]
      exact hq c.1 c.2 d.1 d.2 s f e6
    · rw [if_neg d]
      exact ⟨inI_0, fun _ => bad (fun q => d q.2), fun e => absurd rfl e⟩
  · rw [if_neg c]
    exact ⟨inI_0, fun _ => bad (fun q => c q.1), fun e => absurd rfl e⟩
