theorem W9_reaction {Q : Int → St → Prop} {st : St} {a0 a1 : Int} (hM : MR st) (h0 : inI a0) (h1 : inI a1)
    (hq : 0 ≤ a0 ∧ a0 < aM st 2 → -1 ≤ a1 ∧ a1 ≤ lhA (aM st) → ∀ s, FQ st s → s 9 6 0 0 = 0 → Q (TA (aM st) a1 (infA (aM st) a0)) s)
    (hx : ¬ (0 ≤ a0 ∧ a0 < aM st 2) → ∀ s, FQ st s → s 9 6 0 0 = 1 → Q 0 s)
    (hy : 0 ≤ a0 ∧ a0 < aM st 2 → ¬ (-1 ≤ a1 ∧ a1 ≤ lhA (aM st)) → ∀ s, FQ st s → s 9 6 0 0 = 2 → Q 0 s) : f9_reaction Q st a0 a1 := by
  have hF := hM.1.1
  have hC := hF.1
  have hb := lhA_b hF
  have n5 : st 30 0 0 2 ≤ 5 := hC.2.2.2.1
  have l3 : st 30 0 0 0 ≤ 30 := hC.2.1
  unfold f9_reaction
  refine W9_isSupport hC h0 ?_
  by_cases c : 0 ≤ a0 ∧ a0 < st 30 0 0 2
  · rw [if_pos c]
    refine ⟨inI_1, fun e => absurd e (by omega), fun _ => W9_isHead hF h1 ?_⟩
    by_cases d : -1 ≤ a1 ∧ a1 ≤ lhA (aM st)
    · rw [if_pos d]
      refine ⟨inI_1, fun e => absurd e (by omega), fun _ => ?_⟩
      unfold f9_reaction_j26
      refine gate (by omega) (by omega) (fun _ => ?_) (fun e => absurd e (by omega))
      refine W9_lays2 hM (fun s f e6 hl eA => ?_)
      have e0 : s 30 0 0 0 = st 30 0 0 0 := congrFun eA 0
      have e2 : s 30 0 0 2 = st 30 0 0 2 := congrFun eA 2
      refine W9_all (by rw [eA]; exact hF) hl (by omega) (by omega) (fun e => by omega) (by omega) (by omega) d.1 (by omega) ?_
      rw [eA, allA_TA]
      have eb : byA (aM st) 0 a0 = infA (aM st) a0 := rfl
      rw [eb]
      exact hq c d s f e6
    · rw [if_neg d]
      refine ⟨inI_0, fun _ => ?_, fun e => absurd rfl e⟩
      unfold f9_reaction_j26
      exact gate (by omega) (by omega) (fun e => absurd e (by omega)) (fun _ => hy c d _ (FQ.up6 hM.2.2) (by rw [up_eq, if_pos ⟨rfl, rfl, rfl, rfl⟩]))
  · rw [if_neg c]
    refine ⟨inI_0, fun _ => ?_, fun e => absurd rfl e⟩
    unfold f9_reaction_j26
    exact gate (by omega) (by omega) (fun e => absurd e (by omega)) (fun _ => hx c _ (FQ.up6 hM.2.2) (by rw [up_eq, if_pos ⟨rfl, rfl, rfl, rfl⟩]))
theorem W9_shear {Q : Int → St → Prop} {st : St} {a0 a1 : Int} (hM : MR st) (h0 : inI a0) (h1 : inI a1)
    (hq : 0 ≤ a0 ∧ a0 < aM st 0 → -1 ≤ a1 ∧ a1 ≤ lhA (aM st) → ∀ s, FQ st s → s 9 6 0 0 = 0 → Q (TA (aM st) a1 (shB (aM st) a0)) s)
    (hx : ¬ (0 ≤ a0 ∧ a0 < aM st 0) → ∀ s, FQ st s → s 9 6 0 0 = 1 → Q 0 s)
    (hy : 0 ≤ a0 ∧ a0 < aM st 0 → ¬ (-1 ≤ a1 ∧ a1 ≤ lhA (aM st)) → ∀ s, FQ st s → s 9 6 0 0 = 2 → Q 0 s) : f9_shear Q st a0 a1 := by
  have hF := hM.1.1
  have hC := hF.1
  have hb := lhA_b hF
  have n5 : st 30 0 0 2 ≤ 5 := hC.2.2.2.1
  have l3 : st 30 0 0 0 ≤ 30 := hC.2.1
  unfold f9_shear
  refine W9_isField hC h0 ?_
  by_cases c : 0 ≤ a0 ∧ a0 < st 30 0 0 0
  · rw [if_pos c]
    refine ⟨inI_1, fun e => absurd e (by omega), fun _ => W9_isHead hF h1 ?_⟩
    by_cases d : -1 ≤ a1 ∧ a1 ≤ lhA (aM st)
    · rw [if_pos d]
      refine ⟨inI_1, fun e => absurd e (by omega), fun _ => ?_⟩
      unfold f9_shear_j26
      refine gate (by omega) (by omega) (fun _ => ?_) (fun e => absurd e (by omega))
      refine W9_lays2 hM (fun s f e6 hl eA => ?_)
      have e0 : s 30 0 0 0 = st 30 0 0 0 := congrFun eA 0
      have e2 : s 30 0 0 2 = st 30 0 0 2 := congrFun eA 2
      refine W9_all (by rw [eA]; exact hF) hl (by omega) (by omega) (fun e => by omega) (by omega) (by omega) d.1 (by omega) ?_
      rw [eA, allA_TA]
      have eb : byA (aM st) 1 a0 = shB (aM st) a0 := rfl
      rw [eb]
      exact hq c d s f e6
    · rw [if_neg d]
      refine ⟨inI_0, fun _ => ?_, fun e => absurd rfl e⟩
      unfold f9_shear_j26
      exact gate (by omega) (by omega) (fun e => absurd e (by omega)) (fun _ => hy c d _ (FQ.up6 hM.2.2) (by rw [up_eq, if_pos ⟨rfl, rfl, rfl, rfl⟩]))
  · rw [if_neg c]
    refine ⟨inI_0, fun _ => ?_, fun e => absurd rfl e⟩
    unfold f9_shear_j26
    exact gate (by omega) (by omega) (fun e => absurd e (by omega)) (fun _ => hx c _ (FQ.up6 hM.2.2) (by rw [up_eq, if_pos ⟨rfl, rfl, rfl, rfl⟩]))
theorem W9_moment {Q : Int → St → Prop} {st : St} {a0 a1 : Int} (hM : MR st) (h0 : inI a0) (h1 : inI a1)
    (hq : 0 ≤ a0 ∧ a0 ≤ aM st 0 → -1 ≤ a1 ∧ a1 ≤ lhA (aM st) → ∀ s, FQ st s → s 9 6 0 0 = 0 → Q (TA (aM st) a1 (mmB (aM st) a0)) s)
    (hx : ¬ (0 ≤ a0 ∧ a0 ≤ aM st 0) → ∀ s, FQ st s → s 9 6 0 0 = 1 → Q 0 s)
    (hy : 0 ≤ a0 ∧ a0 ≤ aM st 0 → ¬ (-1 ≤ a1 ∧ a1 ≤ lhA (aM st)) → ∀ s, FQ st s → s 9 6 0 0 = 2 → Q 0 s) : f9_moment Q st a0 a1 := by
  have hF := hM.1.1
  have hC := hF.1
  have hb := lhA_b hF
  have n5 : st 30 0 0 2 ≤ 5 := hC.2.2.2.1
  have l3 : st 30 0 0 0 ≤ 30 := hC.2.1
  unfold f9_moment
  refine W9_isPlace hC h0 ?_
  by_cases c : 0 ≤ a0 ∧ a0 ≤ st 30 0 0 0
  · rw [if_pos c]
    refine ⟨inI_1, fun e => absurd e (by omega), fun _ => W9_isHead hF h1 ?_⟩
    by_cases d : -1 ≤ a1 ∧ a1 ≤ lhA (aM st)
    · rw [if_pos d]
      refine ⟨inI_1, fun e => absurd e (by omega), fun _ => ?_⟩
      unfold f9_moment_j26
      refine gate (by omega) (by omega) (fun _ => ?_) (fun e => absurd e (by omega))
      refine W9_lays2 hM (fun s f e6 hl eA => ?_)
      have e0 : s 30 0 0 0 = st 30 0 0 0 := congrFun eA 0
      have e2 : s 30 0 0 2 = st 30 0 0 2 := congrFun eA 2
      refine W9_all (by rw [eA]; exact hF) hl (by omega) (by omega) (fun e => by omega) (by omega) (by omega) d.1 (by omega) ?_
      rw [eA, allA_TA]
      have eb : byA (aM st) 2 a0 = mmB (aM st) a0 := rfl
      rw [eb]
      exact hq c d s f e6
    · rw [if_neg d]
      refine ⟨inI_0, fun _ => ?_, fun e => absurd rfl e⟩
      unfold f9_moment_j26
      exact gate (by omega) (by omega) (fun e => absurd e (by omega)) (fun _ => hy c d _ (FQ.up6 hM.2.2) (by rw [up_eq, if_pos ⟨rfl, rfl, rfl, rfl⟩]))
  · rw [if_neg c]
    refine ⟨inI_0, fun _ => ?_, fun e => absurd rfl e⟩
    unfold f9_moment_j26
    exact gate (by omega) (by omega) (fun e => absurd e (by omega)) (fun _ => hx c _ (FQ.up6 hM.2.2) (by rw [up_eq, if_pos ⟨rfl, rfl, rfl, rfl⟩]))
theorem W9_worstForReaction {Q : Int → St → Prop} {st : St} {a0 a1 : Int} (hM : MR st) (h0 : inI a0) (h1 : inI a1)
    (hq : 0 ≤ a0 ∧ a0 < aM st 2 → ∀ s, FQ st s → s 9 6 0 0 = 0 → Q (wsA (aM st) 0 a0 a1) s)
    (hx : ¬ (0 ≤ a0 ∧ a0 < aM st 2) → ∀ s, FQ st s → s 9 6 0 0 = 1 → Q 0 s) : f9_worstForReaction Q st a0 a1 := by
  have hF := hM.1.1
  have hC := hF.1
  have n5 : st 30 0 0 2 ≤ 5 := hC.2.2.2.1
  have l3 : st 30 0 0 0 ≤ 30 := hC.2.1
  unfold f9_worstForReaction
  refine W9_isSupport hC h0 ?_
  by_cases c : 0 ≤ a0 ∧ a0 < st 30 0 0 2
  · rw [if_pos c]
    refine ⟨inI_1, fun e => absurd e (by omega), fun _ => ?_⟩
    unfold f9_worstForReaction_j14
    refine gate (by omega) (by omega) (fun _ => ?_) (fun e => absurd e (by omega))
    unfold f9_worst
    refine W9_lays2 hM (fun s f e6 hl eA => ?_)
    have e0 : s 30 0 0 0 = st 30 0 0 0 := congrFun eA 0
    have e2 : s 30 0 0 2 = st 30 0 0 2 := congrFun eA 2
    refine W9_worst1 (by rw [eA]; exact hF) hl (by omega) (by omega) c.1 (fun _ => by omega) (fun _ => by omega) h1 ?_
    rw [eA]
    exact hq c s f e6
  · rw [if_neg c]
    refine ⟨inI_0, fun _ => ?_, fun e => absurd rfl e⟩
    unfold f9_worstForReaction_j14
    exact gate (by omega) (by omega) (fun e => absurd e (by omega)) (fun _ => hx c _ (FQ.up6 hM.2.2) (by rw [up_eq, if_pos ⟨rfl, rfl, rfl, rfl⟩]))
theorem W9_worstForShear {Q : Int → St → Prop} {st : St} {a0 a1 : Int} (hM : MR st) (h0 : inI a0) (h1 : inI a1)
    (hq : 0 ≤ a0 ∧ a0 < aM st 0 → ∀ s, FQ st s → s 9 6 0 0 = 0 → Q (wsA (aM st) 1 a0 a1) s)
    (hx : ¬ (0 ≤ a0 ∧ a0 < aM st 0) → ∀ s, FQ st s → s 9 6 0 0 = 1 → Q 0 s) : f9_worstForShear Q st a0 a1 := by
  have hF := hM.1.1
  have hC := hF.1
  have n5 : st 30 0 0 2 ≤ 5 := hC.2.2.2.1
  have l3 : st 30 0 0 0 ≤ 30 := hC.2.1
  unfold f9_worstForShear
  refine W9_isField hC h0 ?_
  by_cases c : 0 ≤ a0 ∧ a0 < st 30 0 0 0
  · rw [if_pos c]
    refine ⟨inI_1, fun e => absurd e (by omega), fun _ => ?_⟩
    unfold f9_worstForShear_j14
    refine gate (by omega) (by omega) (fun _ => ?_) (fun e => absurd e (by omega))
    unfold f9_worst
    refine W9_lays2 hM (fun s f e6 hl eA => ?_)
    have e0 : s 30 0 0 0 = st 30 0 0 0 := congrFun eA 0
    have e2 : s 30 0 0 2 = st 30 0 0 2 := congrFun eA 2
    refine W9_worst1 (by rw [eA]; exact hF) hl (by omega) (by omega) c.1 (fun _ => by omega) (fun _ => by omega) h1 ?_
    rw [eA]
    exact hq c s f e6
  · rw [if_neg c]
    refine ⟨inI_0, fun _ => ?_, fun e => absurd rfl e⟩
    unfold f9_worstForShear_j14
    exact gate (by omega) (by omega) (fun e => absurd e (by omega)) (fun _ => hx c _ (FQ.up6 hM.2.2) (by rw [up_eq, if_pos ⟨rfl, rfl, rfl, rfl⟩]))
theorem W9_worstForMoment {Q : Int → St → Prop} {st : St} {a0 a1 : Int} (hM : MR st) (h0 : inI a0) (h1 : inI a1)
    (hq : 0 ≤ a0 ∧ a0 ≤ aM st 0 → ∀ s, FQ st s → s 9 6 0 0 = 0 → Q (wsA (aM st) 2 a0 a1) s)
    (hx : ¬ (0 ≤ a0 ∧ a0 ≤ aM st 0) → ∀ s, FQ st s → s 9 6 0 0 = 1 → Q 0 s) : f9_worstForMoment Q st a0 a1 := by
  have hF := hM.1.1
  have hC := hF.1
  have n5 : st 30 0 0 2 ≤ 5 := hC.2.2.2.1
  have l3 : st 30 0 0 0 ≤ 30 := hC.2.1
  unfold f9_worstForMoment
  refine W9_isPlace hC h0 ?_
  by_cases c : 0 ≤ a0 ∧ a0 ≤ st 30 0 0 0
  · rw [if_pos c]
    refine ⟨inI_1, fun e => absurd e (by omega), fun _ => ?_⟩
    unfold f9_worstForMoment_j14
    refine gate (by omega) (by omega) (fun _ => ?_) (fun e => absurd e (by omega))
    unfold f9_worst
    refine W9_lays2 hM (fun s f e6 hl eA => ?_)
    have e0 : s 30 0 0 0 = st 30 0 0 0 := congrFun eA 0
    have e2 : s 30 0 0 2 = st 30 0 0 2 := congrFun eA 2
    refine W9_worst1 (by rw [eA]; exact hF) hl (by omega) (by omega) c.1 (fun _ => by omega) (fun _ => by omega) h1 ?_
    rw [eA]
    exact hq c s f e6
  · rw [if_neg c]
    refine ⟨inI_0, fun _ => ?_, fun e => absurd rfl e⟩
    unfold f9_worstForMoment_j14
    exact gate (by omega) (by omega) (fun e => absurd e (by omega)) (fun _ => hx c _ (FQ.up6 hM.2.2) (by rw [up_eq, if_pos ⟨rfl, rfl, rfl, rfl⟩]))
theorem W9_danger {Q : Int → St → Prop} {st : St} {a0 : Int} (hM : MR st) (h0 : inI a0)
    (hq : -1 ≤ a0 ∧ a0 ≤ lhA (aM st) → ∀ s, FQ st s → s 9 6 0 0 = 0 → Q (dngA (aM st) a0) s)
    (hx : ¬ (-1 ≤ a0 ∧ a0 ≤ lhA (aM st)) → ∀ s, FQ st s → s 9 6 0 0 = 1 → Q 0 s) : f9_danger Q st a0 := by
  have hF := hM.1.1
  have hb := lhA_b hF
  unfold f9_danger
  refine W9_isHead hF h0 ?_
  by_cases c : -1 ≤ a0 ∧ a0 ≤ lhA (aM st)
  · rw [if_pos c]
    refine ⟨inI_1, fun e => absurd e (by omega), fun _ => ?_⟩
    unfold f9_danger_j14
    refine gate (by omega) (by omega) (fun _ => ?_) (fun e => absurd e (by omega))
    refine W9_lays2 hM (fun s f e6 hl eA => ?_)
    refine W9_dangerAt (by rw [eA]; exact hM.1) hl c.1 (by omega) ?_
    rw [eA]
    exact hq c s f e6
  · rw [if_neg c]
    refine ⟨inI_0, fun _ => ?_, fun e => absurd rfl e⟩
    unfold f9_danger_j14
    exact gate (by omega) (by omega) (fun e => absurd e (by omega)) (fun _ => hx c _ (FQ.up6 hM.2.2) (by rw [up_eq, if_pos ⟨rfl, rfl, rfl, rfl⟩]))
theorem W9_firstDanger {Q : Int → St → Prop} {st : St} (hM : MR st) (hq : ∀ s, FQ st s → s 9 6 0 0 = 0 → Q (fbA (aM st)) s) : f9_firstDanger Q st := by
  unfold f9_firstDanger
  rintro _ rfl
  refine W9_lays2 hM (fun s f e6 hl eA => ?_)
  refine W9_firstBad (by rw [eA]; exact hM.1) hl ?_
  rw [eA]
  exact hq s f e6
theorem W9_worstSection {Q : Int → St → Prop} {st : St} (hM : MR st) (hq : ∀ p, PKA (aM st) p → ∀ s, FQ st s → s 9 6 0 0 = 0 → Q p s) : f9_worstSection Q st := by
  unfold f9_worstSection
  rintro _ rfl
  refine W9_lays2 hM (fun s f e6 hl eA => ?_)
  refine W9_worstPlace (by rw [eA]; exact hM.1.1) hl (fun p _ _ k => ?_)
  rw [eA] at k
  exact hq p k s f e6
theorem W9_lifting {Q : Int → St → Prop} {st : St} (hM : MR st) (hq : ∀ z, isSet (liP (aM st) (lhA (aM st))) z → ∀ s, FQ st s → s 9 6 0 0 = 0 → Q z s) : f9_lifting Q st := by
  unfold f9_lifting
  rintro _ rfl
  refine W9_lays2 hM (fun s f e6 hl eA => ?_)
  refine W9_lifting1 (by rw [eA]; exact hM.1.1) hl (fun z k => ?_)
  rw [eA] at k
  exact hq z k s f e6
theorem W9_unit {Q : Int → St → Prop} {st : St} (hM : MR st) (hq : ∀ s, FQ st s → s 9 6 0 0 = 0 → Q (unitA (aM st)) s) : f9_unit Q st := by
  unfold f9_unit
  rintro _ rfl
  refine W9_lays2 hM (fun s f e6 hl eA => ?_)
  rw [hl.1, eA]
  exact hq s f e6
theorem W8_needNumber {r n : Int} {Q : St → Prop} {X : String → St → Prop} {st : St} {v : Int} (hR : RW st r) (hn : st 6 2 r 0 = n) (hv : inI v) (hq : 0 ≤ v → v < n → Q st) (hx : ¬ (0 ≤ v ∧ v < n) → X "java/lang/IndexOutOfBoundsException" st) : f8_needNumber r Q X st v := by
  unfold f8_needNumber
  refine W6_has hR hv (fun a b => ?_) (fun a => ?_)
  · rw [hn] at b
    exact ⟨inI_1, fun e => absurd e (by omega), fun _ => hq a b⟩
  · rw [hn] at a
    exact ⟨inI_0, fun _ => hx a, fun e => absurd rfl e⟩
theorem W8_needPlace {A : Int → Int} {Q : St → Prop} {X : String → St → Prop} {st : St} {v : Int} (hB : BR st 0 A) (hA : VC A) (hv : inI v) (hq : 0 ≤ v → v ≤ A 0 → Q st) (hx : ¬ (0 ≤ v ∧ v ≤ A 0) → X "java/lang/IndexOutOfBoundsException" st) : f8_needPlace Q X st v := by
  unfold f8_needPlace
  refine W0_hasPlace hB hA hv ?_
  by_cases c : 0 ≤ v ∧ v ≤ A 0
  · rw [if_pos c]
    exact ⟨inI_1, fun e => absurd e (by omega), fun _ => hq c.1 c.2⟩
  · rw [if_neg c]
    exact ⟨inI_0, fun _ => hx c, fun e => absurd rfl e⟩
theorem W8_needField {A : Int → Int} {Q : St → Prop} {X : String → St → Prop} {st : St} {v : Int} (hB : BR st 0 A) (hA : VC A) (hv : inI v) (hq : 0 ≤ v → v < A 0 → Q st) (hx : ¬ (0 ≤ v ∧ v < A 0) → X "java/lang/IndexOutOfBoundsException" st) : f8_needField Q X st v := by
  have l2 := hA.1
  have l3 := hA.2.1
  unfold f8_needField f8_needField_j15
  rw [hB.1]
  exact ⟨hv, fun c => hx (by omega), fun c => ⟨hv, inI_s (by omega) (by omega), fun c2 => hq (by omega) c2, fun c2 => hx (by omega)⟩⟩
theorem W8_needRange {Q : St → Prop} {X : String → St → Prop} {st : St} {v lo hi : Int} (hv : inI v) (h1 : inI lo) (h2 : inI hi) (hq : lo ≤ v → v ≤ hi → Q st) (hx : ¬ (lo ≤ v ∧ v ≤ hi) → X "java/lang/IllegalArgumentException" st) : f8_needRange Q X st v lo hi := by
  unfold f8_needRange f8_needRange_j10
  exact ⟨hv, h1, fun c => hx (by omega), fun c => ⟨hv, h2, fun c2 => hq (by omega) c2, fun c2 => hx (by omega)⟩⟩
theorem W8_needHead {A : Int → Int} {Q : St → Prop} {X : String → St → Prop} {st : St} {v : Int} (hA : VF A) (hB : BF st 0 A) (hv : inI v) (hq : -1 ≤ v → v ≤ lhA A → Q st) (hx : ¬ (-1 ≤ v ∧ v ≤ lhA A) → X "java/lang/IllegalArgumentException" st) : f8_needHead Q X st v := by
  have hb := lhA_b hA
  unfold f8_needHead
  exact W0_lastHead hA hB (W8_needRange hv (inI_s (by omega) (by omega)) (inI_s (by omega) (by omega)) hq hx)
/-- the class's state, between questions -/
def CR (st : St) (A : Int → Int) : Prop := VD A ∧ BF st 0 A ∧ LR st 0 A
theorem W8_reactionLine {A : Int → Int} {Q : Int → St → Prop} {X : String → St → Prop} {st : St} {a0 a1 : Int} (hR : CR st A) (h0 : inI a0) (h1 : inI a1)
    (hq : 0 ≤ a0 → a0 < A 2 → 0 ≤ a1 → a1 ≤ A 0 → Q (infA A a0 a1) st) (hx : ¬ ((0 ≤ a0 ∧ a0 < A 2) ∧ 0 ≤ a1 ∧ a1 ≤ A 0) → X "java/lang/IndexOutOfBoundsException" st) : f8_reactionLine Q X st a0 a1 := by
  obtain ⟨hA, hB, hL⟩ := hR
  unfold f8_reactionLine
  refine W8_needNumber hB.1.2.1 hB.1.2.2.2.1 h0 (fun c d => ?_) (fun c => hx (fun q => c q.1))
  refine W8_needPlace hB.1 hA.1.1 h1 (fun e f => ?_) (fun e => hx (fun q => e q.2))
  exact W3_at hA.1.1 hL h0 h1 (fun _ _ _ _ => hq c d e f) (fun q => absurd ⟨c, d, e, f⟩ q)
theorem W8_shearLine {A : Int → Int} {Q : Int → St → Prop} {X : String → St → Prop} {st : St} {a0 a1 : Int} (hR : CR st A) (h0 : inI a0) (h1 : inI a1)
    (hq : 0 ≤ a0 → a0 < A 0 → 0 ≤ a1 → a1 ≤ A 0 → ∀ s, F1 0 st s → Q (shB A a0 a1) s) (hx : ¬ ((0 ≤ a0 ∧ a0 < A 0) ∧ 0 ≤ a1 ∧ a1 ≤ A 0) → X "java/lang/IndexOutOfBoundsException" st) : f8_shearLine Q X st a0 a1 := by
  obtain ⟨hA, hB, hL⟩ := hR
  unfold f8_shearLine
  refine W8_needField hB.1 hA.1.1 h0 (fun c d => ?_) (fun c => hx (fun q => c q.1))
  refine W8_needPlace hB.1 hA.1.1 h1 (fun e f => ?_) (fun e => hx (fun q => e q.2))
  refine W1_underOne hA.1 hB.1 hL e f (fun s g r => ?_)
  exact W1_shearIn r hA.1.1 c (by omega) (hq c d e f s g)
theorem W8_influenceOnMoment {A : Int → Int} {Q : Int → St → Prop} {st : St} {a0 a1 : Int} (hR : CR st A) (h0 : 0 ≤ a0) (h1 : a0 ≤ A 0) (h2 : 0 ≤ a1) (h3 : a1 ≤ A 0)
    (hq : ∀ s, F1 0 st s → Q (mmB A a0 a1) s) : f8_influenceOnMoment Q st a0 a1 := by
  obtain ⟨hA, hB, hL⟩ := hR
  unfold f8_influenceOnMoment
  refine W1_underOne hA.1 hB.1 hL h2 h3 (fun s g r => ?_)
  exact W1_momentAt r hA.1.1 h0 h1 (hq s g)
theorem W8_momentLine {A : Int → Int} {Q : Int → St → Prop} {X : String → St → Prop} {st : St} {a0 a1 : Int} (hR : CR st A) (h0 : inI a0) (h1 : inI a1)
    (hq : 0 ≤ a0 → a0 ≤ A 0 → 0 ≤ a1 → a1 ≤ A 0 → ∀ s, F1 0 st s → Q (mmB A a0 a1) s) (hx : ¬ ((0 ≤ a0 ∧ a0 ≤ A 0) ∧ 0 ≤ a1 ∧ a1 ≤ A 0) → X "java/lang/IndexOutOfBoundsException" st) : f8_momentLine Q X st a0 a1 := by
  unfold f8_momentLine
  refine W8_needPlace hR.2.1.1 hR.1.1.1 h0 (fun c d => ?_) (fun c => hx (fun q => c q.1))
  refine W8_needPlace hR.2.1.1 hR.1.1.1 h1 (fun e f => ?_) (fun e => hx (fun q => e q.2))
  exact W8_influenceOnMoment hR c d e f (hq c d e f)
theorem W8_reaction {A : Int → Int} {Q : Int → St → Prop} {X : String → St → Prop} {st : St} {a0 a1 : Int} (hR : CR st A) (h0 : inI a0) (h1 : inI a1)
    (hq : 0 ≤ a0 ∧ a0 < A 2 → -1 ≤ a1 ∧ a1 ≤ lhA A → ∀ s, F1 0 st s → Q (TA A a1 (infA A a0)) s) (hx : ¬ (0 ≤ a0 ∧ a0 < A 2) → X "java/lang/IndexOutOfBoundsException" st) (hy : 0 ≤ a0 ∧ a0 < A 2 → ¬ (-1 ≤ a1 ∧ a1 ≤ lhA A) → X "java/lang/IllegalArgumentException" st) : f8_reaction Q X st a0 a1 := by
  obtain ⟨hA, hB, hL⟩ := hR
  have hb := lhA_b hA.1
  unfold f8_reaction
  refine W8_needNumber hB.1.2.1 hB.1.2.2.2.1 h0 (fun c d => ?_) hx
  refine W8_needHead hA.1 hB h1 (fun e f => ?_) (hy ⟨c, d⟩)
  refine W1_underAll hA.1 hB hL e (by omega) (fun s g r => ?_)
  exact W1_reactionOf r h0 hA.1.1 (by rw [if_pos ⟨c, d⟩]; exact hq ⟨c, d⟩ ⟨e, f⟩ s g)
theorem W8_shear {A : Int → Int} {Q : Int → St → Prop} {X : String → St → Prop} {st : St} {a0 a1 : Int} (hR : CR st A) (h0 : inI a0) (h1 : inI a1)
    (hq : 0 ≤ a0 ∧ a0 < A 0 → -1 ≤ a1 ∧ a1 ≤ lhA A → ∀ s, F1 0 st s → Q (TA A a1 (shB A a0)) s) (hx : ¬ (0 ≤ a0 ∧ a0 < A 0) → X "java/lang/IndexOutOfBoundsException" st) (hy : 0 ≤ a0 ∧ a0 < A 0 → ¬ (-1 ≤ a1 ∧ a1 ≤ lhA A) → X "java/lang/IllegalArgumentException" st) : f8_shear Q X st a0 a1 := by
  obtain ⟨hA, hB, hL⟩ := hR
  have hb := lhA_b hA.1
  unfold f8_shear
  refine W8_needField hB.1 hA.1.1 h0 (fun c d => ?_) hx
  refine W8_needHead hA.1 hB h1 (fun e f => ?_) (hy ⟨c, d⟩)
  refine W1_underAll hA.1 hB hL e (by omega) (fun s g r => ?_)
  exact W1_shearIn r hA.1.1 c (by omega) (hq ⟨c, d⟩ ⟨e, f⟩ s g)
theorem W8_moment {A : Int → Int} {Q : Int → St → Prop} {X : String → St → Prop} {st : St} {a0 a1 : Int} (hR : CR st A) (h0 : inI a0) (h1 : inI a1)
    (hq : 0 ≤ a0 ∧ a0 ≤ A 0 → -1 ≤ a1 ∧ a1 ≤ lhA A → ∀ s, F1 0 st s → Q (TA A a1 (mmB A a0)) s) (hx : ¬ (0 ≤ a0 ∧ a0 ≤ A 0) → X "java/lang/IndexOutOfBoundsException" st) (hy : 0 ≤ a0 ∧ a0 ≤ A 0 → ¬ (-1 ≤ a1 ∧ a1 ≤ lhA A) → X "java/lang/IllegalArgumentException" st) : f8_moment Q X st a0 a1 := by
  obtain ⟨hA, hB, hL⟩ := hR
  have hb := lhA_b hA.1
  unfold f8_moment
  refine W8_needPlace hB.1 hA.1.1 h0 (fun c d => ?_) hx
  refine W8_needHead hA.1 hB h1 (fun e f => ?_) (hy ⟨c, d⟩)
  refine W1_underAll hA.1 hB hL e (by omega) (fun s g r => ?_)
  exact W1_momentAt r hA.1.1 c d (hq ⟨c, d⟩ ⟨e, f⟩ s g)
theorem W8_worstForReaction {A : Int → Int} {Q : Int → St → Prop} {X : String → St → Prop} {st : St} {a0 a1 : Int} (hR : CR st A) (h0 : inI a0) (h1 : inI a1)
    (hq : 0 ≤ a0 ∧ a0 < A 2 → ∀ s, F1 0 st s → Q (wsA A 0 a0 a1) s) (hx : ¬ (0 ≤ a0 ∧ a0 < A 2) → X "java/lang/IndexOutOfBoundsException" st) : f8_worstForReaction Q X st a0 a1 := by
  obtain ⟨hA, hB, hL⟩ := hR
  unfold f8_worstForReaction
  refine W8_needNumber hB.1.2.1 hB.1.2.2.2.1 h0 (fun c d => ?_) hx
  exact W8_worstHead hA.1 hB hL (by omega) (by omega) c (fun _ => by omega) (fun _ => by omega) h1 (hq ⟨c, d⟩)
theorem W8_worstForShear {A : Int → Int} {Q : Int → St → Prop} {X : String → St → Prop} {st : St} {a0 a1 : Int} (hR : CR st A) (h0 : inI a0) (h1 : inI a1)
    (hq : 0 ≤ a0 ∧ a0 < A 0 → ∀ s, F1 0 st s → Q (wsA A 1 a0 a1) s) (hx : ¬ (0 ≤ a0 ∧ a0 < A 0) → X "java/lang/IndexOutOfBoundsException" st) : f8_worstForShear Q X st a0 a1 := by
  obtain ⟨hA, hB, hL⟩ := hR
  unfold f8_worstForShear
  refine W8_needField hB.1 hA.1.1 h0 (fun c d => ?_) hx
  exact W8_worstHead hA.1 hB hL (by omega) (by omega) c (fun _ => by omega) (fun _ => by omega) h1 (hq ⟨c, d⟩)
theorem W8_worstForMoment {A : Int → Int} {Q : Int → St → Prop} {X : String → St → Prop} {st : St} {a0 a1 : Int} (hR : CR st A) (h0 : inI a0) (h1 : inI a1)
    (hq : 0 ≤ a0 ∧ a0 ≤ A 0 → ∀ s, F1 0 st s → Q (wsA A 2 a0 a1) s) (hx : ¬ (0 ≤ a0 ∧ a0 ≤ A 0) → X "java/lang/IndexOutOfBoundsException" st) : f8_worstForMoment Q X st a0 a1 := by
  obtain ⟨hA, hB, hL⟩ := hR
  unfold f8_worstForMoment
  refine W8_needPlace hB.1 hA.1.1 h0 (fun c d => ?_) hx
  exact W8_worstHead hA.1 hB hL (by omega) (by omega) c (fun _ => by omega) (fun _ => by omega) h1 (hq ⟨c, d⟩)
theorem W8_danger {A : Int → Int} {Q : Int → St → Prop} {X : String → St → Prop} {st : St} {a0 : Int} (hR : CR st A) (h0 : inI a0)
    (hq : -1 ≤ a0 ∧ a0 ≤ lhA A → ∀ s, F1 0 st s → Q (dngA A a0) s) (hx : ¬ (-1 ≤ a0 ∧ a0 ≤ lhA A) → X "java/lang/IllegalArgumentException" st) : f8_danger Q X st a0 := by
  obtain ⟨hA, hB, hL⟩ := hR
  have hb := lhA_b hA.1
  unfold f8_danger
  refine W8_needHead hA.1 hB h0 (fun e f => ?_) hx
  exact W8_reasonWithHead hA hB hL e (by omega) (hq ⟨e, f⟩)
