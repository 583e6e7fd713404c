/-! area, still, gap -/
def arA (A : Int → Int) (m : Int) : Int := smE (fun x => mmB A m x) (A 0 + 1).toNat
def stN (A : Int → Int) (m : Int) : Nat → Int
  | 0 => 0
  | k + 1 => if mmB A m k = 0 then ior (stN A m k) (ishl 1 k) else stN A m k
def stA (A : Int → Int) (m : Int) : Int := stN A m (A 0 + 1).toNat
theorem ior_I (a b : Int) : inI (ior a b) := inI_toInt _
theorem ior_z {a : Int} (h : inI a) : ior a 0 = a := by
  unfold ior
  rw [show iI 0 = 0 from rfl, Int32.or_zero, iI_toInt h]
theorem stN_I (A : Int → Int) (m : Int) : ∀ k, inI (stN A m k) := by
  intro k
  induction k with
  | zero => exact inI_0
  | succ k ih =>
    unfold stN
    split
    · exact ior_I _ _
    · exact ih
theorem W9_area {Q : Int → St → Prop} {st : St} {a0 : Int} (hM : MR st) (h0 : inI a0)
    (hq : 0 ≤ a0 → a0 ≤ aM st 0 → ∀ s, FQ st s → s 9 6 0 0 = 0 → Q (arA (aM st) a0) s)
    (hx : ¬ (0 ≤ a0 ∧ a0 ≤ aM st 0) → ∀ s, FQ st s → s 9 6 0 0 = 1 → Q 0 s) : f9_area Q st a0 := by
  have hC := hM.1.1.1
  have l2 : 2 ≤ st 30 0 0 0 := hC.1
  have l3 : st 30 0 0 0 ≤ 30 := hC.2.1
  unfold f9_area
  refine W9_isPlace hC h0 ?_
  by_cases c : 0 ≤ a0 ∧ a0 ≤ st 30 0 0 0
  · rw [if_pos c]
    refine ⟨inI_1, fun e => absurd e (by omega), fun _ => ?_⟩
    unfold f9_area_j14
    refine gate (by omega) (by omega) (fun _ => ?_) (fun e => absurd e (by omega))
    refine W9_lays2 hM (fun s f e6 hl eA => ?_)
    have e0 : s 30 0 0 0 = st 30 0 0 0 := congrFun eA 0
    have hCs : VC (aM s) := by rw [eA]; exact hC
    have L : ∀ (m : Nat) (v : Int), 0 ≤ v → v ≤ s 30 0 0 0 + 1 → s 30 0 0 0 + 1 - v < m → f9_area_l35 Q a0 m s (smE (fun x => mmB (aM s) a0 x) v.toNat) v := by
      intro m
      induction m with
      | zero => intro v a1 a2 a3; omega
      | succ m ih =>
        intro v a1 a2 a3
        unfold f9_area_l35 f9_places
        refine ⟨inI_s (by omega) (by omega), inI_s (by omega) (by omega), fun c1 => ?_, fun c1 => ?_⟩
        · have hv : v = st 30 0 0 0 + 1 := by omega
          rw [hv, eA]
          exact hq c.1 c.2 s f e6
        · have nx := ih (v + 1) (by omega) (by omega) (by omega)
          rw [smE_S _ a1] at nx
          refine W9_momentBy hCs hl (by omega) (by omega) a1 (by omega) ?_
          rintro _ rfl _ rfl
          exact nx
    exact ⟨100, L 100 0 (by omega) (by omega) (by omega)⟩
  · rw [if_neg c]
    refine ⟨inI_0, fun _ => ?_, fun e => absurd rfl e⟩
    unfold f9_area_j14
    exact gate (by omega) (by omega) (fun e => absurd e (by omega)) (fun _ => hx c _ (FQ.up6 hM.2.2) (by rw [up_eq, if_pos ⟨rfl, rfl, rfl, rfl⟩]))
theorem W9_still {Q : Int → St → Prop} {st : St} {a0 : Int} (hM : MR st) (h0 : inI a0)
    (hq : 0 ≤ a0 → a0 ≤ aM st 0 → ∀ s, FQ st s → s 9 6 0 0 = 0 → Q (stA (aM st) a0) s)
    (hx : ¬ (0 ≤ a0 ∧ a0 ≤ aM st 0) → ∀ s, FQ st s → s 9 6 0 0 = 1 → Q 0 s) : f9_still Q st a0 := by
  have hC := hM.1.1.1
  have l2 : 2 ≤ st 30 0 0 0 := hC.1
  have l3 : st 30 0 0 0 ≤ 30 := hC.2.1
  unfold f9_still
  refine W9_isPlace hC h0 ?_
  by_cases c : 0 ≤ a0 ∧ a0 ≤ st 30 0 0 0
  · rw [if_pos c]
    refine ⟨inI_1, fun e => absurd e (by omega), fun _ => ?_⟩
    unfold f9_still_j14
    refine gate (by omega) (by omega) (fun _ => ?_) (fun e => absurd e (by omega))
    refine W9_lays2 hM (fun s f e6 hl eA => ?_)
    have e0 : s 30 0 0 0 = st 30 0 0 0 := congrFun eA 0
    have hCs : VC (aM s) := by rw [eA]; exact hC
    have L : ∀ (m : Nat) (v : Int), 0 ≤ v → v ≤ s 30 0 0 0 + 1 → s 30 0 0 0 + 1 - v < m → f9_still_l34 Q a0 m s (stN (aM s) a0 v.toNat) v := by
      intro m
      induction m with
      | zero => intro v a1 a2 a3; omega
      | succ m ih =>
        intro v a1 a2 a3
        unfold f9_still_l34 f9_places
        refine ⟨inI_s (by omega) (by omega), inI_s (by omega) (by omega), fun c1 => ?_, fun c1 => ?_⟩
        · have hv : v = st 30 0 0 0 + 1 := by omega
          rw [hv, eA]
          exact hq c.1 c.2 s f e6
        · have nx := ih (v + 1) (by omega) (by omega) (by omega)
          rw [show (v + 1).toNat = v.toNat + 1 by omega] at nx
          unfold stN at nx
          rw [show ((v.toNat : Nat) : Int) = v by omega] at nx
          have hmb := mmB_b hCs (m := a0) (x := v) c.1 (by omega) a1 (by omega)
          refine W9_momentBy hCs hl (by omega) (by omega) a1 (by omega) ⟨inL_s (by omega) (by omega), fun z => ?_, fun z => ?_⟩
          · unfold f9_still_j61
            rintro _ rfl _ rfl
            rw [if_pos z] at nx
            exact nx
          · unfold f9_still_j61
            rintro _ rfl _ rfl
            rw [if_neg z] at nx
            rw [ior_z (stN_I _ _ _)]
            exact nx
    exact ⟨100, L 100 0 (by omega) (by omega) (by omega)⟩
  · rw [if_neg c]
    refine ⟨inI_0, fun _ => ?_, fun e => absurd rfl e⟩
    unfold f9_still_j14
    exact gate (by omega) (by omega) (fun e => absurd e (by omega)) (fun _ => hx c _ (FQ.up6 hM.2.2) (by rw [up_eq, if_pos ⟨rfl, rfl, rfl, rfl⟩]))
theorem CR.f1 {st s : St} {A : Int → Int} (h : CR st A) (f : F1 0 st s) : CR s A := ⟨h.1, h.2.1.f1 f, h.2.2.f1 f⟩
theorem W8_area {A : Int → Int} {Q : Int → St → Prop} {X : String → St → Prop} {st : St} {a0 : Int} (hR : CR st A) (h0 : inI a0)
    (hq : 0 ≤ a0 → a0 ≤ A 0 → ∀ s, F1 0 st s → Q (arA A a0) s) (hx : ¬ (0 ≤ a0 ∧ a0 ≤ A 0) → X "java/lang/IndexOutOfBoundsException" st) : f8_area Q X st a0 := by
  have hC := hR.1.1.1
  have l2 := hC.1
  have l3 := hC.2.1
  unfold f8_area
  refine W8_needPlace hR.2.1.1 hC h0 (fun c d => ?_) hx
  have L : ∀ (m : Nat) (v : Int) (s : St), F1 0 st s → 0 ≤ v → v ≤ A 0 + 1 → A 0 + 1 - v < m → f8_area_l10 Q X a0 m s (smE (fun x => mmB A a0 x) v.toNat) v := by
    intro m
    induction m with
    | zero => intro v s f a1 a2 a3; omega
    | succ m ih =>
      intro v s f a1 a2 a3
      unfold f8_area_l10
      rw [(hR.f1 f).2.1.1.1]
      refine ⟨inI_s (by omega) (by omega), inI_s (by omega) (by omega), fun c1 => ?_, fun c1 => ?_⟩
      · have hv : v = A 0 + 1 := by omega
        rw [hv]
        exact hq c d s f
      · refine W8_influenceOnMoment (hR.f1 f) c d a1 (by omega) (fun s' f' => ?_)
        have nx := ih (v + 1) s' (f.trans f') (by omega) (by omega) (by omega)
        rw [smE_S _ a1] at nx
        rintro _ rfl _ rfl
        exact nx
  exact ⟨100, L 100 0 st F1.rf (by omega) (by omega) (by omega)⟩
theorem W8_still {A : Int → Int} {Q : Int → St → Prop} {X : String → St → Prop} {st : St} {a0 : Int} (hR : CR st A) (h0 : inI a0)
    (hq : 0 ≤ a0 → a0 ≤ A 0 → ∀ s, F1 0 st s → Q (stA A a0) s) (hx : ¬ (0 ≤ a0 ∧ a0 ≤ A 0) → X "java/lang/IndexOutOfBoundsException" st) : f8_still Q X st a0 := by
  have hC := hR.1.1.1
  have l2 := hC.1
  have l3 := hC.2.1
  unfold f8_still
  refine W8_needPlace hR.2.1.1 hC h0 (fun c d => ?_) hx
  have L : ∀ (m : Nat) (v : Int) (s : St), F1 0 st s → 0 ≤ v → v ≤ A 0 + 1 → A 0 + 1 - v < m → f8_still_l9 Q X a0 m s (stN A a0 v.toNat) v := by
    intro m
    induction m with
    | zero => intro v s f a1 a2 a3; omega
    | succ m ih =>
      intro v s f a1 a2 a3
      unfold f8_still_l9
      rw [(hR.f1 f).2.1.1.1]
      refine ⟨inI_s (by omega) (by omega), inI_s (by omega) (by omega), fun c1 => ?_, fun c1 => ?_⟩
      · have hv : v = A 0 + 1 := by omega
        rw [hv]
        exact hq c d s f
      · refine W8_influenceOnMoment (hR.f1 f) c d a1 (by omega) (fun s' f' => ?_)
        have nx := ih (v + 1) s' (f.trans f') (by omega) (by omega) (by omega)
        rw [show (v + 1).toNat = v.toNat + 1 by omega] at nx
        unfold stN at nx
        rw [show ((v.toNat : Nat) : Int) = v by omega] at nx
        have hmb := mmB_b hC (m := a0) (x := v) c (by omega) a1 (by omega)
        refine ⟨inL_s (by omega) (by omega), fun z => ?_, fun z => ?_⟩
        · rintro _ rfl
          unfold f8_still_j37
          rintro _ rfl
          rw [if_pos z] at nx
          exact nx
        · unfold f8_still_j37
          rintro _ rfl
          rw [if_neg z] at nx
          exact nx
  exact ⟨100, L 100 0 st F1.rf (by omega) (by omega) (by omega)⟩
