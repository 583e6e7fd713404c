/-! the strongest axle, the class's side -/
theorem dngA_iff {C : Int → Int} {head : Int} : dngA C head = 0 ↔ ((∀ k, 0 ≤ k → k < C 2 → 0 ≤ TA C head (infA C k)) ∧ (∀ i, 0 ≤ i → i < C 2 → ¬ (¬ C (6 + 2 * i + 1) = -1 ∧ C (6 + 2 * i + 1) * unitA C < TA C head (infA C i))) ∧ ∀ m, 0 ≤ m → m ≤ C 0 → ¬ C 1 * unitA C < iabs (TA C head (mmB C m))) := by
  constructor
  · intro h
    have h1 : ∀ k, 0 ≤ k → k < C 2 → 0 ≤ TA C head (infA C k) := fun k k0 k1 => by
      by_cases c : TA C head (infA C k) < 0
      · have := dngA_1 k0 k1 c; omega
      · omega
    have h2 : ∀ i, 0 ≤ i → i < C 2 → ¬ (¬ C (6 + 2 * i + 1) = -1 ∧ C (6 + 2 * i + 1) * unitA C < TA C head (infA C i)) := fun i i0 i1 c => by
      have := dngA_2 h1 i0 i1 c
      omega
    refine ⟨h1, h2, fun m m0 m1 c => ?_⟩
    have := dngA_3 h1 h2 m0 m1 c
    omega
  · intro h
    exact dngA_0 h.1 h.2.1 h.2.2
def tfA (R c : Int) : Int := if 0 < c then Int.tdiv R c else 999
theorem tfA_le {R c w : Int} (hR : 0 ≤ R) (w0 : 0 ≤ w) (w1 : w ≤ 999) : w ≤ tfA R c ↔ w * c ≤ R := by
  unfold tfA
  by_cases h : 0 < c
  · rw [if_pos h, Int.tdiv_eq_ediv_of_nonneg hR]
    exact Int.le_ediv_iff_mul_le h
  · rw [if_neg h]
    refine ⟨fun _ => ?_, fun _ => w1⟩
    have := Int.mul_nonneg w0 (show 0 ≤ -c by omega)
    rw [Int.mul_neg] at this
    omega
theorem tfA_b {R c : Int} (hR : 0 ≤ R) : 0 ≤ tfA R c ∧ tfA R c ≤ R + 999 := by
  unfold tfA
  by_cases h : 0 < c
  · rw [if_pos h]
    have h1 := Int.tdiv_nonneg hR (show 0 ≤ c by omega)
    have h2 := tdiv_B (d := c) (show -R ≤ R by omega) (Int.le_refl R)
    omega
  · rw [if_neg h]
    omega
theorem imin_le {a b w : Int} : w ≤ imin a b ↔ w ≤ a ∧ w ≤ b := by
  unfold imin
  split <;> omega
theorem imin_b {a b : Int} (h : 0 ≤ a) (h2 : 0 ≤ b) : 0 ≤ imin a b ∧ imin a b ≤ a := by
  unfold imin
  split <;> omega
theorem W8_tf {Q : Int → St → Prop} {st : St} {R c : Int} (hR : inL R) (hc : inL c) (h : Q (tfA R c) st) : f8_timesThatFit Q st R c := by
  unfold f8_timesThatFit
  unfold tfA at h
  refine ⟨hc, fun d => ?_, fun d => ?_⟩
  · rw [if_pos d] at h
    exact ⟨hR, hc, by omega, h⟩
  · rwa [if_neg d] at h
/-- the conditions of one weight w at x, at the support i, at the place m -/
def cS (A : Int → Int) (x i w : Int) : Prop := w * (- infA A i x) ≤ TA A (-1) (infA A i) ∧ (¬ A (6 + 2 * i + 1) = -1 → w * infA A i x ≤ unitA A * A (6 + 2 * i + 1) - TA A (-1) (infA A i))
def cM (A : Int → Int) (x m w : Int) : Prop := w * mmB A m x ≤ unitA A * A 1 - TA A (-1) (mmB A m) ∧ w * (- mmB A m x) ≤ unitA A * A 1 + TA A (-1) (mmB A m)
theorem still_S {A : Int → Int} (hd : dngA A (-1) = 0) {i : Int} (i0 : 0 ≤ i) (i1 : i < A 2) : 0 ≤ TA A (-1) (infA A i) ∧ (¬ A (6 + 2 * i + 1) = -1 → 0 ≤ unitA A * A (6 + 2 * i + 1) - TA A (-1) (infA A i)) := by
  have h := dngA_iff.1 hd
  refine ⟨h.1 i i0 i1, fun c => ?_⟩
  have := h.2.1 i i0 i1
  have e : ¬ A (6 + 2 * i + 1) * unitA A < TA A (-1) (infA A i) := fun z => this ⟨c, z⟩
  rw [Int.mul_comm] at e
  omega
theorem still_M {A : Int → Int} (hd : dngA A (-1) = 0) {m : Int} (m0 : 0 ≤ m) (m1 : m ≤ A 0) : 0 ≤ unitA A * A 1 - TA A (-1) (mmB A m) ∧ 0 ≤ unitA A * A 1 + TA A (-1) (mmB A m) := by
  have h := (dngA_iff.1 hd).2.2 m m0 m1
  rw [Int.mul_comm] at h
  unfold iabs at h
  split at h <;> omega
theorem FR.fr {st st' : St} {o : Int} {A : Int → Int} {T : (Int → Int) → Int} (h : FR st o A T) (hf : ∀ K s j, K = 13 ∨ K = 14 ∨ K = 15 → st' K s o j = st K s o j) : FR st' o A T := ⟨fun k k0 k1 => (hf 13 0 k (by omega)).trans (h.1 k k0 k1), fun x x0 x1 => ⟨(hf 14 0 x (by omega)).trans (h.2 x x0 x1).1, (hf 15 0 x (by omega)).trans (h.2 x x0 x1).2⟩⟩
theorem W8_supportsBear {A : Int → Int} {Q : Int → St → Prop} {st : St} {x : Int} (hV : VD A) (hB : BF st 0 A) (hL : LR st 0 A) (h1 : FR st 1 A (TA A (-1))) (h0 : FR st 0 A (fun f => f x)) (x0 : 0 ≤ x) (x1 : x ≤ A 0) (hd : dngA A (-1) = 0)
    (hq : ∀ v, 0 ≤ v → v ≤ 999 → (∀ w, 0 ≤ w → w ≤ 999 → (w ≤ v ↔ ∀ i, 0 ≤ i → i < A 2 → cS A x i w)) → Q v st) : f8_weightThatSupportsBear Q st := by
  have hF := hV.1
  have hC := hF.1
  have n2 := hC.2.2.1
  have n5 := hC.2.2.2.1
  have l3 := hC.2.1
  have hu := unitA_b hC
  have L : ∀ (m : Nat) (v1 v3 : Int), 0 ≤ v3 → v3 ≤ A 2 → 0 ≤ v1 → v1 ≤ 999 → (∀ w, 0 ≤ w → w ≤ 999 → (w ≤ v1 ↔ ∀ i, 0 ≤ i → i < v3 → cS A x i w)) → A 2 - v3 < m → f8_weightThatSupportsBear_l6 Q m st v1 v3 := by
    intro m
    induction m with
    | zero => intro v1 v3 a1 a2 a3 a4 a5 a6; omega
    | succ m ih =>
      intro v1 v3 a1 a2 a3 a4 a5 a6
      unfold f8_weightThatSupportsBear_l6
      rw [hB.1.2.2.2.1]
      refine ⟨inI_s (by omega) (by omega), inI_s (by omega) (by omega), fun c => ?_, fun c => ?_⟩
      · exact hq v1 a3 a4 (fun w w0 w1 => (a5 w w0 w1).trans ⟨fun k i i0 i1 => k i i0 (by omega), fun k i i0 i1 => k i i0 (by omega)⟩)
      · have hi : 0 ≤ v3 ∧ v3 < A 2 := ⟨a1, by omega⟩
        have ii : inI v3 := inI_s (by omega) (by omega)
        have bT := TAi_b hF (-1) v3
        have bI := infA_b hC v3 x0 (show x ≤ 30 by omega)
        have st1 := still_S hd hi.1 hi.2
        refine W1_reactionOf h1 ii hC ?_
        rw [if_pos hi]
        refine W1_reactionOf h0 ii hC ?_
        rw [if_pos hi]
        have t1 := tfA_b (c := - infA A v3 x) st1.1
        refine W8_tf (inL_s (by omega) (by omega)) (inL_s (by omega) (by omega)) ⟨inL_s (by omega) (by omega), inL_s (by omega) (by omega), ?_⟩
        rintro _ rfl
        have m1 := imin_b a3 t1.1
        refine W6_second hB.1.2.1 ii (fun _ _ => ?_) (fun q => absurd ⟨a1, by rw [hB.1.2.2.2.1]; omega⟩ q)
        have eb := hB.2.2.2.2.2.2.1 v3 a1 hi.2
        have bb := hV.2.2 v3 a1 hi.2
        rw [eb]
        refine ⟨inI_s (by omega) (by omega), fun d => ?_, fun d => ⟨inI_s (by omega) (by omega), ?_⟩⟩
        · unfold f8_weightThatSupportsBear_j96
          rintro _ rfl
          refine ih _ (v3 + 1) (by omega) (by omega) (by omega) (by omega) (fun w w0 w1 => ?_) (by omega)
          rw [imin_le, a5 w w0 w1, tfA_le st1.1 w0 w1]
          refine ⟨fun k i i0 i1 => ?_, fun k => ⟨fun i i0 i1 => k i i0 (by omega), (k v3 a1 (by omega)).1⟩⟩
          by_cases e : i = v3
          · rw [e]; exact ⟨k.2, fun z => absurd d z⟩
          · exact k.1 i i0 (by omega)
        · rw [hL.2.2.1]
          have st2 := st1.2 d
          have bm := mulB hu.1 hu.2 (show -99999 ≤ A (6 + 2 * v3 + 1) by omega) bb.2
          have t2 := tfA_b (c := infA A v3 x) st2
          have m2 := imin_b m1.1 t2.1
          refine W8_tf (inL_s (by omega) (by omega)) (inL_s (by omega) (by omega)) ⟨inL_s (by omega) (by omega), inL_s (by omega) (by omega), ?_⟩
          rintro _ rfl
          unfold f8_weightThatSupportsBear_j96
          rintro _ rfl
          refine ih _ (v3 + 1) (by omega) (by omega) (by omega) (by omega) (fun w w0 w1 => ?_) (by omega)
          rw [imin_le, imin_le, a5 w w0 w1, tfA_le st1.1 w0 w1, tfA_le st2 w0 w1]
          refine ⟨fun k i i0 i1 => ?_, fun k => ⟨⟨fun i i0 i1 => k i i0 (by omega), (k v3 a1 (by omega)).1⟩, (k v3 a1 (by omega)).2 d⟩⟩
          by_cases e : i = v3
          · rw [e]; exact ⟨k.1.2, fun _ => k.2⟩
          · exact k.1.1 i i0 (by omega)
  unfold f8_weightThatSupportsBear
  exact ⟨100, L 100 999 0 (by omega) (by omega) (by omega) (by omega) (fun w w0 w1 => ⟨fun _ i i0 i1 => absurd i0 (by omega), fun _ => w1⟩) (by omega)⟩
theorem W8_momentsAllow {A : Int → Int} {Q : Int → St → Prop} {st : St} {x : Int} (hV : VD A) (hB : BF st 0 A) (hL : LR st 0 A) (h1 : FR st 1 A (TA A (-1))) (h0 : FR st 0 A (fun f => f x)) (x0 : 0 ≤ x) (x1 : x ≤ A 0) (hd : dngA A (-1) = 0)
    (hq : ∀ v, 0 ≤ v → v ≤ 999 → (∀ w, 0 ≤ w → w ≤ 999 → (w ≤ v ↔ ∀ m, 0 ≤ m → m ≤ A 0 → cM A x m w)) → Q v st) : f8_weightThatMomentsAllow Q st := by
  have hF := hV.1
  have hC := hF.1
  have l2 := hC.1
  have l3 := hC.2.1
  have hu := unitA_b hC
  have b1 := hV.2.1
  have bm := mulB hu.1 hu.2 (show -999999 ≤ A 1 by omega) b1.2
  have L : ∀ (m : Nat) (v1 v3 : Int), 0 ≤ v3 → v3 ≤ A 0 + 1 → 0 ≤ v1 → v1 ≤ 999 → (∀ w, 0 ≤ w → w ≤ 999 → (w ≤ v1 ↔ ∀ i, 0 ≤ i → i < v3 → cM A x i w)) → A 0 + 1 - v3 < m → f8_weightThatMomentsAllow_l24 Q (unitA A * A 1) m st v1 v3 := by
    intro m
    induction m with
    | zero => intro v1 v3 a1 a2 a3 a4 a5 a6; omega
    | succ m ih =>
      intro v1 v3 a1 a2 a3 a4 a5 a6
      unfold f8_weightThatMomentsAllow_l24
      rw [hB.1.1]
      refine ⟨inI_s (by omega) (by omega), inI_s (by omega) (by omega), fun c => ?_, fun c => ?_⟩
      · exact hq v1 a3 a4 (fun w w0 w1 => (a5 w w0 w1).trans ⟨fun k i i0 i1 => k i i0 (by omega), fun k i i0 i1 => k i i0 (by omega)⟩)
      · have bT := TAm_b hF (-1) a1 (show v3 ≤ 30 by omega)
        have bI := mmB_b hC a1 (show v3 ≤ 30 by omega) x0 (show x ≤ 30 by omega)
        have st1 := still_M hd a1 (show v3 ≤ A 0 by omega)
        refine W1_momentAt h1 hC a1 (by omega) ?_
        refine W1_momentAt h0 hC a1 (by omega) ?_
        have t1 := tfA_b (c := mmB A v3 x) st1.1
        have m1 := imin_b a3 t1.1
        refine W8_tf (inL_s (by omega) (by omega)) (inL_s (by omega) (by omega)) ⟨inL_s (by omega) (by omega), inL_s (by omega) (by omega), ?_⟩
        rintro _ rfl
        have t2 := tfA_b (c := - mmB A v3 x) st1.2
        have m2 := imin_b m1.1 t2.1
        refine W8_tf (inL_s (by omega) (by omega)) (inL_s (by omega) (by omega)) ⟨inL_s (by omega) (by omega), inL_s (by omega) (by omega), ?_⟩
        rintro _ rfl _ rfl
        refine ih _ (v3 + 1) (by omega) (by omega) (by omega) (by omega) (fun w w0 w1 => ?_) (by omega)
        rw [imin_le, imin_le, a5 w w0 w1, tfA_le st1.1 w0 w1, tfA_le st1.2 w0 w1]
        refine ⟨fun k i i0 i1 => ?_, fun k => ⟨⟨fun i i0 i1 => k i i0 (by omega), (k v3 a1 (by omega)).1⟩, (k v3 a1 (by omega)).2⟩⟩
        by_cases e : i = v3
        · rw [e]; exact ⟨k.1.2, k.2⟩
        · exact k.1.1 i i0 (by omega)
  unfold f8_weightThatMomentsAllow
  rw [hB.2.1, hL.2.2.1]
  refine ⟨inI_s (by omega) (by omega), ?_⟩
  rintro _ rfl
  exact ⟨100, L 100 999 0 (by omega) (by omega) (by omega) (by omega) (fun w w0 w1 => ⟨fun _ i i0 i1 => absurd i0 (by omega), fun _ => w1⟩) (by omega)⟩
/-- a weight w does nowhere harm -/
def okW (A : Int → Int) (x w : Int) : Prop := (∀ i, 0 ≤ i → i < A 2 → cS A x i w) ∧ ∀ m, 0 ≤ m → m ≤ A 0 → cM A x m w
def strP (A : Int → Int) (v : Int) : Prop := (¬ dngA A (-1) = 0 → v = 0) ∧ (dngA A (-1) = 0 → 0 ≤ v ∧ v ≤ 999 ∧ ∀ w, 0 ≤ w → w ≤ 999 → (w ≤ v ↔ ∀ x, 0 ≤ x → x ≤ A 0 → okW A x w))
theorem strP_1 {A : Int → Int} {u v : Int} (hu : strP A u) (hv : strP A v) : u = v := by
  by_cases d : dngA A (-1) = 0
  · obtain ⟨u0, u1, ue⟩ := hu.2 d
    obtain ⟨v0, v1, ve⟩ := hv.2 d
    have h1 : u ≤ v := (ve u u0 u1).2 ((ue u u0 u1).1 (Int.le_refl u))
    have h2 : v ≤ u := (ue v v0 v1).2 ((ve v v0 v1).1 (Int.le_refl v))
    omega
  · rw [hu.1 d, hv.1 d]
/-- only forces have changed -/
def FP (st st' : St) : Prop := ∀ K s i j, ¬ (K = 12 ∨ K = 13 ∨ K = 14 ∨ K = 15 ∨ K = 1) → st' K s i j = st K s i j
theorem FP.fc {a b : St} (h : FP a b) : FC a b := fun K s i j hK => h K s i j (by omega)
theorem CS.fp {st st' : St} {A : Int → Int} {n : Int} {B : Int → Int → Int} {F : Int → Int} {S : Int → Int → Int} (h : CS st A n B F S) (hf : FP st st') : CS st' A n B F S := h.fr (fun K s i j hK => hf K s i j (by omega))
theorem F1.fp {o : Int} {a b : St} (h : F1 o a b) : FP a b := fun K s i j hK => h K s i j (by omega)
theorem FP.trans {a b c : St} (h : FP a b) (g : FP b c) : FP a c := fun K s i j hK => (g K s i j hK).trans (h K s i j hK)
theorem W8_strongest {A : Int → Int} {Q : Int → St → Prop} {st : St} (hV : VD A) (hB : BF st 0 A) (hL : LR st 0 A) (hq : ∀ v, strP A v → ∀ s, FP st s → Q v s) : f8_strongest Q st := by
  have hF := hV.1
  have hC := hF.1
  have l2 := hC.1
  have l3 := hC.2.1
  unfold f8_strongest
  refine W1_underAll hF hB hL (by omega) (by omega) (fun s1 f1 r1 => ?_)
  refine W1_firstReason hV (hB.f1 f1) (hL.f1 f1) r1 ?_
  have hd := dngA_b A (-1)
  refine ⟨inI_s (by omega) (by omega), fun d => ?_, fun d => hq 0 ⟨fun _ => rfl, fun e => absurd e d⟩ s1 f1.fp⟩
  have L : ∀ (m : Nat) (v1 v3 : Int) (s : St), 0 ≤ v3 → v3 ≤ A 0 + 1 → 0 ≤ v1 → v1 ≤ 999 → (∀ w, 0 ≤ w → w ≤ 999 → (w ≤ v1 ↔ ∀ x, 0 ≤ x → x < v3 → okW A x w)) → FP st s → FR s 1 A (TA A (-1)) → BF s 0 A → LR s 0 A → A 0 + 1 - v3 < m → f8_strongest_l42 Q m s v1 v3 := by
    intro m
    induction m with
    | zero => intro v1 v3 s a1 a2 a3 a4 a5 a6 a7 a8 a9 b1; omega
    | succ m ih =>
      intro v1 v3 s a1 a2 a3 a4 a5 a6 a7 a8 a9 b1
      unfold f8_strongest_l42
      rw [a8.1.1]
      refine ⟨inI_s (by omega) (by omega), inI_s (by omega) (by omega), fun c => ?_, fun c => ?_⟩
      · exact hq v1 ⟨fun e => absurd d e, fun _ => ⟨a3, a4, fun w w0 w1 => (a5 w w0 w1).trans ⟨fun k i i0 i1 => k i i0 (by omega), fun k i i0 i1 => k i i0 (by omega)⟩⟩⟩ s a6
      · refine W1_underOne hF a8.1 a9 a1 (by omega) (fun s2 f2 r2 => ?_)
        have r3 : FR s2 1 A (TA A (-1)) := a7.fr (fun K s' j hK => f2 K s' 1 j (by omega))
        have B2 := a8.f1 f2
        have L2 := a9.f1 f2
        refine W8_supportsBear hV B2 L2 r3 r2 a1 (by omega) d (fun u u0 u1 ue => ⟨inL_s (by omega) (by omega), inL_s (by omega) (by omega), ?_⟩)
        rintro _ rfl
        have m1 := imin_b a3 u0
        refine W8_momentsAllow hV B2 L2 r3 r2 a1 (by omega) d (fun t t0 t1 te => ⟨inL_s (by omega) (by omega), inL_s (by omega) (by omega), ?_⟩)
        rintro _ rfl _ rfl
        have m2 := imin_b m1.1 t0
        refine ih _ (v3 + 1) s2 (by omega) (by omega) (by omega) (by omega) (fun w w0 w1 => ?_) (a6.trans f2.fp) r3 B2 L2 (by omega)
        rw [imin_le, imin_le, a5 w w0 w1, ue w w0 w1, te w w0 w1]
        refine ⟨fun k i i0 i1 => ?_, fun k => ⟨⟨fun i i0 i1 => k i i0 (by omega), (k v3 a1 (by omega)).1⟩, (k v3 a1 (by omega)).2⟩⟩
        by_cases e : i = v3
        · rw [e]; exact ⟨k.1.2, k.2⟩
        · exact k.1.1 i i0 (by omega)
  exact ⟨100, L 100 999 0 s1 (by omega) (by omega) (by omega) (by omega) (fun w w0 w1 => ⟨fun _ i i0 i1 => absurd i0 (by omega), fun _ => w1⟩) f1.fp r1 (hB.f1 f1) (hL.f1 f1) (by omega)⟩
