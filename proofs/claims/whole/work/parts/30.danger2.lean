def lsN (R : Int → Int) : Nat → Int
  | 0 => 0
  | m + 1 => if 0 ≤ R m then lsN R m else ior (lsN R m) (ishl 1 m)
theorem ls_bit : ∀ a : Fin 32, ∀ m : Fin 5, 1 ≤ ior (a.val : Int) (ishl 1 (m.val : Int)) ∧ ior (a.val : Int) (ishl 1 (m.val : Int)) ≤ 31 := by decide
theorem ls_bit2 {a m : Int} (h0 : 0 ≤ a) (h1 : a ≤ 31) (h2 : 0 ≤ m) (h3 : m < 5) : 1 ≤ ior a (ishl 1 m) ∧ ior a (ishl 1 m) ≤ 31 := by
  have := ls_bit ⟨a.toNat, by omega⟩ ⟨m.toNat, by omega⟩
  have e1 : ((a.toNat : Nat) : Int) = a := by omega
  have e2 : ((m.toNat : Nat) : Int) = m := by omega
  simp only [e1, e2] at this
  exact this
theorem lsN_b {R : Int → Int} : ∀ m : Nat, m ≤ 5 → 0 ≤ lsN R m ∧ lsN R m ≤ 31 ∧ (lsN R m = 0 ↔ ∀ k : Int, 0 ≤ k → k < m → 0 ≤ R k) := by
  intro m
  induction m with
  | zero => intro _; exact ⟨by show (0 : Int) ≤ 0; omega, by show (0 : Int) ≤ 31; omega, fun _ k a b => by omega, fun _ => rfl⟩
  | succ m ih =>
    intro h
    obtain ⟨h1, h2, h3⟩ := ih (by omega)
    unfold lsN
    by_cases c : 0 ≤ R m
    · rw [if_pos c]
      refine ⟨h1, h2, fun q k a b => ?_, fun q => h3.mpr (fun k a b => q k a (by omega))⟩
      by_cases e : k = m
      · rw [e]; exact c
      · exact h3.mp q k a (by omega)
    · rw [if_neg c]
      have hb := ls_bit2 h1 h2 (show (0 : Int) ≤ m by omega) (by omega)
      exact ⟨by omega, by omega, fun q => by omega, fun q => absurd (q m (by omega) (by omega)) c⟩
theorem W1_liftedSet {o : Int} {Q : Int → St → Prop} {st : St} {R : Int → Int} (hR : ∀ i, 0 ≤ i → i < 5 → st 13 0 o i = R i) (hb : ∀ i, 0 ≤ i → i < 5 → inL (R i)) (h : Q (lsN R 5) st) : f1_liftedSet o Q st := by
  have L : ∀ (m : Nat) (v : Int), 0 ≤ v → v ≤ 5 → 5 - v < m → f1_liftedSet_l4 o Q m st (lsN R v.toNat) v := by
    intro m
    induction m with
    | zero => intro v a1 a2 a3; omega
    | succ m ih =>
      intro v a1 a2 a3
      unfold f1_liftedSet_l4
      refine ⟨inI_s (by omega) (by omega), fun c => ?_, fun c => ⟨a1, by omega, ?_⟩⟩
      · have hv : v.toNat = 5 := by omega
        rw [hv]
        exact h
      · have nx := ih (v + 1) (by omega) (by omega) (by omega)
        rw [show (v + 1).toNat = v.toNat + 1 by omega] at nx
        unfold lsN at nx
        rw [show ((v.toNat : Nat) : Int) = v by omega] at nx
        rw [hR v a1 (by omega)]
        refine ⟨hb v a1 (by omega), fun c2 => ?_, fun c2 => ?_⟩
        · unfold f1_liftedSet_j26
          rintro _ rfl
          rw [if_pos c2] at nx
          exact nx
        · rintro _ rfl
          unfold f1_liftedSet_j26
          rintro _ rfl
          rw [if_neg c2] at nx
          exact nx
  unfold f1_liftedSet
  exact ⟨100, L 100 0 (by omega) (by omega) (by omega)⟩
def rcA (A : Int → Int) (T : (Int → Int) → Int) : Int → Int := fun i => if i < A 2 then T (infA A i) else 0
theorem W1_bearsTooMuch {o b lo : Int} {A : Int → Int} {T : (Int → Int) → Int} {Q : Int → St → Prop} {st : St} (hA : VD A) (hB : BF st b A) (hL : LR st lo A) (hR : FR st o A T) (hT : ∀ i, inL (T (infA A i)))
    (h1 : ∀ i, 0 ≤ i → i < A 2 → ¬ A (6 + 2 * i + 1) = -1 ∧ A (6 + 2 * i + 1) * unitA A < T (infA A i) → Q 1 st)
    (h0 : (∀ i, 0 ≤ i → i < A 2 → ¬ (¬ A (6 + 2 * i + 1) = -1 ∧ A (6 + 2 * i + 1) * unitA A < T (infA A i))) → Q 0 st) : f1_bearsTooMuch o b lo Q st := by
  have hC := hA.1.1
  have n5 := hC.2.2.2.1
  have hu := unitA_b hC
  have L : ∀ (m : Nat) (v : Int), 0 ≤ v → v ≤ A 2 → (∀ i, 0 ≤ i → i < v → ¬ (¬ A (6 + 2 * i + 1) = -1 ∧ A (6 + 2 * i + 1) * unitA A < T (infA A i))) → A 2 - v < m → f1_bearsTooMuch_l2 o b lo Q m st v := by
    intro m
    induction m with
    | zero => intro v a1 a2 a3 a4; omega
    | succ m ih =>
      intro v a1 a2 a3 a4
      unfold f1_bearsTooMuch_l2
      rw [hB.1.2.2.2.1]
      refine ⟨inI_s (by omega) (by omega), inI_s (by omega) (by omega), fun c => h0 (fun i i0 i1 => a3 i i0 (by omega)), fun c => ?_⟩
      have hbv := hA.2.2 v a1 (by omega)
      refine W6_second hB.1.2.1 (inI_s (by omega) (by omega)) (fun _ _ => ?_) (fun q => absurd ⟨a1, by rw [hB.1.2.2.2.1]; omega⟩ q)
      rw [hB.2.2.2.2.2.2.1 v a1 (by omega)]
      have nx : ¬ (¬ A (6 + 2 * v + 1) = -1 ∧ A (6 + 2 * v + 1) * unitA A < T (infA A v)) → f1_bearsTooMuch_j48 o b lo (fun st v3x2 => f1_bearsTooMuch_l2 o b lo Q m st v3x2) Q st v := fun q => by
        unfold f1_bearsTooMuch_j48
        rintro _ rfl
        refine ih (v + 1) (by omega) (by omega) (fun i i0 i1 => ?_) (by omega)
        by_cases e : i = v
        · rw [e]; exact q
        · exact a3 i i0 (by omega)
      refine ⟨inI_s (by omega) (by omega), fun e => nx (fun q => q.1 e), fun e => ?_⟩
      refine W1_reactionOf hR (inI_s (by omega) (by omega)) hC ?_
      rw [if_pos ⟨a1, by omega⟩, hL.2.2.1, Int.mul_comm (unitA A)]
      have hm := mulB (show -99999 ≤ A (6 + 2 * v + 1) by omega) (show A (6 + 2 * v + 1) ≤ 99999 by omega) hu.1 hu.2
      refine ⟨inI_s (by omega) (by omega), hT v, inL_s (by omega) (by omega), fun c2 => nx (fun q => by omega), fun c2 => h1 v a1 (by omega) ⟨e, by omega⟩⟩
  unfold f1_bearsTooMuch
  exact ⟨100, L 100 0 (by omega) (by have := hC.2.2.1; omega) (fun i i0 i1 => by omega) (by omega)⟩
theorem W1_bendsTooMuch {o b lo : Int} {A : Int → Int} {T : (Int → Int) → Int} {Q : Int → St → Prop} {st : St} (hA : VD A) (hB : BF st b A) (hL : LR st lo A) (hR : FR st o A T) (hT : ∀ m, 0 ≤ m → m ≤ A 0 → -10000000000000000 ≤ T (mmB A m) ∧ T (mmB A m) ≤ 10000000000000000)
    (h1 : ∀ m, 0 ≤ m → m ≤ A 0 → A 1 * unitA A < iabs (T (mmB A m)) → Q 1 st)
    (h0 : (∀ m, 0 ≤ m → m ≤ A 0 → ¬ A 1 * unitA A < iabs (T (mmB A m))) → Q 0 st) : f1_bendsTooMuch o b lo Q st := by
  have hC := hA.1.1
  have l2 := hC.1
  have l3 := hC.2.1
  have hu := unitA_b hC
  have hm := mulB (show -999999 ≤ A 1 by have := hA.2.1; omega) hA.2.1.2 hu.1 hu.2
  have L : ∀ (f : Nat) (v : Int), 0 ≤ v → v ≤ A 0 + 1 → (∀ m, 0 ≤ m → m < v → ¬ A 1 * unitA A < iabs (T (mmB A m))) → A 0 + 1 - v < f → f1_bendsTooMuch_l14 o b lo Q (A 1 * unitA A) f st v := by
    intro f
    induction f with
    | zero => intro v a1 a2 a3 a4; omega
    | succ f ih =>
      intro v a1 a2 a3 a4
      unfold f1_bendsTooMuch_l14
      rw [hB.1.1]
      refine ⟨inI_s (by omega) (by omega), inI_s (by omega) (by omega), fun c => h0 (fun m m0 m1 => a3 m m0 (by omega)), fun c => ?_⟩
      refine W1_momentAt hR hC a1 (by omega) ?_
      have hb := hT v a1 (by omega)
      have hb2 := iabs_b hb.1 hb.2
      have hb3 := iabs_nn (T (mmB A v))
      refine ⟨inL_s (by omega) (by omega), inL_s (by omega) (by omega), inL_s (by omega) (by omega), fun c2 => ?_, fun c2 => h1 v a1 (by omega) (by omega)⟩
      rintro _ rfl
      refine ih (v + 1) (by omega) (by omega) (fun m m0 m1 => ?_) (by omega)
      by_cases e : m = v
      · rw [e]; omega
      · exact a3 m m0 (by omega)
  unfold f1_bendsTooMuch
  rw [hB.2.1, hL.2.2.1]
  refine ⟨inI_s (by have := hA.2.1; omega) (by have := hA.2.1; omega), ?_⟩
  rintro _ rfl
  rw [Int.mul_comm]
  exact ⟨100, L 100 0 (by omega) (by omega) (fun i i0 i1 => by omega) (by omega)⟩
theorem W1_firstReason {o b lo head : Int} {A : Int → Int} {Q : Int → St → Prop} {st : St} (hA : VD A) (hB : BF st b A) (hL : LR st lo A) (hR : FR st o A (TA A head)) (h : Q (dngA A head) st) : f1_firstReason o b lo Q st := by
  have hC := hA.1.1
  have n5 := hC.2.2.2.1
  unfold f1_firstReason
  refine W1_liftedSet (R := rcA A (TA A head)) hR.1 (fun i _ _ => ?_) ?_
  · have := TAi_b hA.1 head i
    unfold rcA
    split
    · exact inL_s (by omega) (by omega)
    · exact inL_0
  · have hl := lsN_b (R := rcA A (TA A head)) 5 (by omega)
    refine ⟨inI_s (by omega) (by omega), fun e => ?_, fun e => ?_⟩
    · have hl1 : ∀ k, 0 ≤ k → k < A 2 → 0 ≤ TA A head (infA A k) := fun k k0 k1 => by
        have := hl.2.2.mp e k k0 (by omega)
        unfold rcA at this
        rwa [if_pos k1] at this
      refine W1_bearsTooMuch hA hB hL hR (fun i => by have := TAi_b hA.1 head i; exact inL_s (by omega) (by omega)) (fun i i0 i1 q => ?_) (fun hb => ?_)
      · refine ⟨inI_1, fun z => absurd z (by omega), fun _ => ?_⟩
        have := dngA_2 hl1 i0 i1 q
        rwa [this] at h
      · refine ⟨inI_0, fun _ => ?_, fun z => absurd rfl z⟩
        refine W1_bendsTooMuch hA hB hL hR (fun m m0 m1 => TAm_b hA.1 head m0 (by have := hC.2.1; omega)) (fun m m0 m1 q => ?_) (fun hm => ?_)
        · refine ⟨inI_1, fun z => absurd z (by omega), fun _ => ?_⟩
          have := dngA_3 hl1 hb m0 m1 q
          rwa [this] at h
        · refine ⟨inI_0, fun _ => ?_, fun z => absurd rfl z⟩
          have := dngA_0 hl1 hb hm
          rwa [this] at h
    · have : ∃ k, 0 ≤ k ∧ k < A 2 ∧ TA A head (infA A k) < 0 := by
        by_cases q : ∃ k, 0 ≤ k ∧ k < A 2 ∧ TA A head (infA A k) < 0
        · exact q
        · refine absurd (hl.2.2.mpr (fun k k0 k1 => ?_)) e
          unfold rcA
          split
          · by_cases w : 0 ≤ TA A head (infA A k)
            · exact w
            · exact absurd ⟨k, k0, by omega, by omega⟩ q
          · omega
      obtain ⟨k, k0, k1, k2⟩ := this
      have := dngA_1 k0 k1 k2
      rwa [this] at h
theorem W8_reasonWithHead {head : Int} {A : Int → Int} {Q : Int → St → Prop} {st : St} (hA : VD A) (hB : BF st 0 A) (hL : LR st 0 A) (hh : -1 ≤ head) (hh2 : head ≤ 1000) (h : ∀ s, F1 0 st s → Q (dngA A head) s) : f8_reasonWithHead Q st head := by
  unfold f8_reasonWithHead
  exact W1_underAll hA.1 hB hL hh hh2 (fun s f r => W1_firstReason hA (hB.f1 f) (hL.f1 f) r (h s f))
