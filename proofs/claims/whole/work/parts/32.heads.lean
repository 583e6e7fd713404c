/-! the last head, the first danger, lifting -/
def lhA (A : Int → Int) : Int := if A 5 = 0 then 0 else A 0 + mxN (fun k => A (35 + 2 * k + 1)) (A 5).toNat
theorem mxN_b {f : Int → Int} {C : Int} (hC : 0 ≤ C) : ∀ m : Nat, (∀ e : Int, 0 ≤ e → e < m → f e ≤ C) → 0 ≤ mxN f m ∧ mxN f m ≤ C := by
  intro m
  induction m with
  | zero => intro _; exact ⟨by show (0 : Int) ≤ 0; omega, hC⟩
  | succ m ih =>
    intro h
    have h1 := ih (fun e a b => h e a (by omega))
    have h2 := h m (by omega) (by omega)
    unfold mxN imax
    split <;> omega
theorem mxN_ext {f g : Int → Int} : ∀ m : Nat, (∀ e : Int, 0 ≤ e → e < m → f e = g e) → mxN f m = mxN g m := by
  intro m
  induction m with
  | zero => intro _; rfl
  | succ m ih => intro h; unfold mxN; rw [ih (fun e a b => h e a (by omega)), h m (by omega) (by omega)]
theorem lhA_b {A : Int → Int} (hA : VF A) : 0 ≤ lhA A ∧ lhA A ≤ 60 := by
  have l2 := hA.1.1
  have l3 := hA.1.2.1
  have b5 := hA.2.2.2.2.1
  have := mxN_b (f := fun k => A (35 + 2 * k + 1)) (C := 30) (by omega) (A 5).toNat (fun e e0 e1 => (hA.2.2.2.2.2.2 e e0 (by omega)).2.2)
  unfold lhA
  split <;> omega
theorem W9_lastHead {Q : Int → St → Prop} {st : St} (hA : VF (aM st)) (h : Q (lhA (aM st)) st) : f9_lastHead Q st := by
  have b5 : 0 ≤ st 30 0 0 5 ∧ st 30 0 0 5 ≤ 6 := hA.2.2.2.2.1
  have hX : ∀ k, 0 ≤ k → k < st 30 0 0 5 → (0 ≤ st 30 0 0 (35 + 2 * k) ∧ st 30 0 0 (35 + 2 * k) ≤ 999) ∧ 0 ≤ st 30 0 0 (35 + 2 * k + 1) ∧ st 30 0 0 (35 + 2 * k + 1) ≤ 30 := hA.2.2.2.2.2.2
  have hm0 := mlen0
  have L : ¬ st 30 0 0 5 = 0 → ∀ (m : Nat) (v : Int), 0 ≤ v → v ≤ st 30 0 0 5 → st 30 0 0 5 - v < m → f9_lastHead_l15 Q m st (mxN (fun k => aM st (35 + 2 * k + 1)) v.toNat) v := by
    intro h5 m
    induction m with
    | zero => intro v a1 a2 a3; omega
    | succ m ih =>
      intro v a1 a2 a3
      have hb := mxN_b (f := fun k => aM st (35 + 2 * k + 1)) (C := 30) (by omega) v.toNat (fun e e0 e1 => (hX e e0 (by omega)).2.2)
      unfold f9_lastHead_l15
      refine ⟨inI_s (by omega) (by omega), inI_s (by omega) (by omega), fun c => ?_, fun c => ?_⟩
      · have hv : v = st 30 0 0 5 := by omega
        unfold lhA at h
        rw [if_neg h5] at h
        rw [hv]
        exact h
      · have hx := hX v a1 (by omega)
        have nx := ih (v + 1) (by omega) (by omega) (by omega)
        rw [show (v + 1).toNat = v.toNat + 1 by omega] at nx
        unfold mxN at nx
        rw [show ((v.toNat : Nat) : Int) = v by omega] at nx
        refine ⟨by omega, by omega, inI_s (by omega) (by omega), inI_s (by omega) (by omega), ?_⟩
        rintro _ rfl _ rfl
        exact nx
  unfold f9_lastHead
  refine ⟨inI_s (by omega) (by omega), fun c => ?_, fun c => ⟨100, L c 100 0 (by omega) (by omega) (by omega)⟩⟩
  unfold lhA at h
  rwa [if_pos c] at h
theorem W0_lastHead {b : Int} {A : Int → Int} {Q : Int → St → Prop} {st : St} (hA : VF A) (hB : BF st b A) (h : Q (lhA A) st) : f0_lastHead b Q st := by
  have b5 := hA.2.2.2.2.1
  unfold f0_lastHead
  rw [hB.2.2.2.2.2.1]
  refine ⟨inI_s (by omega) (by omega), fun c => ?_, fun c => ?_⟩
  · unfold lhA at h
    rwa [if_pos c] at h
  · refine W6_greatestSecond hB.2.2.2.1 (fun k k0 k1 => ?_) ?_
    · rw [hB.2.2.2.2.2.1] at k1
      rw [(hB.2.2.2.2.2.2.2.2 k k0 k1).2]
      have := hA.2.2.2.2.2.2 k k0 k1
      exact inI_s (by omega) (by omega)
    · rw [hB.2.2.2.2.2.1, hB.1.1]
      have e : mxN (st 11 0 (4 * b + 3)) (A 5).toNat = mxN (fun k => A (35 + 2 * k + 1)) (A 5).toNat := mxN_ext _ (fun k k0 k1 => (hB.2.2.2.2.2.2.2.2 k k0 (by omega)).2)
      rw [e]
      unfold lhA at h
      rwa [if_neg c] at h
/-- the first head in danger, from v on -/
def fbN (A : Int → Int) (top : Int) : Nat → Int → Int
  | 0, _ => -1
  | m + 1, v => if top < v then -1 else if dngA A v ≤ 0 then fbN A top m (v + 1) else v
def fbA (A : Int → Int) : Int := fbN A (lhA A) 100 0
theorem dngA_b (A : Int → Int) (head : Int) : 0 ≤ dngA A head ∧ dngA A head ≤ 3 := by
  unfold dngA
  repeat' split
  all_goals omega
theorem W9_firstBad {Q : Int → St → Prop} {st : St} (hA : VD (aM st)) (hl : LW st) (h : Q (fbA (aM st)) st) : f9_firstBad Q st := by
  have hb := lhA_b hA.1
  have L : ∀ (m : Nat) (v : Int), 0 ≤ v → v ≤ lhA (aM st) + 1 → Q (fbN (aM st) (lhA (aM st)) m v) st → lhA (aM st) + 1 - v < m → f9_firstBad_l2 Q m st v := by
    intro m
    induction m with
    | zero => intro v a1 a2 a3 a4; omega
    | succ m ih =>
      intro v a1 a2 a3 a4
      unfold f9_firstBad_l2
      unfold fbN at a3
      refine W9_lastHead hA.1 ⟨inI_s (by omega) (by omega), inI_s (by omega) (by omega), fun c => ?_, fun c => ?_⟩
      · rwa [if_pos c] at a3
      · rw [if_neg c] at a3
        have hd := dngA_b (aM st) v
        refine W9_dangerAt hA hl (by omega) (by omega) ⟨inI_s (by omega) (by omega), fun c2 => ?_, fun c2 => ?_⟩
        · rw [if_pos c2] at a3
          rintro _ rfl
          exact ih (v + 1) (by omega) (by omega) a3 (by omega)
        · rwa [if_neg c2] at a3
  unfold f9_firstBad
  exact ⟨100, L 100 0 (by omega) (by omega) h (by omega)⟩
theorem W8_firstDanger {A : Int → Int} {Q : Int → St → Prop} {st : St} (hA : VD A) (hB : BF st 0 A) (hL : LR st 0 A) (h : ∀ s, F1 0 st s → Q (fbA A) s) : f8_firstDanger Q st := by
  have hb := lhA_b hA.1
  have L : ∀ (m : Nat) (v : Int) (s : St), 0 ≤ v → v ≤ lhA A + 1 → F1 0 st s → (∀ s', F1 0 st s' → Q (fbN A (lhA A) m v) s') → lhA A + 1 - v < m → f8_firstDanger_l10 Q (lhA A) m s v := by
    intro m
    induction m with
    | zero => intro v s a1 a2 f a3 a4; omega
    | succ m ih =>
      intro v s a1 a2 f a3 a4
      unfold f8_firstDanger_l10
      unfold fbN at a3
      refine ⟨inI_s (by omega) (by omega), inI_s (by omega) (by omega), fun c => ?_, fun c => ?_⟩
      · rw [if_pos c] at a3
        exact a3 s f
      · rw [if_neg c] at a3
        have hd := dngA_b A v
        refine W8_reasonWithHead hA (hB.f1 f) (hL.f1 f) (by omega) (by omega) (fun s' f' => ⟨inI_s (by omega) (by omega), fun c2 => ?_, fun c2 => ?_⟩)
        · rw [if_pos (by omega)] at a3
          rintro _ rfl
          exact ih (v + 1) s' (by omega) (by omega) (f.trans f') a3 (by omega)
        · rw [if_neg (by omega)] at a3
          exact a3 s' (f.trans f')
  unfold f8_firstDanger
  exact W0_lastHead hA.1 hB ⟨100, L 100 0 st (by omega) (by omega) F1.rf h (by omega)⟩
