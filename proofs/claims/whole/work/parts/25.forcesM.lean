/-! the forces of the model: under a load of 1, under all -/
def shB (A : Int → Int) (f x : Int) : Int := (if f < x then 0 else - unitA A) + smE (fun k => if f < A (6 + 2 * k) then 0 else infA A k x) (A 2).toNat
def mmB (A : Int → Int) (m x : Int) : Int := (if m ≤ x then 0 else - unitA A * (m - x)) + smE (fun k => if m ≤ A (6 + 2 * k) then 0 else infA A k x * (m - A (6 + 2 * k))) (A 2).toNat
def byA (A : Int → Int) (kind n x : Int) : Int := if kind = 0 then infA A n x else if kind = 1 then shB A n x else mmB A n x
abbrev onA (A : Int → Int) (k head : Int) : Prop := ¬ head = -1 ∧ 0 ≤ head - A (35 + 2 * k + 1) ∧ head - A (35 + 2 * k + 1) ≤ A 0
def allA (A : Int → Int) (kind n head : Int) : Int := smE (fun k => A (19 + 2 * k) * byA A kind n (A (19 + 2 * k + 1))) (A 4).toNat + smE (fun k => if onA A k head then A (35 + 2 * k) * byA A kind n (head - A (35 + 2 * k + 1)) else 0) (A 5).toNat
/-- what the forces ask of a beam -/
def VF (A : Int → Int) : Prop := VC A ∧ (∀ k, 0 ≤ k → k < A 2 → A (6 + 2 * k) ≤ A 0) ∧ (∀ k, 0 ≤ k → k + 1 < A 2 → A (6 + 2 * k) < A (6 + 2 * (k + 1))) ∧ (0 ≤ A 4 ∧ A 4 ≤ 8) ∧ (0 ≤ A 5 ∧ A 5 ≤ 6) ∧ (∀ k, 0 ≤ k → k < A 4 → (0 ≤ A (19 + 2 * k) ∧ A (19 + 2 * k) ≤ 999) ∧ 0 ≤ A (19 + 2 * k + 1) ∧ A (19 + 2 * k + 1) ≤ A 0) ∧ ∀ k, 0 ≤ k → k < A 5 → (0 ≤ A (35 + 2 * k) ∧ A (35 + 2 * k) ≤ 999) ∧ 0 ≤ A (35 + 2 * k + 1) ∧ A (35 + 2 * k + 1) ≤ 30
/-- the model has laid the lines -/
def LW (st : St) : Prop := st 9 18 0 0 = unitA (aM st) ∧ ∀ s x, 0 ≤ s → s < st 30 0 0 2 → 0 ≤ x → x ≤ st 30 0 0 0 → st 37 0 0 (31 * s + x) = infA (aM st) s x
theorem smE_S (f : Int → Int) {v : Int} (h : 0 ≤ v) : smE f (v + 1).toNat = smE f v.toNat + f v := by
  rw [show (v + 1).toNat = v.toNat + 1 by omega]
  show smE f v.toNat + f ((v.toNat : Nat) : Int) = _
  rw [show ((v.toNat : Nat) : Int) = v by omega]
theorem smE_0 (f : Int → Int) : smE f (0 : Int).toNat = 0 := rfl
theorem W9_reactionBy {Q : Int → St → Prop} {st : St} {n x : Int} (hA : VC (aM st)) (hl : LW st) (hn : 0 ≤ n) (hn2 : n < st 30 0 0 2) (hx : 0 ≤ x) (hx2 : x ≤ st 30 0 0 0) (h : Q (infA (aM st) n x) st) : f9_reactionBy Q st n x := by
  have n5 : st 30 0 0 2 ≤ 5 := hA.2.2.2.1
  have l3 : st 30 0 0 0 ≤ 30 := hA.2.1
  unfold f9_reactionBy
  rw [hl.2 n x hn hn2 hx hx2]
  exact ⟨by omega, by omega, h⟩
theorem W9_shearBy {Q : Int → St → Prop} {st : St} {f x : Int} (hA : VC (aM st)) (hl : LW st) (hf : inI f) (hx : 0 ≤ x) (hx2 : x ≤ st 30 0 0 0) (h : Q (shB (aM st) f x) st) : f9_shearBy Q st f x := by
  have n2 : 2 ≤ st 30 0 0 2 := hA.2.2.1
  have n5 : st 30 0 0 2 ≤ 5 := hA.2.2.2.1
  have l3 : st 30 0 0 0 ≤ 30 := hA.2.1
  have L : ∀ (b : Int), Q (b + smE (fun k => if f < aM st (6 + 2 * k) then 0 else infA (aM st) k x) (st 30 0 0 2).toNat) st → ∀ (m : Nat) (v : Int), 0 ≤ v → v ≤ st 30 0 0 2 → st 30 0 0 2 - v < m → f9_shearBy_l18 Q f x m st (b + smE (fun k => if f < aM st (6 + 2 * k) then 0 else infA (aM st) k x) v.toNat) v := by
    intro b hq m
    induction m with
    | zero => intro v a1 a2 a3; omega
    | succ m ih =>
      intro v a1 a2 a3
      unfold f9_shearBy_l18
      refine ⟨inI_s (by omega) (by omega), inI_s (by omega) (by omega), fun c => ?_, fun c => W9_placeOf a1 (by omega) ?_⟩
      · have hv : v = st 30 0 0 2 := by omega
        rw [hv]
        exact hq
      · have hp := hA.2.2.2.2.1 v a1 (by show v < st 30 0 0 2; omega)
        have hp : 0 ≤ st 30 0 0 (6 + 2 * v) ∧ st 30 0 0 (6 + 2 * v) ≤ 30 := hp
        have nx := ih (v + 1) (by omega) (by omega) (by omega)
        rw [smE_S _ a1, ← Int.add_assoc] at nx
        refine ⟨inI_s (by omega) (by omega), hf, fun c2 => ?_, fun c2 => W9_reactionBy hA hl a1 (by omega) hx hx2 ?_⟩
        · unfold f9_shearBy_j51
          rintro _ rfl _ rfl
          rw [if_pos c2] at nx
          exact nx
        · unfold f9_shearBy_j51
          rintro _ rfl _ rfl
          rw [if_neg c2] at nx
          exact nx
  have go : ∀ b : Int, Q (b + smE (fun k => if f < aM st (6 + 2 * k) then 0 else infA (aM st) k x) (st 30 0 0 2).toNat) st → f9_shearBy_j14 Q f x st b := fun b hq => by
    have := L b hq 100 0 (by omega) (by omega) (by omega)
    rw [smE_0, Int.add_zero] at this
    exact ⟨100, this⟩
  unfold f9_shearBy
  refine ⟨inI_s (by omega) (by omega), hf, fun c => go 0 ?_, fun c => ?_⟩
  · unfold shB at h
    rw [if_pos c] at h
    exact h
  · rw [hl.1]
    refine go _ ?_
    unfold shB at h
    rw [if_neg c] at h
    exact h
theorem W9_momentBy {Q : Int → St → Prop} {st : St} {f x : Int} (hA : VC (aM st)) (hl : LW st) (hf : -1000 ≤ f) (hf2 : f ≤ 1000) (hx : 0 ≤ x) (hx2 : x ≤ st 30 0 0 0) (h : Q (mmB (aM st) f x) st) : f9_momentBy Q st f x := by
  have n2 : 2 ≤ st 30 0 0 2 := hA.2.2.1
  have n5 : st 30 0 0 2 ≤ 5 := hA.2.2.2.1
  have l3 : st 30 0 0 0 ≤ 30 := hA.2.1
  have L : ∀ (b : Int), Q (b + smE (fun k => if f ≤ aM st (6 + 2 * k) then 0 else infA (aM st) k x * (f - aM st (6 + 2 * k))) (st 30 0 0 2).toNat) st → ∀ (m : Nat) (v : Int), 0 ≤ v → v ≤ st 30 0 0 2 → st 30 0 0 2 - v < m → f9_momentBy_l23 Q f x m st (b + smE (fun k => if f ≤ aM st (6 + 2 * k) then 0 else infA (aM st) k x * (f - aM st (6 + 2 * k))) v.toNat) v := by
    intro b hq m
    induction m with
    | zero => intro v a1 a2 a3; omega
    | succ m ih =>
      intro v a1 a2 a3
      unfold f9_momentBy_l23
      refine ⟨inI_s (by omega) (by omega), inI_s (by omega) (by omega), fun c => ?_, fun c => W9_placeOf a1 (by omega) ?_⟩
      · have hv : v = st 30 0 0 2 := by omega
        rw [hv]
        exact hq
      · have hp := hA.2.2.2.2.1 v a1 (by show v < st 30 0 0 2; omega)
        have hp : 0 ≤ st 30 0 0 (6 + 2 * v) ∧ st 30 0 0 (6 + 2 * v) ≤ 30 := hp
        have nx := ih (v + 1) (by omega) (by omega) (by omega)
        rw [smE_S _ a1, ← Int.add_assoc] at nx
        refine ⟨inI_s (by omega) (by omega), inI_s (by omega) (by omega), fun c2 => ?_, fun c2 => W9_reactionBy hA hl a1 (by omega) hx hx2 (W9_placeOf a1 (by omega) ⟨inI_s (by omega) (by omega), ?_⟩)⟩
        · unfold f9_momentBy_j66
          rintro _ rfl _ rfl
          rw [if_pos c2] at nx
          exact nx
        · unfold f9_momentBy_j66
          rintro _ rfl _ rfl
          rw [if_neg c2] at nx
          exact nx
  have go : ∀ b : Int, Q (b + smE (fun k => if f ≤ aM st (6 + 2 * k) then 0 else infA (aM st) k x * (f - aM st (6 + 2 * k))) (st 30 0 0 2).toNat) st → f9_momentBy_j19 Q f x st b := fun b hq => by
    have := L b hq 100 0 (by omega) (by omega) (by omega)
    rw [smE_0, Int.add_zero] at this
    exact ⟨100, this⟩
  unfold f9_momentBy
  refine ⟨inI_s (by omega) (by omega), inI_s (by omega) (by omega), fun c => go 0 ?_, fun c => ⟨inI_s (by omega) (by omega), ?_⟩⟩
  · unfold mmB at h
    rw [if_pos c] at h
    exact h
  · rw [hl.1]
    refine go _ ?_
    unfold mmB at h
    rw [if_neg c] at h
    exact h
theorem W9_by {Q : Int → St → Prop} {st : St} {kind n x : Int} (hA : VC (aM st)) (hl : LW st) (hk : 0 ≤ kind) (hk2 : kind ≤ 2) (hn : kind = 0 → 0 ≤ n ∧ n < st 30 0 0 2) (hf : -1000 ≤ n) (hf2 : n ≤ 1000) (hx : 0 ≤ x) (hx2 : x ≤ st 30 0 0 0) (h : Q (byA (aM st) kind n x) st) : f9_by Q st kind n x := by
  unfold byA at h
  unfold f9_by
  refine ⟨inI_s (by omega) (by omega), fun c => ?_, fun c => ⟨inI_s (by omega) (by omega), fun c2 => ?_, fun c2 => ?_⟩⟩
  · rw [if_pos c] at h
    exact W9_reactionBy hA hl (hn c).1 (hn c).2 hx hx2 h
  · rw [if_neg c, if_pos c2] at h
    exact W9_shearBy hA hl (inI_s (by omega) (by omega)) hx hx2 h
  · rw [if_neg c, if_neg c2] at h
    exact W9_momentBy hA hl hf hf2 hx hx2 h
theorem W9_isPlace {Q : Int → St → Prop} {st : St} {v : Int} (hA : VC (aM st)) (hv : inI v) (h : Q (if 0 ≤ v ∧ v ≤ st 30 0 0 0 then 1 else 0) st) : f9_isPlace Q st v := by
  have l2 : 2 ≤ st 30 0 0 0 := hA.1
  have l3 : st 30 0 0 0 ≤ 30 := hA.2.1
  unfold f9_isPlace
  refine W9_isIn hv (inI_s (by omega) (by omega)) (inI_s (by omega) (by omega)) ⟨?_, h⟩
  split
  · exact Or.inr rfl
  · exact Or.inl rfl
theorem W9_all {Q : Int → St → Prop} {st : St} {kind n head : Int} (hA : VF (aM st)) (hl : LW st) (hk : 0 ≤ kind) (hk2 : kind ≤ 2) (hn : kind = 0 → 0 ≤ n ∧ n < st 30 0 0 2) (hf : -1000 ≤ n) (hf2 : n ≤ 1000) (hh : -1 ≤ head) (hh2 : head ≤ 1000) (h : Q (allA (aM st) kind n head) st) : f9_all Q st kind n head := by
  have hC := hA.1
  have l3 : st 30 0 0 0 ≤ 30 := hC.2.1
  have b4 : 0 ≤ st 30 0 0 4 ∧ st 30 0 0 4 ≤ 8 := hA.2.2.2.1
  have b5 : 0 ≤ st 30 0 0 5 ∧ st 30 0 0 5 ≤ 6 := hA.2.2.2.2.1
  have hL : ∀ k, 0 ≤ k → k < st 30 0 0 4 → (0 ≤ st 30 0 0 (19 + 2 * k) ∧ st 30 0 0 (19 + 2 * k) ≤ 999) ∧ 0 ≤ st 30 0 0 (19 + 2 * k + 1) ∧ st 30 0 0 (19 + 2 * k + 1) ≤ st 30 0 0 0 := hA.2.2.2.2.2.1
  have hX : ∀ k, 0 ≤ k → k < st 30 0 0 5 → (0 ≤ st 30 0 0 (35 + 2 * k) ∧ st 30 0 0 (35 + 2 * k) ≤ 999) ∧ 0 ≤ st 30 0 0 (35 + 2 * k + 1) ∧ st 30 0 0 (35 + 2 * k + 1) ≤ 30 := hA.2.2.2.2.2.2
  have L2 : ∀ (b : Int), Q (b + smE (fun k => if onA (aM st) k head then aM st (35 + 2 * k) * byA (aM st) kind n (head - aM st (35 + 2 * k + 1)) else 0) (st 30 0 0 5).toNat) st → ∀ (m : Nat) (v : Int), 0 ≤ v → v ≤ st 30 0 0 5 → st 30 0 0 5 - v < m → f9_all_l65 Q kind n head m st (b + smE (fun k => if onA (aM st) k head then aM st (35 + 2 * k) * byA (aM st) kind n (head - aM st (35 + 2 * k + 1)) else 0) v.toNat) v := by
    intro b hq m
    induction m with
    | zero => intro v a1 a2 a3; omega
    | succ m ih =>
      intro v a1 a2 a3
      unfold f9_all_l65
      refine ⟨inI_s (by omega) (by omega), inI_s (by omega) (by omega), fun c => ?_, fun c => ?_⟩
      · have hv : v = st 30 0 0 5 := by omega
        rw [hv]
        exact hq
      · have hx := hX v a1 (by omega)
        have nx := ih (v + 1) (by omega) (by omega) (by omega)
        rw [smE_S _ a1, ← Int.add_assoc] at nx
        have hm := mlen0
        have off : ¬ onA (aM st) v head → f9_all_j127 (fun st v4x65 v6x65 => f9_all_l65 Q kind n head m st v4x65 v6x65) Q kind n head st (b + smE (fun k => if onA (aM st) k head then aM st (35 + 2 * k) * byA (aM st) kind n (head - aM st (35 + 2 * k + 1)) else 0) v.toNat) v := fun q => by
          unfold f9_all_j127
          rintro _ rfl
          rw [if_neg q, Int.add_zero] at nx
          exact nx
        unfold f9_isOn
        refine ⟨inI_s (by omega) (by omega), fun c2 => ⟨inI_0, fun _ => off (fun q => q.1 c2), fun e => absurd rfl e⟩, fun c2 => ⟨by omega, by omega, ?_⟩⟩
        refine W9_isPlace hC (inI_s (by omega) (by omega)) ?_
        by_cases on : 0 ≤ head - st 30 0 0 (35 + 2 * v + 1) ∧ head - st 30 0 0 (35 + 2 * v + 1) ≤ st 30 0 0 0
        · rw [if_pos on]
          have q : onA (aM st) v head := ⟨c2, on⟩
          refine ⟨inI_1, fun e => absurd e (by omega), fun _ => ⟨inI_1, fun e => absurd e (by omega), fun _ => ⟨by omega, by omega, inI_s (by omega) (by omega), by omega, by omega, ?_⟩⟩⟩
          refine W9_by hC hl hk hk2 hn hf hf2 on.1 on.2 ?_
          rintro _ rfl
          unfold f9_all_j127
          rintro _ rfl
          rw [if_pos q] at nx
          exact nx
        · rw [if_neg on]
          exact ⟨inI_0, fun _ => ⟨inI_0, fun _ => off (fun q => on q.2), fun e => absurd rfl e⟩, fun e => absurd rfl e⟩
  have L1 : ∀ (m : Nat) (v : Int), 0 ≤ v → v ≤ st 30 0 0 4 → st 30 0 0 4 - v < m → f9_all_l6 Q kind n head m st (smE (fun k => aM st (19 + 2 * k) * byA (aM st) kind n (aM st (19 + 2 * k + 1))) v.toNat) v := by
    intro m
    induction m with
    | zero => intro v a1 a2 a3; omega
    | succ m ih =>
      intro v a1 a2 a3
      unfold f9_all_l6
      refine ⟨inI_s (by omega) (by omega), inI_s (by omega) (by omega), fun c => ?_, fun c => ?_⟩
      · have hv : v = st 30 0 0 4 := by omega
        rw [hv]
        have := L2 (smE (fun k => aM st (19 + 2 * k) * byA (aM st) kind n (aM st (19 + 2 * k + 1))) (st 30 0 0 4).toNat) h 100 0 (by omega) (by omega) (by omega)
        rw [smE_0, Int.add_zero] at this
        exact ⟨100, this⟩
      · have hx := hL v a1 (by omega)
        have nx := ih (v + 1) (by omega) (by omega) (by omega)
        rw [smE_S _ a1] at nx
        have hm := mlen0
        refine ⟨by omega, by omega, inI_s (by omega) (by omega), by omega, by omega, ?_⟩
        refine W9_by hC hl hk hk2 hn hf hf2 hx.2.1 hx.2.2 ?_
        rintro _ rfl _ rfl
        exact nx
  unfold f9_all
  exact ⟨100, L1 100 0 (by omega) (by omega) (by omega)⟩
