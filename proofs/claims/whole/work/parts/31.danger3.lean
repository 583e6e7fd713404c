/-! the model's danger, the last head -/
theorem W9_size {Q : Int → St → Prop} {st : St} {a : Int} (ha : inL a) (h : Q (iabs a) st) : f9_size Q st a := by
  unfold f9_size
  refine ⟨ha, fun c => ?_, fun c => ?_⟩
  · rwa [iabs_n c] at h
  · have : iabs a = -a := by unfold iabs; rw [if_neg (by omega)]
    rwa [this] at h
theorem W9_dangerAt {Q : Int → St → Prop} {st : St} {head : Int} (hA : VD (aM st)) (hl : LW st) (hh : -1 ≤ head) (hh2 : head ≤ 1000) (h : Q (dngA (aM st) head) st) : f9_dangerAt Q st head := by
  have hF := hA.1
  have hC := hF.1
  have n2 : 2 ≤ st 30 0 0 2 := hC.2.2.1
  have n5 : st 30 0 0 2 ≤ 5 := hC.2.2.2.1
  have l2 : 2 ≤ st 30 0 0 0 := hC.1
  have l3 : st 30 0 0 0 ≤ 30 := hC.2.1
  have b1 : 0 ≤ st 30 0 0 1 ∧ st 30 0 0 1 ≤ 999999 := hA.2.1
  have hu := unitA_b hC
  have hm1 := mulB (show -999999 ≤ st 30 0 0 1 by omega) b1.2 hu.1 hu.2
  have hm0 := mlen0
  have eR : ∀ i, allA (aM st) 0 i head = TA (aM st) head (infA (aM st) i) := fun i => by
    rw [allA_TA]
    have : byA (aM st) 0 i = infA (aM st) i := by funext x; unfold byA; rw [if_pos rfl]
    rw [this]
  have eM : ∀ i, allA (aM st) 2 i head = TA (aM st) head (mmB (aM st) i) := fun i => by
    rw [allA_TA]
    have : byA (aM st) 2 i = mmB (aM st) i := by funext x; unfold byA; rw [if_neg (by omega), if_neg (by omega)]
    rw [this]
  have LM : (∀ k, 0 ≤ k → k < aM st 2 → 0 ≤ TA (aM st) head (infA (aM st) k)) → (∀ i, 0 ≤ i → i < aM st 2 → ¬ (¬ aM st (6 + 2 * i + 1) = -1 ∧ aM st (6 + 2 * i + 1) * unitA (aM st) < TA (aM st) head (infA (aM st) i))) →
      ∀ (f : Nat) (v : Int), 0 ≤ v → v ≤ st 30 0 0 0 + 1 → (∀ m, 0 ≤ m → m < v → ¬ aM st 1 * unitA (aM st) < iabs (TA (aM st) head (mmB (aM st) m))) → st 30 0 0 0 + 1 - v < f → f9_dangerAt_l110 Q head f st v := by
    intro hl1 hb f
    induction f with
    | zero => intro v a1 a2 a3 a4; omega
    | succ f ih =>
      intro v a1 a2 a3 a4
      unfold f9_dangerAt_l110 f9_places
      refine ⟨inI_s (by omega) (by omega), inI_s (by omega) (by omega), fun c => ?_, fun c => ?_⟩
      · have := dngA_0 hl1 hb (fun m m0 m1 => a3 m m0 (by have m1 : m ≤ st 30 0 0 0 := m1; omega))
        rwa [this] at h
      · refine W9_all hF hl (by omega) (by omega) (fun e => absurd e (by omega)) (by omega) (by omega) hh hh2 ?_
        rw [eM]
        have hb1 := TAm_b hF head a1 (show v ≤ 30 by omega)
        have hb2 := iabs_b hb1.1 hb1.2
        have hb3 := iabs_nn (TA (aM st) head (mmB (aM st) v))
        refine W9_size (inL_s (by omega) (by omega)) ?_
        rw [hl.1]
        refine ⟨inI_s (by omega) (by omega), inL_s (by omega) (by omega), inL_s (by omega) (by omega), fun c2 => ?_, fun c2 => ?_⟩
        · rintro _ rfl
          refine ih (v + 1) (by omega) (by omega) (fun m m0 m1 => ?_) (by omega)
          by_cases e : m = v
          · rw [e]
            show ¬ st 30 0 0 1 * unitA (aM st) < iabs (TA (aM st) head (mmB (aM st) v))
            omega
          · exact a3 m m0 (by omega)
        · have := dngA_3 hl1 hb a1 (show v ≤ aM st 0 by show v ≤ st 30 0 0 0; omega) (show st 30 0 0 1 * unitA (aM st) < iabs (TA (aM st) head (mmB (aM st) v)) by omega)
          rwa [this] at h
  have LS : ∀ (f : Nat) (v2 v3 v : Int), 0 ≤ v → v ≤ st 30 0 0 2 → ((v2 = 0 ∧ ∀ k, 0 ≤ k → k < v → 0 ≤ TA (aM st) head (infA (aM st) k)) ∨ (v2 = 1 ∧ ∃ k, 0 ≤ k ∧ k < v ∧ TA (aM st) head (infA (aM st) k) < 0)) →
      ((v3 = 0 ∧ ∀ i, 0 ≤ i → i < v → ¬ (¬ aM st (6 + 2 * i + 1) = -1 ∧ aM st (6 + 2 * i + 1) * unitA (aM st) < TA (aM st) head (infA (aM st) i))) ∨ (v3 = 1 ∧ ∃ i, 0 ≤ i ∧ i < v ∧ (¬ aM st (6 + 2 * i + 1) = -1 ∧ aM st (6 + 2 * i + 1) * unitA (aM st) < TA (aM st) head (infA (aM st) i)))) → st 30 0 0 2 - v < f → f9_dangerAt_l7 Q head f st v2 v3 v := by
    intro f
    induction f with
    | zero => intro v2 v3 v a1 a2 a3 a4 a5; omega
    | succ f ih =>
      intro v2 v3 v a1 a2 a3 a4 a5
      have i2 : inI v2 := inI_s (by omega) (by omega)
      have i3 : inI v3 := inI_s (by omega) (by omega)
      unfold f9_dangerAt_l7
      refine ⟨inI_s (by omega) (by omega), inI_s (by omega) (by omega), fun c => ⟨i2, fun e2 => ⟨i3, fun e3 => ?_, fun e3 => ?_⟩, fun e2 => ?_⟩, fun c => ?_⟩
      · obtain ⟨_, h2⟩ | ⟨h2, _⟩ := a3
        · obtain ⟨_, h3⟩ | ⟨h3, _⟩ := a4
          · exact ⟨100, LM (fun k k0 k1 => h2 k k0 (by have k1 : k < st 30 0 0 2 := k1; omega)) (fun k k0 k1 => h3 k k0 (by have k1 : k < st 30 0 0 2 := k1; omega)) 100 0 (by omega) (by omega) (fun m m0 m1 => by omega) (by omega)⟩
          · omega
        · omega
      · obtain ⟨_, h2⟩ | ⟨h2, _⟩ := a3
        · obtain ⟨h3, _⟩ | ⟨_, i, i0, i1, i4⟩ := a4
          · omega
          · have := dngA_2 (fun k k0 k1 => h2 k k0 (by have k1 : k < st 30 0 0 2 := k1; omega)) i0 (show i < st 30 0 0 2 by omega) i4
            unfold f9_dangerAt_j97
            rw [this] at h
            exact ⟨i2, fun _ => h, fun z => absurd e2 z⟩
        · omega
      · obtain ⟨h2, _⟩ | ⟨_, k, k0, k1, k4⟩ := a3
        · omega
        · have := dngA_1 k0 (show k < st 30 0 0 2 by omega) k4
          unfold f9_dangerAt_j97
          rw [this] at h
          exact ⟨i2, fun z => absurd z e2, fun _ => h⟩
      · refine W9_all hF hl (by omega) (by omega) (fun _ => ⟨a1, by omega⟩) (by omega) (by omega) hh hh2 ?_
        rw [eR]
        have hb1 := TAi_b hF head v
        have hbv : -1 ≤ st 30 0 0 (6 + 2 * v + 1) ∧ st 30 0 0 (6 + 2 * v + 1) ≤ 99999 := hA.2.2 v a1 (by show v < st 30 0 0 2; omega)
        have hm := mulB (show -99999 ≤ st 30 0 0 (6 + 2 * v + 1) by omega) hbv.2 hu.1 hu.2
        -- the bearing
        have J : ∀ w2 : Int, ((w2 = 0 ∧ ∀ k, 0 ≤ k → k < v + 1 → 0 ≤ TA (aM st) head (infA (aM st) k)) ∨ (w2 = 1 ∧ ∃ k, 0 ≤ k ∧ k < v + 1 ∧ TA (aM st) head (infA (aM st) k) < 0)) → f9_dangerAt_j44 (fun st v2x7 v3x7 v4x7 => f9_dangerAt_l7 Q head f st v2x7 v3x7 v4x7) Q head st v3 v (TA (aM st) head (infA (aM st) v)) w2 := by
          intro w2 hw
          have G : ∀ w3 : Int, ((w3 = 0 ∧ ∀ i, 0 ≤ i → i < v + 1 → ¬ (¬ aM st (6 + 2 * i + 1) = -1 ∧ aM st (6 + 2 * i + 1) * unitA (aM st) < TA (aM st) head (infA (aM st) i))) ∨ (w3 = 1 ∧ ∃ i, 0 ≤ i ∧ i < v + 1 ∧ (¬ aM st (6 + 2 * i + 1) = -1 ∧ aM st (6 + 2 * i + 1) * unitA (aM st) < TA (aM st) head (infA (aM st) i)))) → f9_dangerAt_j82 (fun st v2x7 v3x7 v4x7 => f9_dangerAt_l7 Q head f st v2x7 v3x7 v4x7) Q head st w2 v w3 := by
            intro w3 hw3
            unfold f9_dangerAt_j82
            rintro _ rfl
            exact ih w2 w3 (v + 1) (by omega) (by omega) hw hw3 (by omega)
          have G0 : v3 = 0 → ¬ (¬ aM st (6 + 2 * v + 1) = -1 ∧ aM st (6 + 2 * v + 1) * unitA (aM st) < TA (aM st) head (infA (aM st) v)) → f9_dangerAt_j81 (fun st v2x7 v3x7 v4x7 => f9_dangerAt_l7 Q head f st v2x7 v3x7 v4x7) Q head st w2 v := by
            intro e3 q
            unfold f9_dangerAt_j81
            refine G 0 (Or.inl ⟨rfl, fun i i0 i1 => ?_⟩)
            by_cases e : i = v
            · rw [e]; exact q
            · obtain ⟨_, h3⟩ | ⟨h3, _⟩ := a4
              · exact h3 i i0 (by omega)
              · omega
          unfold f9_dangerAt_j44 f9_bearsOf
          refine ⟨i3, fun e3 => ⟨by omega, by omega, inI_s (by omega) (by omega), fun e => G0 e3 (fun q => q.1 e), fun e => ⟨by omega, by omega, ?_⟩⟩, fun e3 => ?_⟩
          · dsimp only
            rw [hl.1]
            refine ⟨inI_s (by omega) (by omega), inL_s (by omega) (by omega), inL_s (by omega) (by omega), fun c2 => G0 e3 (fun q => ?_), fun c2 => ?_⟩
            · have := q.2
              have : st 30 0 0 (6 + 2 * v + 1) * unitA (aM st) < TA (aM st) head (infA (aM st) v) := this
              omega
            · unfold f9_dangerAt_j77
              exact G 1 (Or.inr ⟨rfl, v, a1, by omega, e, by show st 30 0 0 (6 + 2 * v + 1) * unitA (aM st) < TA (aM st) head (infA (aM st) v); omega⟩)
          · unfold f9_dangerAt_j77
            obtain ⟨h3, _⟩ | ⟨_, i, p0, p1, p4⟩ := a4
            · omega
            · exact G 1 (Or.inr ⟨rfl, i, p0, by omega, p4⟩)
        refine ⟨i2, fun e2 => ⟨inL_s (by omega) (by omega), fun c2 => J 0 (Or.inl ⟨rfl, fun k k0 k1 => ?_⟩), fun c2 => ?_⟩, fun e2 => ?_⟩
        · by_cases e : k = v
          · rw [e]; exact c2
          · obtain ⟨_, h3⟩ | ⟨h3, _⟩ := a3
            · exact h3 k k0 (by omega)
            · omega
        · unfold f9_dangerAt_j39
          exact J 1 (Or.inr ⟨rfl, v, a1, by omega, by omega⟩)
        · unfold f9_dangerAt_j39
          obtain ⟨h3, _⟩ | ⟨_, k, k0, k1, k4⟩ := a3
          · omega
          · exact J 1 (Or.inr ⟨rfl, k, k0, by omega, k4⟩)
  unfold f9_dangerAt
  exact ⟨100, LS 100 0 0 0 (by omega) (by omega) (Or.inl ⟨rfl, fun k k0 k1 => by omega⟩) (Or.inl ⟨rfl, fun k k0 k1 => by omega⟩) (by omega)⟩
