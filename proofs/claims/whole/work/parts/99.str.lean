def tmS (i : Nat) : Term := .string "BeamLines$Reader" ([58, 67, 78, 87, 92, 104, 98, 109, 128].getD i 0)
def tmM (i : Nat) : Term := .string "BeamLinesModel" ([183, 185, 163, 168, 173, 180, 175, 182, 144].getD i 0)
theorem law_str {args : Array Value} {s : State} (hg : (Jvm.Cond.and given_1 narrow_1).before args s = true) : ∃ adK adV : Nat → Nat, vk_S 9 lenW bytW adK adV (fun q => s.heap.size ≤ q) s s.heap ∧ ∀ i : Nat, i < 9 → (tmS i).eval args s none [] s = some (.ref (adK i)) := by
  have hs := flat_of_before _ hg
  refine vk_Sof (tm := tmS) (by decide) (fun i hi => hs _ ?_) (fun i hi => hs _ ?_) (fun i hi => hs _ ?_) (fun i hi => hs _ ?_) (fun i hi j hj => hs _ ?_) (fun i j hi hj hne => ?_) (fun a ha => Nat.not_le.mpr ha)
  · revert i; decide +kernel
  · revert i; decide +kernel
  · revert i; decide +kernel
  · revert i; decide +kernel
  · revert j; revert i; decide +kernel
  · have hp : ∀ i, i < 9 → ∀ j, j < 9 → (i = j ∨ Cond.not (Cond.eq (tmS i) (tmS j)) ∈ flatC (Jvm.Cond.and given_1 narrow_1) ∨ Cond.not (Cond.eq (tmS j) (tmS i)) ∈ flatC (Jvm.Cond.and given_1 narrow_1)) := by decide +kernel
    rcases hp i hi j hj with h | h | h
    · exact absurd h hne
    · exact Or.inl (hs _ h)
    · exact Or.inr (hs _ h)
