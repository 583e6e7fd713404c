/-! the first state -/
def A0 : Int → Int := fun j => i9 30 0 0 j
def a0 : Ab := ((A0, 0, (fun _ _ => 0), (fun _ => 0), (fun _ _ => 0)), (0, fun _ => 0), (0, fun _ => 0), -1)
theorem A0_2 : A0 2 = 2 := rfl
theorem A0_two {k : Int} (h0 : 0 ≤ k) (h1 : k < A0 2) : k = 0 ∨ k = 1 := by rw [A0_2] at h1; omega
theorem A0_VC : VC A0 := by
  refine ⟨by decide, by decide, by decide, by decide, fun t t0 t1 => ?_, fun t t0 t1 => ?_⟩
  · rcases A0_two t0 t1 with rfl | rfl <;> decide
  · exfalso
    have : A0 2 = 2 := rfl
    omega
theorem A0_D : ¬ DA A0 (-1) 0 = 0 := by decide +kernel
theorem A0_VA : VA A0 := by
  refine ⟨⟨⟨A0_VC, fun k k0 k1 => ?_, fun k k0 k1 => ?_, by decide, by decide, fun k k0 k1 => ?_, fun k k0 k1 => ?_⟩, by decide, fun k k0 k1 => ?_⟩, by decide, A0_D⟩
  · rcases A0_two k0 k1 with rfl | rfl <;> decide
  · have : A0 2 = 2 := rfl
    have : k = 0 := by omega
    subst this
    decide
  · exfalso
    have : A0 4 = 0 := rfl
    omega
  · exfalso
    have : A0 5 = 0 := rfl
    omega
  · rcases A0_two k0 k1 with rfl | rfl <;> decide
theorem SM0 : SM i9 a0 := by
  refine ⟨⟨rfl, A0_VA, fun j => ?_, fun j hj => ?_, rfl, by decide, fun k k0 k1 => ?_, fun i i0 i1 => ⟨rfl, inI_0, fun h => absurd rfl h⟩⟩, ⟨rfl, fun j j0 j1 => rfl⟩, ⟨rfl, fun j j0 j1 => rfl⟩, rfl⟩
  · show bL 0
    unfold bL
    omega
  · show (if j = 0 then (10 : Int) else if j = 1 then 100 else if j = 2 then 2 else if j = 7 then -1 else if j = 8 then 10 else if j = 9 then -1 else 0) = 0
    rw [if_neg (by omega), if_neg (by omega), if_neg (by omega), if_neg (by omega), if_neg (by omega), if_neg (by omega)]
  · exact absurd k1 (by show ¬ k < 0; omega)
def u0 : St := insS (insS (up (up i8 0 0 0 0 10) 0 1 0 0 100) (4 * 0) 0 0 (-1)) (4 * 0) 1 10 (-1)
theorem u0_BH : BH u0 0 A0 := by
  refine ⟨by decide, by decide, ⟨⟨by decide, by decide⟩, by decide, fun k k0 k1 => ?_⟩, ⟨⟨by decide, by decide⟩, by decide, fun k k0 k1 => ?_⟩, ⟨⟨by decide, by decide⟩, by decide, fun k k0 k1 => ?_⟩, ⟨⟨by decide, by decide⟩, by decide, fun k k0 k1 => ?_⟩⟩
  · rcases A0_two k0 k1 with rfl | rfl <;> exact ⟨by decide, by decide⟩
  · exfalso
    have : A0 3 = 0 := rfl
    omega
  · exfalso
    have : A0 4 = 0 := rfl
    omega
  · exfalso
    have : A0 5 = 0 := rfl
    omega
theorem SC0 {s : St} (f : F3 0 u0 s) (l : LR s 0 A0) : SC s a0 := by
  have e16 : ∀ k, s 16 0 0 k = 5 + k := fun k => (f 16 0 0 k (by omega)).trans rfl
  refine ⟨⟨A0_VA, u0_BH.fr (fun K s' i j hK => f K s' i j (by omega)), l, ⟨fun k k0 k1 => ?_, fun j k j0 jk k1 => ?_, (f 2 1 0 0 (by omega)).trans rfl, by decide, fun k k0 k1 => ?_⟩, fun k k0 k1 => ?_, fun i i0 i1 => ⟨(f 27 0 0 i (by omega)).trans rfl, inI_0, fun h => absurd rfl h⟩⟩, ⟨(f 7 1 0 0 (by omega)).trans rfl, fun j j0 j1 => ?_⟩, ⟨(f 8 13 0 0 (by omega)).trans rfl, fun j j0 j1 => ?_⟩, (f 8 1 0 0 (by omega)).trans rfl, ⟨⟨⟨fun k k0 k1 => ?_, fun k k0 k1 => ?_⟩, by decide⟩, fun k k0 k1 => ?_, fun i i0 i1 h => absurd rfl h, by decide, fun j j0 j1 => ?_, by decide⟩⟩
  · rw [e16]; omega
  · rw [e16, e16]; omega
  · exact absurd k1 (by show ¬ k < 0; omega)
  · exact absurd k1 (by show ¬ k < 0; omega)
  · exact absurd j1 (by show ¬ j < 0; omega)
  · exact absurd j1 (by show ¬ j < 0; omega)
  · exfalso
    have : A0 3 = 0 := rfl
    have k1 : k < A0 3 := k1
    omega
  · exfalso
    have : A0 3 = 0 := rfl
    have k1 : k + 1 < A0 3 := k1
    omega
  · exact absurd k1 (by show ¬ k < 0; omega)
  · exact absurd j1 (by show ¬ j < 0; omega)
theorem tail0 : f8_tail (fun u => SC u a0) i8 := by
  unfold f8_tail
  rintro _ rfl _ rfl
  refine W6_putInOrder ⟨by decide, by decide⟩ (fun k k0 k1 => absurd k1 (by show ¬ k < 0; omega)) (inI_s (by omega) (by omega)) (by decide) ?_
  refine W6_putInOrder ⟨by decide, by decide⟩ (fun k k0 k1 => ?_) (inI_s (by omega) (by omega)) (by decide) ?_
  · have : k < 1 := k1
    have : k = 0 := by omega
    subst this
    exact inI_s (by decide) (by decide)
  · show f3_reckon 0 0 (fun _ st8 => SC st8 a0) u0
    refine W3_reckon (u0_BH.bf ?_).1 A0_VC (fun s f z => absurd z A0_D) (fun s f z l => SC0 f l)
    rfl
