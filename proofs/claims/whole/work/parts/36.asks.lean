/-! the questions, of the model and of the class -/
theorem gate {B : St → Prop} {Q : Int → St → Prop} {st : St} {c : Int} (h0 : 0 ≤ c) (h3 : c ≤ 3) (hb : c = 0 → B (up st 9 6 0 0 c)) (hq : 0 < c → Q 0 (up st 9 6 0 0 c)) : ∀ st9 : St, st9 = up st 9 6 0 0 c → inI (st9 9 6 0 0) ∧ ((st9 9 6 0 0 ≤ 0 → B st9) ∧ (¬ st9 9 6 0 0 ≤ 0 → Q 0 st9)) := by
  rintro _ rfl
  have e : up st 9 6 0 0 c 9 6 0 0 = c := by rw [up_eq, if_pos ⟨rfl, rfl, rfl, rfl⟩]
  rw [e]
  exact ⟨inI_s (by omega) (by omega), fun q => hb (by omega), fun q => hq (by omega)⟩
/-- the model's state, between questions -/
def MR (st : St) : Prop := VD (aM st) ∧ ¬ DA (aM st) (-1) 0 = 0 ∧ ∀ j, bL (st 37 0 0 j)
/-- a question of the model changes no more than this -/
def FQ (st st' : St) : Prop := (∀ K s i j, ¬ (K = 36 ∨ K = 37 ∨ (K = 9 ∧ (s = 18 ∨ s = 6))) → st' K s i j = st K s i j) ∧ ∀ j, bL (st' 37 0 0 j)
theorem FQ.aM {a b : St} (h : FQ a b) : aM b = aM a := by funext j; exact h.1 30 0 0 j (by omega)
theorem FQ.up6 {st : St} {c : Int} (h : ∀ j, bL (st 37 0 0 j)) : FQ st (up st 9 6 0 0 c) := ⟨fun K s i j hK => up_ne (fun q => hK (Or.inr (Or.inr ⟨q.1, Or.inr q.2.1⟩))), fun j => by rw [up_ne (by omega)]; exact h j⟩
theorem W9_lays2 {Q : St → Prop} {st : St} {c : Int} (hM : MR st) (h : ∀ s, FQ st s → s 9 6 0 0 = c → LW s → aM s = aM st → Q s) : f9_lays Q (up st 9 6 0 0 c) := by
  have eA : aM (up st 9 6 0 0 c) = aM st := by funext j; exact up_ne (by omega)
  have hbl : ∀ j, bL (up st 9 6 0 0 c 37 0 0 j) := fun j => by rw [up_ne (by omega)]; exact hM.2.2 j
  refine W9_lays (by rw [eA]; exact hM.1.1.1) (by rw [eA]; exact hM.2.1) hbl (fun s f u v => ?_)
  have eB : aM s = aM st := by
    rw [← eA]
    funext j
    exact f.1 30 0 0 j (by omega)
  rw [eA] at u v
  have e0 : s 30 0 0 0 = up st 9 6 0 0 c 30 0 0 0 := f.1 30 0 0 0 (by omega)
  have e2 : s 30 0 0 2 = up st 9 6 0 0 c 30 0 0 2 := f.1 30 0 0 2 (by omega)
  refine h s ⟨fun K s2 i j hK => (f.1 K s2 i j (by omega)).trans (up_ne (fun q => hK (Or.inr (Or.inr ⟨q.1, Or.inr q.2.1⟩)))), f.2⟩ ?_ ⟨by rw [eB]; exact u, ?_⟩ eB
  · rw [f.1 9 6 0 0 (by omega), up_eq, if_pos ⟨rfl, rfl, rfl, rfl⟩]
  · rw [e0, e2, eB]
    exact v
theorem W9_isSupport {Q : Int → St → Prop} {st : St} {v : Int} (hA : VC (aM st)) (hv : inI v) (h : Q (if 0 ≤ v ∧ v < st 30 0 0 2 then 1 else 0) st) : f9_isSupport Q st v := by
  have n2 : 2 ≤ st 30 0 0 2 := hA.2.2.1
  have n5 : st 30 0 0 2 ≤ 5 := hA.2.2.2.1
  unfold f9_isSupport
  refine W9_isIn hv (inI_s (by omega) (by omega)) (inI_s (by omega) (by omega)) ⟨?_, ?_⟩
  · split
    · exact Or.inr rfl
    · exact Or.inl rfl
  · by_cases c : 0 ≤ v ∧ v < st 30 0 0 2
    · rw [if_pos c] at h
      rw [if_pos (by omega)]
      exact h
    · rw [if_neg c] at h
      rw [if_neg (by omega)]
      exact h
theorem W9_isField {Q : Int → St → Prop} {st : St} {v : Int} (hA : VC (aM st)) (hv : inI v) (h : Q (if 0 ≤ v ∧ v < st 30 0 0 0 then 1 else 0) st) : f9_isField Q st v := by
  have l2 : 2 ≤ st 30 0 0 0 := hA.1
  have l3 : st 30 0 0 0 ≤ 30 := hA.2.1
  unfold f9_isField
  refine W9_isIn hv (inI_s (by omega) (by omega)) (inI_s (by omega) (by omega)) ⟨?_, ?_⟩
  · split
    · exact Or.inr rfl
    · exact Or.inl rfl
  · by_cases c : 0 ≤ v ∧ v < st 30 0 0 0
    · rw [if_pos c] at h
      rw [if_pos (by omega)]
      exact h
    · rw [if_neg c] at h
      rw [if_neg (by omega)]
      exact h
theorem W9_isHead {Q : Int → St → Prop} {st : St} {v : Int} (hA : VF (aM st)) (hv : inI v) (h : Q (if -1 ≤ v ∧ v ≤ lhA (aM st) then 1 else 0) st) : f9_isHead Q st v := by
  have hb := lhA_b hA
  unfold f9_isHead
  refine W9_lastHead hA (W9_isIn hv (inI_s (by omega) (by omega)) (inI_s (by omega) (by omega)) ⟨?_, h⟩)
  split
  · exact Or.inr rfl
  · exact Or.inl rfl
/-- two conditions, then a body -/
theorem W9_reactionLine {Q : Int → St → Prop} {st : St} {a0 a1 : Int} (hM : MR st) (h0 : inI a0) (h1 : inI a1)
    (hq : 0 ≤ a0 → a0 < aM st 2 → 0 ≤ a1 → a1 ≤ aM st 0 → ∀ s, FQ st s → s 9 6 0 0 = 0 → Q (infA (aM st) a0 a1) s)
    (hx : ¬ ((0 ≤ a0 ∧ a0 < aM st 2) ∧ 0 ≤ a1 ∧ a1 ≤ aM st 0) → ∀ s, FQ st s → s 9 6 0 0 = 1 → Q 0 s) : f9_reactionLine Q st a0 a1 := by
  have hC := hM.1.1.1
  have bad : ¬ ((0 ≤ a0 ∧ a0 < aM st 2) ∧ 0 ≤ a1 ∧ a1 ≤ aM st 0) → f9_reactionLine_j21 Q a0 a1 st := fun c => by
    unfold f9_reactionLine_j21 f9_reactionLine_j22
    exact gate (by omega) (by omega) (fun e => absurd e (by omega)) (fun _ => hx c _ (FQ.up6 hM.2.2) (by rw [up_eq, if_pos ⟨rfl, rfl, rfl, rfl⟩]))
  unfold f9_reactionLine
  refine W9_isSupport hC h0 ?_
  by_cases c : 0 ≤ a0 ∧ a0 < st 30 0 0 2
  · rw [if_pos c]
    refine ⟨inI_1, fun e => absurd e (by omega), fun _ => W9_isPlace hC h1 ?_⟩
    by_cases d : 0 ≤ a1 ∧ a1 ≤ st 30 0 0 0
    · rw [if_pos d]
      refine ⟨inI_1, fun e => absurd e (by omega), fun _ => ?_⟩
      unfold f9_reactionLine_j22
      refine gate (by omega) (by omega) (fun _ => ?_) (fun e => absurd e (by omega))
      refine W9_lays2 hM (fun s f e6 hl eA => ?_)
      have e0 : s 30 0 0 0 = st 30 0 0 0 := congrFun eA 0
      have e2 : s 30 0 0 2 = st 30 0 0 2 := congrFun eA 2
      refine W9_reactionBy (by rw [eA]; exact hC) hl c.1 (by omega) d.1 (by omega) ?_
      rw [eA]
      exact hq c.1 c.2 d.1 d.2 s f e6
    · rw [if_neg d]
      exact ⟨inI_0, fun _ => bad (fun q => d q.2), fun e => absurd rfl e⟩
  · rw [if_neg c]
    exact ⟨inI_0, fun _ => bad (fun q => c q.1), fun e => absurd rfl e⟩
theorem W9_shearLine {Q : Int → St → Prop} {st : St} {a0 a1 : Int} (hM : MR st) (h0 : inI a0) (h1 : inI a1)
    (hq : 0 ≤ a0 → a0 < aM st 0 → 0 ≤ a1 → a1 ≤ aM st 0 → ∀ s, FQ st s → s 9 6 0 0 = 0 → Q (shB (aM st) a0 a1) s)
    (hx : ¬ ((0 ≤ a0 ∧ a0 < aM st 0) ∧ 0 ≤ a1 ∧ a1 ≤ aM st 0) → ∀ s, FQ st s → s 9 6 0 0 = 1 → Q 0 s) : f9_shearLine Q st a0 a1 := by
  have hC := hM.1.1.1
  have bad : ¬ ((0 ≤ a0 ∧ a0 < aM st 0) ∧ 0 ≤ a1 ∧ a1 ≤ aM st 0) → f9_shearLine_j21 Q a0 a1 st := fun c => by
    unfold f9_shearLine_j21 f9_shearLine_j22
    exact gate (by omega) (by omega) (fun e => absurd e (by omega)) (fun _ => hx c _ (FQ.up6 hM.2.2) (by rw [up_eq, if_pos ⟨rfl, rfl, rfl, rfl⟩]))
  unfold f9_shearLine
  refine W9_isField hC h0 ?_
  by_cases c : 0 ≤ a0 ∧ a0 < st 30 0 0 0
  · rw [if_pos c]
    refine ⟨inI_1, fun e => absurd e (by omega), fun _ => W9_isPlace hC h1 ?_⟩
    by_cases d : 0 ≤ a1 ∧ a1 ≤ st 30 0 0 0
    · rw [if_pos d]
      refine ⟨inI_1, fun e => absurd e (by omega), fun _ => ?_⟩
      unfold f9_shearLine_j22
      refine gate (by omega) (by omega) (fun _ => ?_) (fun e => absurd e (by omega))
      refine W9_lays2 hM (fun s f e6 hl eA => ?_)
      have e0 : s 30 0 0 0 = st 30 0 0 0 := congrFun eA 0
      refine W9_shearBy (by rw [eA]; exact hC) hl h0 d.1 (by omega) ?_
      rw [eA]
      exact hq c.1 c.2 d.1 d.2 s f e6
    · rw [if_neg d]
      exact ⟨inI_0, fun _ => bad (fun q => d q.2), fun e => absurd rfl e⟩
  · rw [if_neg c]
    exact ⟨inI_0, fun _ => bad (fun q => c q.1), fun e => absurd rfl e⟩
theorem W9_momentLine {Q : Int → St → Prop} {st : St} {a0 a1 : Int} (hM : MR st) (h0 : inI a0) (h1 : inI a1)
    (hq : 0 ≤ a0 → a0 ≤ aM st 0 → 0 ≤ a1 → a1 ≤ aM st 0 → ∀ s, FQ st s → s 9 6 0 0 = 0 → Q (mmB (aM st) a0 a1) s)
    (hx : ¬ ((0 ≤ a0 ∧ a0 ≤ aM st 0) ∧ 0 ≤ a1 ∧ a1 ≤ aM st 0) → ∀ s, FQ st s → s 9 6 0 0 = 1 → Q 0 s) : f9_momentLine Q st a0 a1 := by
  have hC := hM.1.1.1
  have l3 : st 30 0 0 0 ≤ 30 := hC.2.1
  have bad : ¬ ((0 ≤ a0 ∧ a0 ≤ aM st 0) ∧ 0 ≤ a1 ∧ a1 ≤ aM st 0) → f9_momentLine_j21 Q a0 a1 st := fun c => by
    unfold f9_momentLine_j21 f9_momentLine_j22
    exact gate (by omega) (by omega) (fun e => absurd e (by omega)) (fun _ => hx c _ (FQ.up6 hM.2.2) (by rw [up_eq, if_pos ⟨rfl, rfl, rfl, rfl⟩]))
  unfold f9_momentLine
  refine W9_isPlace hC h0 ?_
  by_cases c : 0 ≤ a0 ∧ a0 ≤ st 30 0 0 0
  · rw [if_pos c]
    refine ⟨inI_1, fun e => absurd e (by omega), fun _ => W9_isPlace hC h1 ?_⟩
    by_cases d : 0 ≤ a1 ∧ a1 ≤ st 30 0 0 0
    · rw [if_pos d]
      refine ⟨inI_1, fun e => absurd e (by omega), fun _ => ?_⟩
      unfold f9_momentLine_j22
      refine gate (by omega) (by omega) (fun _ => ?_) (fun e => absurd e (by omega))
      refine W9_lays2 hM (fun s f e6 hl eA => ?_)
      have e0 : s 30 0 0 0 = st 30 0 0 0 := congrFun eA 0
      refine W9_momentBy (by rw [eA]; exact hC) hl (by omega) (by omega) d.1 (by omega) ?_
      rw [eA]
      exact hq c.1 c.2 d.1 d.2 s f e6
    · rw [if_neg d]
      exact ⟨inI_0, fun _ => bad (fun q => d q.2), fun e => absurd rfl e⟩
  · rw [if_neg c]
    exact ⟨inI_0, fun _ => bad (fun q => c q.1), fun e => absurd rfl e⟩
