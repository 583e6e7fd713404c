/-! a text says one thing -/
def cpsR {α : Type} (f : (α → Prop) → (Int → Int → Prop) → Prop) : Prop := (∃ a, ∀ K E, K a → f K E) ∨ ∃ c p, ∀ (K : α → Prop) (E : Int → Int → Prop), E c p → f K E
section Res
variable {T : Int → Int} {n : Int}
theorem sNum_R {lo hi : Int} {t : Nat} : cpsR (sNum T n lo hi t) := by
  by_cases a : kdT T n t = 2
  · by_cases b : lo ≤ vaT T n t ∧ vaT T n t ≤ hi
    · exact Or.inl ⟨_, fun K E k => ⟨fun _ => ⟨fun _ => k, fun z => absurd b z⟩, fun z => absurd a z⟩⟩
    · exact Or.inr ⟨_, _, fun K E e => ⟨fun _ => ⟨fun z => absurd z b, fun _ => e⟩, fun z => absurd a z⟩⟩
  · exact Or.inr ⟨_, _, fun K E e => ⟨fun z => absurd z a, fun _ => e⟩⟩
theorem sWord_R {w t : Nat} : cpsR (fun K E => sWord T n w t (K ()) E) := by
  by_cases a : isWp T n w t
  · exact Or.inl ⟨(), fun K E k => ⟨fun _ => k, fun z => absurd a z⟩⟩
  · exact Or.inr ⟨_, _, fun K E e => ⟨fun z => absurd z a, fun _ => e⟩⟩
theorem sSemi_R {t : Nat} : cpsR (fun K E => sSemi T n t (K ()) E) := by
  by_cases a : kdT T n t = 3
  · exact Or.inl ⟨(), fun K E k => ⟨fun _ => k, fun z => absurd a z⟩⟩
  · exact Or.inr ⟨_, _, fun K E e => ⟨fun z => absurd z a, fun _ => e⟩⟩
theorem sName_R {full : Prop} {t : Nat} : cpsR (fun K E => sName T n full t (K ()) E) := by
  by_cases a : full
  · exact Or.inr ⟨_, _, fun K E e => ⟨fun _ => e, fun z => absurd a z⟩⟩
  · exact Or.inl ⟨(), fun K E k => ⟨fun z => absurd z a, fun _ => k⟩⟩
/-- one after the other -/
theorem cps_bind {α β : Type} {f : (α → Prop) → (Int → Int → Prop) → Prop} {g : α → (β → Prop) → (Int → Int → Prop) → Prop} (hf : cpsR f) (hg : ∀ a, cpsR (g a)) : cpsR (fun K E => f (fun a => g a K E) E) := by
  rcases hf with ⟨a, ha⟩ | ⟨c, p, hc⟩
  · rcases hg a with ⟨b, hb⟩ | ⟨c, p, hc⟩
    · exact Or.inl ⟨b, fun K E k => ha _ E (hb K E k)⟩
    · exact Or.inr ⟨c, p, fun K E e => ha _ E (hc K E e)⟩
  · exact Or.inr ⟨c, p, fun K E e => hc _ E e⟩
theorem cps_if {α : Type} {P : Prop} {f g : (α → Prop) → (Int → Int → Prop) → Prop} (hf : cpsR f) (hg : cpsR g) : cpsR (fun K E => (P → f K E) ∧ (¬ P → g K E)) := by
  by_cases a : P
  · rcases hf with ⟨b, hb⟩ | ⟨c, p, hc⟩
    · exact Or.inl ⟨b, fun K E k => ⟨fun _ => hb K E k, fun z => absurd a z⟩⟩
    · exact Or.inr ⟨c, p, fun K E e => ⟨fun _ => hc K E e, fun z => absurd a z⟩⟩
  · rcases hg with ⟨b, hb⟩ | ⟨c, p, hc⟩
    · exact Or.inl ⟨b, fun K E k => ⟨fun z => absurd z a, fun _ => hb K E k⟩⟩
    · exact Or.inr ⟨c, p, fun K E e => ⟨fun z => absurd z a, fun _ => hc K E e⟩⟩
theorem cps_ret {α : Type} (a : α) : cpsR (fun (K : α → Prop) _ => K a) := Or.inl ⟨a, fun _ _ k => k⟩
theorem cps_err {α : Type} (c p : Int) : cpsR (fun (_ : α → Prop) E => E c p) := Or.inr ⟨c, p, fun _ _ e => e⟩
/-- what a statement gives: the next token and the beam -/
theorem sFree_R {A : Int → Int} {lo hi : Int} {t : Nat} : cpsR (sFree T n A lo hi t) := cps_bind (g := fun v K E => (taken A v → E (-4) (tkS T n t)) ∧ (¬ taken A v → K v)) sNum_R (fun v => cps_if (cps_err _ _) (cps_ret v))
theorem cps_u {β : Type} {f : (Unit → Prop) → (Int → Int → Prop) → Prop} {g : (β → Prop) → (Int → Int → Prop) → Prop} (hf : cpsR f) (hg : cpsR g) : cpsR (fun K E => f (fun _ => g K E) E) := cps_bind (g := fun _ => g) hf (fun _ => hg)
theorem sSemi_r {t t' : Nat} {A : Int → Int} : cpsR (fun (K : Nat × (Int → Int) → Prop) E => sSemi T n t (K (t', A)) E) := cps_u (f := fun K E => sSemi T n t (K ()) E) (g := fun K _ => K (t', A)) sSemi_R (cps_ret _)
theorem sSupport_R {A : Int → Int} {t : Nat} : cpsR (fun (K : Nat × (Int → Int) → Prop) E => sSupport T n A t (fun t' A' => K (t', A')) E) := by
  refine cps_u (f := fun K E => sName T n (A 2 = 5) t (K ()) E) sName_R ?_
  refine cps_bind (f := sFree T n A 0 (A 0) (t + 1)) sFree_R (fun v => ?_)
  refine cps_if ?_ sSemi_r
  exact cps_bind (f := sNum T n 1 99999 (t + 3)) sNum_R (fun b => sSemi_r)
theorem sHinge_R {A : Int → Int} {t : Nat} : cpsR (fun (K : Nat × (Int → Int) → Prop) E => sHinge T n A t (fun t' A' => K (t', A')) E) := by
  refine cps_u (f := fun K E => sName T n (A 3 = 3) t (K ()) E) sName_R ?_
  exact cps_bind (f := sFree T n A 1 (A 0 - 1) (t + 1)) sFree_R (fun v => sSemi_r)
theorem sPair_R {A : Int → Int} {c cap i hi : Int} {w t : Nat} : cpsR (fun (K : Nat × (Int → Int) → Prop) E => sPair T n A c cap i w hi t (fun t' A' => K (t', A')) E) := by
  refine cps_u (f := fun K E => sName T n (A c = cap) t (K ()) E) sName_R ?_
  refine cps_bind (f := sNum T n 1 999 (t + 1)) sNum_R (fun x => ?_)
  refine cps_u (f := fun K E => sWord T n w (t + 2) (K ()) E) sWord_R ?_
  exact cps_bind (f := sNum T n 0 hi (t + 3)) sNum_R (fun y => sSemi_r)
theorem sStmt_R {A : Int → Int} {t : Nat} : cpsR (fun (K : Nat × (Int → Int) → Prop) E => sStmt T n A t (fun t' A' => K (t', A')) E) := cps_if sSupport_R (cps_if sHinge_R (cps_if sPair_R (cps_if sPair_R (cps_err _ _))))
theorem sLoop_R : ∀ (m : Nat) (A : Int → Int) (t : Nat), cpsR (fun K E => sLoop T n K E m A t) := by
  intro m
  induction m with
  | zero => intro A t; exact cps_err _ _
  | succ m ih =>
    intro A t
    exact cps_if (cps_ret A) (cps_bind (f := fun (K : Nat × (Int → Int) → Prop) E => sStmt T n A t (fun t' A' => K (t', A')) E) (g := fun x K E => sLoop T n K E m x.2 x.1) sStmt_R (fun x => ih x.2 x.1))
theorem sHead_R : cpsR (fun (K : Nat × (Int → Int) → Prop) E => sHead T n (fun t' A' => K (t', A')) E) := by
  refine cps_u (f := fun K E => sWord T n 0 0 (K ()) E) sWord_R ?_
  refine cps_bind (f := sNum T n 2 30 1) sNum_R (fun x => ?_)
  refine cps_u (f := fun K E => sWord T n 1 2 (K ()) E) sWord_R ?_
  exact cps_bind (f := sNum T n 1 999999 3) sNum_R (fun y => sSemi_r)
theorem sText_R : cpsR (fun K E => sText T n K E) := by
  refine cps_bind (f := fun (K : Nat × (Int → Int) → Prop) E => sHead T n (fun t' A' => K (t', A')) E) (g := fun x K E => sLoop T n (fun A => ((A 2 < 2 ∨ ¬ A 3 = A 2 - 2) → E (-6) n) ∧ (¬ (A 2 < 2 ∨ ¬ A 3 = A 2 - 2) → K A)) E 600 x.2 x.1) sHead_R (fun x => ?_)
  exact cps_bind (f := fun K E => sLoop T n K E 600 x.2 x.1) (g := fun A K E => ((A 2 < 2 ∨ ¬ A 3 = A 2 - 2) → E (-6) n) ∧ (¬ (A 2 < 2 ∨ ¬ A 3 = A 2 - 2) → K A)) (sLoop_R 600 x.2 x.1) (fun A => cps_if (cps_err _ _) (cps_ret A))
theorem sLoad_R : cpsR (fun K E => sLoad T n K E) := cps_bind (f := fun K E => sText T n K E) (g := fun A K E => (DA A (-1) 0 = 0 → E (-7) n) ∧ (¬ DA A (-1) 0 = 0 → K A)) sText_R (fun A => cps_if (cps_err _ _) (cps_ret A))
end Res
