/-! both sides together: each operation has one outcome -/
abbrev Ab : Type := ((Int → Int) × Int × (Int → Int → Int) × (Int → Int) × (Int → Int → Int)) × (Int × (Int → Int)) × (Int × (Int → Int)) × Int
def PG (a : Ab) : Prop := HM a.1.1 ∧ (∀ k, 0 ≤ k → k < a.1.2.1 → HM (a.1.2.2.1 k)) ∧ (∀ i, 0 ≤ i → i < 2 → ¬ a.1.2.2.2.1 i = 0 → HM (a.1.2.2.2.2 i)) ∧ (0 ≤ a.2.1.1 ∧ a.2.1.1 ≤ 500) ∧ TB a.2.1.2 a.2.1.1 ∧ (0 ≤ a.2.2.1.1 ∧ a.2.2.1.1 ≤ 31)
def CSa (st : St) (a : Ab) : Prop := CS st a.1.1 a.1.2.1 a.1.2.2.1 a.1.2.2.2.1 a.1.2.2.2.2
def MSa (st : St) (a : Ab) : Prop := MS st a.1.1 a.1.2.1 a.1.2.2.1 a.1.2.2.2.1 a.1.2.2.2.2
def SC (st : St) (a : Ab) : Prop := CSa st a ∧ TXc st a.2.1.1 a.2.1.2 ∧ WC st a.2.2.1.1 a.2.2.1.2 ∧ st 8 1 0 0 = a.2.2.2 ∧ PG a
def SM (st : St) (a : Ab) : Prop := MSa st a ∧ TXm st a.2.1.1 a.2.1.2 ∧ WM st a.2.2.1.1 a.2.2.1.2 ∧ st 9 15 0 0 = a.2.2.2
/-- the outcome: a code, what is answered if it is 0, the state -/
def O8 (c : Int) (P : Int → Prop) (a : Ab) : Int → St → Prop := fun z u => c = 0 ∧ P z ∧ SC u a
def O9 (c : Int) (P : Int → Prop) (a : Ab) : Int → St → Prop := fun z u => (c = 0 → P z) ∧ u 9 6 0 0 = c ∧ SM u a
def X8 (m : String → Int) (c : Int) (a : Ab) : String → St → Prop := fun E u => ¬ c = 0 ∧ m E = c ∧ SC u a
def one (P : Int → Prop) : Prop := ∀ u v, P u → P v → u = v
theorem one_eq (v : Int) : one (fun z => z = v) := fun a b h g => h.trans g.symm
/-- which code an exception has -/
def mI (E : String) : Int := if E = "java/lang/IndexOutOfBoundsException" then 1 else if E = "java/lang/IllegalArgumentException" then 2 else 0
def mO (E : String) : Int := if E = "java/lang/IndexOutOfBoundsException" then 1 else 0
def mA (E : String) : Int := if E = "java/lang/IllegalArgumentException" then 1 else 0
def mS (E : String) : Int := if E = "java/lang/IllegalStateException" then 1 else 0
def mR (E : String) : Int := if E = "java/lang/IndexOutOfBoundsException" then 1 else if E = "java/lang/IllegalStateException" then 2 else 0
theorem mI_1 : mI "java/lang/IndexOutOfBoundsException" = 1 := by decide
theorem mO_1 : mO "java/lang/IndexOutOfBoundsException" = 1 := by decide
theorem mI_2 : mI "java/lang/IllegalArgumentException" = 2 := by decide
theorem mA_1 : mA "java/lang/IllegalArgumentException" = 1 := by decide
theorem mS_1 : mS "java/lang/IllegalStateException" = 1 := by decide
theorem mR_1 : mR "java/lang/IndexOutOfBoundsException" = 1 := by decide
theorem mR_2 : mR "java/lang/IllegalStateException" = 2 := by decide
theorem F1.fc {a b : St} (h : F1 0 a b) : FC a b := fun K s i j hK => h K s i j (by omega)
theorem F14.fc {a b : St} (h : F14 a b) : FC a b := fun K s i j hK => h K s i j (by omega)
theorem SC.q {st st' : St} {a : Ab} (h : SC st a) (f : FC st st') (c : CSa st' a) : SC st' a := ⟨c, h.2.1.fr (fun K s i j hK => f K s i j (by omega)), ⟨(f 8 13 0 0 (by omega)).trans h.2.2.1.1, fun j j0 j1 => (f 28 0 0 j (by omega)).trans (h.2.2.1.2 j j0 j1)⟩, (f 8 1 0 0 (by omega)).trans h.2.2.2.1, h.2.2.2.2⟩
theorem SC.ch {st st' : St} {a : Ab} {A : Int → Int} {n : Int} {B : Int → Int → Int} {F : Int → Int} {S : Int → Int → Int} (h : SC st a) (f : FC st st') (c : CS st' A n B F S) (g : HM A) (gB : ∀ k, 0 ≤ k → k < n → HM (B k)) (gS : ∀ i, 0 ≤ i → i < 2 → ¬ F i = 0 → HM (S i)) : SC st' ((A, n, B, F, S), a.2) := ⟨c, h.2.1.fr (fun K s i j hK => f K s i j (by omega)), ⟨(f 8 13 0 0 (by omega)).trans h.2.2.1.1, fun j j0 j1 => (f 28 0 0 j (by omega)).trans (h.2.2.1.2 j j0 j1)⟩, (f 8 1 0 0 (by omega)).trans h.2.2.2.1, g, gB, gS, h.2.2.2.2.2.2.2⟩
theorem SM.t {st st' : St} {a : Ab} (h : SM st a) (f : FT st st') : SM st' a := ⟨h.1.ft f, h.2.1.fr (fun K s i j hK => f.1 K s i j (by omega)), ⟨(f.1 9 21 0 0 (by omega)).trans h.2.2.1.1, fun j j0 j1 => (f.1 30 0 6 j (by omega)).trans (h.2.2.1.2 j j0 j1)⟩, (f.1 9 15 0 0 (by omega)).trans h.2.2.2⟩
theorem SM.q {st st' : St} {a : Ab} (h : SM st a) (f : FQ st st') : SM st' a := h.t f.ft
theorem SM.ch {st st' : St} {a : Ab} {A : Int → Int} {n : Int} {B : Int → Int → Int} {F : Int → Int} {S : Int → Int → Int} (h : SM st a) (f : FD st st') (c : MS st' A n B F S) : SM st' ((A, n, B, F, S), a.2) := ⟨c, h.2.1.fr (fun K s i j hK => f K s i j (by omega)), ⟨(f 9 21 0 0 (by omega)).trans h.2.2.1.1, fun j j0 j1 => (f 30 0 6 j (by omega)).trans (h.2.2.1.2 j j0 j1)⟩, (f 9 15 0 0 (by omega)).trans h.2.2.2⟩
theorem pushB_G {n : Int} {B : Int → Int → Int} {A : Int → Int} (hA : HM A) (hB : ∀ k, 0 ≤ k → k < n → HM (B k)) (hn : 0 ≤ n ∧ n ≤ 8) : ∀ k, 0 ≤ k → k < pushN n → HM (pushB n B A k) := by
  intro k k0 k1
  unfold pushN at k1
  unfold pushB
  by_cases c : n < 8
  · rw [if_pos c] at k1 ⊢
    by_cases d : k = n
    · rw [if_pos d]; exact hA
    · rw [if_neg d]; exact hB k k0 (by omega)
  · rw [if_neg c] at k1 ⊢
    by_cases d : k = 7
    · rw [if_pos d]; exact hA
    · rw [if_neg d]; exact hB (k + 1) (by omega) (by omega)
theorem isSet_1 {P : Nat → Prop} {u v : Int} (hu : isSet P u) (hv : isSet P v) : u = v := hu.u hv (fun _ => Iff.rfl)
theorem PKA_lt {A : Int → Int} (hA : VF A) {p q : Int} (hp : PKA A p) (hq : PKA A q) : ¬ p < q := fun l => by
  obtain ⟨B, hp⟩ := hp
  obtain ⟨C, hq⟩ := hq
  have e1 := pkF_1 hp
  have e2 := pkF_1 hq
  have lb := lhA_b hA
  have l2 := hA.1.1
  rcases hp.2.2.2 with ⟨h, s, e⟩ | ⟨e, z⟩
  · have := hq.2.2.1 p h s l
    omega
  · have := hq.2.2.1 0 0 ⟨by omega, by omega, by omega, by omega⟩ (by omega)
    have n : 0 ≤ gPk A 0 0 := iabs_nn _
    omega
theorem PKA_1 {A : Int → Int} (hA : VF A) : one (PKA A) := fun u v hu hv => by
  have a := PKA_lt hA hu hv
  have b := PKA_lt hA hv hu
  omega

theorem S_count {a : Ab} {st8 st9 : St} {a0 : Int} (h8 : SC st8 a) (h9 : SM st9 a) (i0 : inI a0) : ∃ c P a', one P ∧ f8_count (O8 c P a') (X8 mA c a') st8 a0 ∧ f9_count (O9 c P a') st9 a0 := by
  by_cases c : 0 ≤ a0 ∧ a0 ≤ 8
  · exact ⟨0, _, a, one_eq (ctA a.1.1 a0), W8_count h8.1 i0 (fun  n => absurd c n) (fun _ => ⟨rfl, rfl, h8⟩), W9_count h9.1 i0 (fun  n => absurd c n) (fun _ s f e => ⟨fun _ => rfl, e, h9.q f⟩)⟩
  · exact ⟨1, _, a, one_eq 0, W8_count h8.1 i0 (fun  _ => ⟨by omega, mA_1, h8⟩) (fun q0 => absurd q0 c), W9_count h9.1 i0 (fun  _ s f e => ⟨fun z => absurd z (by omega), e, h9.q f⟩) (fun q0 => absurd q0 c)⟩
theorem S_support {a : Ab} {st8 st9 : St} {a0 a1 : Int} (h8 : SC st8 a) (h9 : SM st9 a) (i0 : inI a0) (i1 : inI a1) : ∃ c P a', one P ∧ f8_support (O8 c P a') (X8 mI c a') st8 a0 a1 ∧ f9_support (O9 c P a') st9 a0 a1 := by
  by_cases c : 0 ≤ a0 ∧ a0 < a.1.1 2
  · skip
    by_cases d : 0 ≤ a1 ∧ a1 ≤ 1
    · exact ⟨0, _, a, one_eq (a.1.1 (6 + 2 * a0 + a1)), W8_support h8.1 i0 i1 (fun  n => absurd c n) (fun _ n => absurd d n) (fun _ _ => ⟨rfl, rfl, h8⟩), W9_support h9.1 i0 i1 (fun  n => absurd c n) (fun _ n => absurd d n) (fun _ _ s f e => ⟨fun _ => rfl, e, h9.q f⟩)⟩
    · exact ⟨2, _, a, one_eq 0, W8_support h8.1 i0 i1 (fun  n => absurd c n) (fun q0 _ => ⟨by omega, mI_2, h8⟩) (fun q0 q1 => absurd q1 d), W9_support h9.1 i0 i1 (fun  n => absurd c n) (fun q0 _ s f e => ⟨fun z => absurd z (by omega), e, h9.q f⟩) (fun q0 q1 => absurd q1 d)⟩
  · exact ⟨1, _, a, one_eq 0, W8_support h8.1 i0 i1 (fun  _ => ⟨by omega, mI_1, h8⟩) (fun q0 n => absurd q0 c) (fun q0 q1 => absurd q0 c), W9_support h9.1 i0 i1 (fun  _ s f e => ⟨fun z => absurd z (by omega), e, h9.q f⟩) (fun q0 n => absurd q0 c) (fun q0 q1 => absurd q0 c)⟩
theorem S_weight {a : Ab} {st8 st9 : St} {a0 a1 : Int} (h8 : SC st8 a) (h9 : SM st9 a) (i0 : inI a0) (i1 : inI a1) : ∃ c P a', one P ∧ f8_weight (O8 c P a') (X8 mI c a') st8 a0 a1 ∧ f9_weight (O9 c P a') st9 a0 a1 := by
  by_cases c : 0 ≤ a0 ∧ a0 < a.1.1 4
  · skip
    by_cases d : 0 ≤ a1 ∧ a1 ≤ 1
    · exact ⟨0, _, a, one_eq (a.1.1 (19 + 2 * a0 + a1)), W8_weight h8.1 i0 i1 (fun  n => absurd c n) (fun _ n => absurd d n) (fun _ _ => ⟨rfl, rfl, h8⟩), W9_weight h9.1 i0 i1 (fun  n => absurd c n) (fun _ n => absurd d n) (fun _ _ s f e => ⟨fun _ => rfl, e, h9.q f⟩)⟩
    · exact ⟨2, _, a, one_eq 0, W8_weight h8.1 i0 i1 (fun  n => absurd c n) (fun q0 _ => ⟨by omega, mI_2, h8⟩) (fun q0 q1 => absurd q1 d), W9_weight h9.1 i0 i1 (fun  n => absurd c n) (fun q0 _ s f e => ⟨fun z => absurd z (by omega), e, h9.q f⟩) (fun q0 q1 => absurd q1 d)⟩
  · exact ⟨1, _, a, one_eq 0, W8_weight h8.1 i0 i1 (fun  _ => ⟨by omega, mI_1, h8⟩) (fun q0 n => absurd q0 c) (fun q0 q1 => absurd q0 c), W9_weight h9.1 i0 i1 (fun  _ s f e => ⟨fun z => absurd z (by omega), e, h9.q f⟩) (fun q0 n => absurd q0 c) (fun q0 q1 => absurd q0 c)⟩
theorem S_axle {a : Ab} {st8 st9 : St} {a0 a1 : Int} (h8 : SC st8 a) (h9 : SM st9 a) (i0 : inI a0) (i1 : inI a1) : ∃ c P a', one P ∧ f8_axle (O8 c P a') (X8 mI c a') st8 a0 a1 ∧ f9_axle (O9 c P a') st9 a0 a1 := by
  by_cases c : 0 ≤ a0 ∧ a0 < a.1.1 5
  · skip
    by_cases d : 0 ≤ a1 ∧ a1 ≤ 1
    · exact ⟨0, _, a, one_eq (a.1.1 (35 + 2 * a0 + a1)), W8_axle h8.1 i0 i1 (fun  n => absurd c n) (fun _ n => absurd d n) (fun _ _ => ⟨rfl, rfl, h8⟩), W9_axle h9.1 i0 i1 (fun  n => absurd c n) (fun _ n => absurd d n) (fun _ _ s f e => ⟨fun _ => rfl, e, h9.q f⟩)⟩
    · exact ⟨2, _, a, one_eq 0, W8_axle h8.1 i0 i1 (fun  n => absurd c n) (fun q0 _ => ⟨by omega, mI_2, h8⟩) (fun q0 q1 => absurd q1 d), W9_axle h9.1 i0 i1 (fun  n => absurd c n) (fun q0 _ s f e => ⟨fun z => absurd z (by omega), e, h9.q f⟩) (fun q0 q1 => absurd q1 d)⟩
  · exact ⟨1, _, a, one_eq 0, W8_axle h8.1 i0 i1 (fun  _ => ⟨by omega, mI_1, h8⟩) (fun q0 n => absurd q0 c) (fun q0 q1 => absurd q0 c), W9_axle h9.1 i0 i1 (fun  _ s f e => ⟨fun z => absurd z (by omega), e, h9.q f⟩) (fun q0 n => absurd q0 c) (fun q0 q1 => absurd q0 c)⟩
theorem S_hinge {a : Ab} {st8 st9 : St} {a0 : Int} (h8 : SC st8 a) (h9 : SM st9 a) (i0 : inI a0) : ∃ c P a', one P ∧ f8_hinge (O8 c P a') (X8 mO c a') st8 a0 ∧ f9_hinge (O9 c P a') st9 a0 := by
  by_cases c : 0 ≤ a0 ∧ a0 < a.1.1 3
  · exact ⟨0, _, a, one_eq (a.1.1 (16 + a0)), W8_hinge h8.1 i0 (fun  n => absurd c n) (fun _ => ⟨rfl, rfl, h8⟩), W9_hinge h9.1 i0 (fun  n => absurd c n) (fun _ s f e => ⟨fun _ => rfl, e, h9.q f⟩)⟩
  · exact ⟨1, _, a, one_eq 0, W8_hinge h8.1 i0 (fun  _ => ⟨by omega, mO_1, h8⟩) (fun q0 => absurd q0 c), W9_hinge h9.1 i0 (fun  _ s f e => ⟨fun z => absurd z (by omega), e, h9.q f⟩) (fun q0 => absurd q0 c)⟩
theorem S_part {a : Ab} {st8 st9 : St} {a0 : Int} (h8 : SC st8 a) (h9 : SM st9 a) (i0 : inI a0) : ∃ c P a', one P ∧ f8_part (O8 c P a') (X8 mO c a') st8 a0 ∧ f9_part (O9 c P a') st9 a0 := by
  by_cases c : 0 ≤ a0 ∧ a0 ≤ a.1.1 0
  · exact ⟨0, _, a, one_eq (ptA a.1.1 a0), W8_part h8.1 i0 (fun  n => absurd c n) (fun _ => ⟨rfl, rfl, h8⟩), W9_part h9.1 i0 (fun  n => absurd c n) (fun _ s f e => ⟨fun _ => rfl, e, h9.q f⟩)⟩
  · exact ⟨1, _, a, one_eq 0, W8_part h8.1 i0 (fun  _ => ⟨by omega, mO_1, h8⟩) (fun q0 => absurd q0 c), W9_part h9.1 i0 (fun  _ s f e => ⟨fun z => absurd z (by omega), e, h9.q f⟩) (fun q0 => absurd q0 c)⟩
theorem S_reactionLine {a : Ab} {st8 st9 : St} {a0 a1 : Int} (h8 : SC st8 a) (h9 : SM st9 a) (i0 : inI a0) (i1 : inI a1) : ∃ c P a', one P ∧ f8_reactionLine (O8 c P a') (X8 mO c a') st8 a0 a1 ∧ f9_reactionLine (O9 c P a') st9 a0 a1 := by
  have e := h9.1.1
  by_cases c : (0 ≤ a0 ∧ a0 < a.1.1 2) ∧ 0 ≤ a1 ∧ a1 ≤ a.1.1 0
  · refine ⟨0, _, a, one_eq (infA a.1.1 a0 a1), W8_reactionLine h8.1.cr i0 i1 (fun _ _ _ _ => ⟨rfl, rfl, h8⟩) (fun n => absurd c n), ?_⟩
    have w := W9_reactionLine (Q := O9 0 (fun z => z = infA a.1.1 a0 a1) a) h9.1.mr i0 i1
    rw [e] at w
    exact w (fun _ _ _ _ s f e => ⟨fun _ => rfl, e, h9.q f⟩) (fun n => absurd c n)
  · refine ⟨1, _, a, one_eq 0, W8_reactionLine h8.1.cr i0 i1 (fun g0 g1 g2 g3 => absurd ⟨⟨g0, g1⟩, g2, g3⟩ c) (fun _ => ⟨by omega, mO_1, h8⟩), ?_⟩
    have w := W9_reactionLine (Q := O9 1 (fun z => z = 0) a) h9.1.mr i0 i1
    rw [e] at w
    exact w (fun g0 g1 g2 g3 => absurd ⟨⟨g0, g1⟩, g2, g3⟩ c) (fun _ s f e => ⟨fun z => absurd z (by omega), e, h9.q f⟩)
theorem S_shearLine {a : Ab} {st8 st9 : St} {a0 a1 : Int} (h8 : SC st8 a) (h9 : SM st9 a) (i0 : inI a0) (i1 : inI a1) : ∃ c P a', one P ∧ f8_shearLine (O8 c P a') (X8 mO c a') st8 a0 a1 ∧ f9_shearLine (O9 c P a') st9 a0 a1 := by
  have e := h9.1.1
  by_cases c : (0 ≤ a0 ∧ a0 < a.1.1 0) ∧ 0 ≤ a1 ∧ a1 ≤ a.1.1 0
  · refine ⟨0, _, a, one_eq (shB a.1.1 a0 a1), W8_shearLine h8.1.cr i0 i1 (fun _ _ _ _ s f => ⟨rfl, rfl, h8.q f.fc (h8.1.f1 f)⟩) (fun n => absurd c n), ?_⟩
    have w := W9_shearLine (Q := O9 0 (fun z => z = shB a.1.1 a0 a1) a) h9.1.mr i0 i1
    rw [e] at w
    exact w (fun _ _ _ _ s f e => ⟨fun _ => rfl, e, h9.q f⟩) (fun n => absurd c n)
  · refine ⟨1, _, a, one_eq 0, W8_shearLine h8.1.cr i0 i1 (fun g0 g1 g2 g3 => absurd ⟨⟨g0, g1⟩, g2, g3⟩ c) (fun _ => ⟨by omega, mO_1, h8⟩), ?_⟩
    have w := W9_shearLine (Q := O9 1 (fun z => z = 0) a) h9.1.mr i0 i1
    rw [e] at w
    exact w (fun g0 g1 g2 g3 => absurd ⟨⟨g0, g1⟩, g2, g3⟩ c) (fun _ s f e => ⟨fun z => absurd z (by omega), e, h9.q f⟩)
theorem S_momentLine {a : Ab} {st8 st9 : St} {a0 a1 : Int} (h8 : SC st8 a) (h9 : SM st9 a) (i0 : inI a0) (i1 : inI a1) : ∃ c P a', one P ∧ f8_momentLine (O8 c P a') (X8 mO c a') st8 a0 a1 ∧ f9_momentLine (O9 c P a') st9 a0 a1 := by
  have e := h9.1.1
  by_cases c : (0 ≤ a0 ∧ a0 ≤ a.1.1 0) ∧ 0 ≤ a1 ∧ a1 ≤ a.1.1 0
  · refine ⟨0, _, a, one_eq (mmB a.1.1 a0 a1), W8_momentLine h8.1.cr i0 i1 (fun _ _ _ _ s f => ⟨rfl, rfl, h8.q f.fc (h8.1.f1 f)⟩) (fun n => absurd c n), ?_⟩
    have w := W9_momentLine (Q := O9 0 (fun z => z = mmB a.1.1 a0 a1) a) h9.1.mr i0 i1
    rw [e] at w
    exact w (fun _ _ _ _ s f e => ⟨fun _ => rfl, e, h9.q f⟩) (fun n => absurd c n)
  · refine ⟨1, _, a, one_eq 0, W8_momentLine h8.1.cr i0 i1 (fun g0 g1 g2 g3 => absurd ⟨⟨g0, g1⟩, g2, g3⟩ c) (fun _ => ⟨by omega, mO_1, h8⟩), ?_⟩
    have w := W9_momentLine (Q := O9 1 (fun z => z = 0) a) h9.1.mr i0 i1
    rw [e] at w
    exact w (fun g0 g1 g2 g3 => absurd ⟨⟨g0, g1⟩, g2, g3⟩ c) (fun _ s f e => ⟨fun z => absurd z (by omega), e, h9.q f⟩)
theorem S_area {a : Ab} {st8 st9 : St} {a0 : Int} (h8 : SC st8 a) (h9 : SM st9 a) (i0 : inI a0) : ∃ c P a', one P ∧ f8_area (O8 c P a') (X8 mO c a') st8 a0 ∧ f9_area (O9 c P a') st9 a0 := by
  have e := h9.1.1
  by_cases c : 0 ≤ a0 ∧ a0 ≤ a.1.1 0
  · refine ⟨0, _, a, one_eq (arA a.1.1 a0), W8_area h8.1.cr i0 (fun _ _ s f => ⟨rfl, rfl, h8.q f.fc (h8.1.f1 f)⟩) (fun n => absurd c n), ?_⟩
    have w := W9_area (Q := O9 0 (fun z => z = arA a.1.1 a0) a) h9.1.mr i0
    rw [e] at w
    exact w (fun _ _ s f e => ⟨fun _ => rfl, e, h9.q f⟩) (fun n => absurd c n)
  · refine ⟨1, _, a, one_eq 0, W8_area h8.1.cr i0 (fun g0 g1 => absurd ⟨g0, g1⟩ c) (fun _ => ⟨by omega, mO_1, h8⟩), ?_⟩
    have w := W9_area (Q := O9 1 (fun z => z = 0) a) h9.1.mr i0
    rw [e] at w
    exact w (fun g0 g1 => absurd ⟨g0, g1⟩ c) (fun _ s f e => ⟨fun z => absurd z (by omega), e, h9.q f⟩)
theorem S_still {a : Ab} {st8 st9 : St} {a0 : Int} (h8 : SC st8 a) (h9 : SM st9 a) (i0 : inI a0) : ∃ c P a', one P ∧ f8_still (O8 c P a') (X8 mO c a') st8 a0 ∧ f9_still (O9 c P a') st9 a0 := by
  have e := h9.1.1
  by_cases c : 0 ≤ a0 ∧ a0 ≤ a.1.1 0
  · refine ⟨0, _, a, one_eq (stA a.1.1 a0), W8_still h8.1.cr i0 (fun _ _ s f => ⟨rfl, rfl, h8.q f.fc (h8.1.f1 f)⟩) (fun n => absurd c n), ?_⟩
    have w := W9_still (Q := O9 0 (fun z => z = stA a.1.1 a0) a) h9.1.mr i0
    rw [e] at w
    exact w (fun _ _ s f e => ⟨fun _ => rfl, e, h9.q f⟩) (fun n => absurd c n)
  · refine ⟨1, _, a, one_eq 0, W8_still h8.1.cr i0 (fun g0 g1 => absurd ⟨g0, g1⟩ c) (fun _ => ⟨by omega, mO_1, h8⟩), ?_⟩
    have w := W9_still (Q := O9 1 (fun z => z = 0) a) h9.1.mr i0
    rw [e] at w
    exact w (fun g0 g1 => absurd ⟨g0, g1⟩ c) (fun _ s f e => ⟨fun z => absurd z (by omega), e, h9.q f⟩)
theorem S_gap {a : Ab} {st8 st9 : St} {a0 a1 : Int} (h8 : SC st8 a) (h9 : SM st9 a) (i0 : inI a0) (i1 : inI a1) : ∃ c P a', one P ∧ f8_gap (O8 c P a') (X8 mO c a') st8 a0 a1 ∧ f9_gap (O9 c P a') st9 a0 a1 := by
  have e := h9.1.1
  by_cases c : (0 ≤ a0 ∧ a0 ≤ a.1.1 0) ∧ 0 ≤ a1 ∧ a1 ≤ a.1.1 0
  · refine ⟨0, _, a, one_eq (mmB a.1.1 a0 a1 - rtB a.1.1 a0 a1), W8_gap h8.1.cr i0 i1 (fun _ _ _ _ s f => ⟨rfl, rfl, h8.q f.fc (h8.1.f1 f)⟩) (fun n => absurd c n), ?_⟩
    have w := W9_gap (Q := O9 0 (fun z => z = mmB a.1.1 a0 a1 - rtB a.1.1 a0 a1) a) h9.1.mr i0 i1
    rw [e] at w
    exact w (fun _ _ _ _ s f e => ⟨fun _ => rfl, e, h9.q f⟩) (fun n => absurd c n)
  · refine ⟨1, _, a, one_eq 0, W8_gap h8.1.cr i0 i1 (fun g0 g1 g2 g3 => absurd ⟨⟨g0, g1⟩, g2, g3⟩ c) (fun _ => ⟨by omega, mO_1, h8⟩), ?_⟩
    have w := W9_gap (Q := O9 1 (fun z => z = 0) a) h9.1.mr i0 i1
    rw [e] at w
    exact w (fun g0 g1 g2 g3 => absurd ⟨⟨g0, g1⟩, g2, g3⟩ c) (fun _ s f e => ⟨fun z => absurd z (by omega), e, h9.q f⟩)
theorem S_worstForReaction {a : Ab} {st8 st9 : St} {a0 a1 : Int} (h8 : SC st8 a) (h9 : SM st9 a) (i0 : inI a0) (i1 : inI a1) : ∃ c P a', one P ∧ f8_worstForReaction (O8 c P a') (X8 mO c a') st8 a0 a1 ∧ f9_worstForReaction (O9 c P a') st9 a0 a1 := by
  have e := h9.1.1
  by_cases c : 0 ≤ a0 ∧ a0 < a.1.1 2
  · refine ⟨0, _, a, one_eq (wsA a.1.1 0 a0 a1), W8_worstForReaction h8.1.cr i0 i1 (fun _ s f => ⟨rfl, rfl, h8.q f.fc (h8.1.f1 f)⟩) (fun n => absurd c n), ?_⟩
    have w := W9_worstForReaction (Q := O9 0 (fun z => z = wsA a.1.1 0 a0 a1) a) h9.1.mr i0 i1
    rw [e] at w
    exact w (fun _ s f e => ⟨fun _ => rfl, e, h9.q f⟩) (fun n => absurd c n)
  · refine ⟨1, _, a, one_eq 0, W8_worstForReaction h8.1.cr i0 i1 (fun g0 => absurd g0 c) (fun _ => ⟨by omega, mO_1, h8⟩), ?_⟩
    have w := W9_worstForReaction (Q := O9 1 (fun z => z = 0) a) h9.1.mr i0 i1
    rw [e] at w
    exact w (fun g0 => absurd g0 c) (fun _ s f e => ⟨fun z => absurd z (by omega), e, h9.q f⟩)
theorem S_worstForShear {a : Ab} {st8 st9 : St} {a0 a1 : Int} (h8 : SC st8 a) (h9 : SM st9 a) (i0 : inI a0) (i1 : inI a1) : ∃ c P a', one P ∧ f8_worstForShear (O8 c P a') (X8 mO c a') st8 a0 a1 ∧ f9_worstForShear (O9 c P a') st9 a0 a1 := by
  have e := h9.1.1
  by_cases c : 0 ≤ a0 ∧ a0 < a.1.1 0
  · refine ⟨0, _, a, one_eq (wsA a.1.1 1 a0 a1), W8_worstForShear h8.1.cr i0 i1 (fun _ s f => ⟨rfl, rfl, h8.q f.fc (h8.1.f1 f)⟩) (fun n => absurd c n), ?_⟩
    have w := W9_worstForShear (Q := O9 0 (fun z => z = wsA a.1.1 1 a0 a1) a) h9.1.mr i0 i1
    rw [e] at w
    exact w (fun _ s f e => ⟨fun _ => rfl, e, h9.q f⟩) (fun n => absurd c n)
  · refine ⟨1, _, a, one_eq 0, W8_worstForShear h8.1.cr i0 i1 (fun g0 => absurd g0 c) (fun _ => ⟨by omega, mO_1, h8⟩), ?_⟩
    have w := W9_worstForShear (Q := O9 1 (fun z => z = 0) a) h9.1.mr i0 i1
    rw [e] at w
    exact w (fun g0 => absurd g0 c) (fun _ s f e => ⟨fun z => absurd z (by omega), e, h9.q f⟩)
theorem S_worstForMoment {a : Ab} {st8 st9 : St} {a0 a1 : Int} (h8 : SC st8 a) (h9 : SM st9 a) (i0 : inI a0) (i1 : inI a1) : ∃ c P a', one P ∧ f8_worstForMoment (O8 c P a') (X8 mO c a') st8 a0 a1 ∧ f9_worstForMoment (O9 c P a') st9 a0 a1 := by
  have e := h9.1.1
  by_cases c : 0 ≤ a0 ∧ a0 ≤ a.1.1 0
  · refine ⟨0, _, a, one_eq (wsA a.1.1 2 a0 a1), W8_worstForMoment h8.1.cr i0 i1 (fun _ s f => ⟨rfl, rfl, h8.q f.fc (h8.1.f1 f)⟩) (fun n => absurd c n), ?_⟩
    have w := W9_worstForMoment (Q := O9 0 (fun z => z = wsA a.1.1 2 a0 a1) a) h9.1.mr i0 i1
    rw [e] at w
    exact w (fun _ s f e => ⟨fun _ => rfl, e, h9.q f⟩) (fun n => absurd c n)
  · refine ⟨1, _, a, one_eq 0, W8_worstForMoment h8.1.cr i0 i1 (fun g0 => absurd g0 c) (fun _ => ⟨by omega, mO_1, h8⟩), ?_⟩
    have w := W9_worstForMoment (Q := O9 1 (fun z => z = 0) a) h9.1.mr i0 i1
    rw [e] at w
    exact w (fun g0 => absurd g0 c) (fun _ s f e => ⟨fun z => absurd z (by omega), e, h9.q f⟩)
theorem S_danger {a : Ab} {st8 st9 : St} {a0 : Int} (h8 : SC st8 a) (h9 : SM st9 a) (i0 : inI a0) : ∃ c P a', one P ∧ f8_danger (O8 c P a') (X8 mA c a') st8 a0 ∧ f9_danger (O9 c P a') st9 a0 := by
  have e := h9.1.1
  by_cases c : -1 ≤ a0 ∧ a0 ≤ lhA a.1.1
  · refine ⟨0, _, a, one_eq (dngA a.1.1 a0), W8_danger h8.1.cr i0 (fun _ s f => ⟨rfl, rfl, h8.q f.fc (h8.1.f1 f)⟩) (fun n => absurd c n), ?_⟩
    have w := W9_danger (Q := O9 0 (fun z => z = dngA a.1.1 a0) a) h9.1.mr i0
    rw [e] at w
    exact w (fun _ s f e => ⟨fun _ => rfl, e, h9.q f⟩) (fun n => absurd c n)
  · refine ⟨1, _, a, one_eq 0, W8_danger h8.1.cr i0 (fun g0 => absurd g0 c) (fun _ => ⟨by omega, mA_1, h8⟩), ?_⟩
    have w := W9_danger (Q := O9 1 (fun z => z = 0) a) h9.1.mr i0
    rw [e] at w
    exact w (fun g0 => absurd g0 c) (fun _ s f e => ⟨fun z => absurd z (by omega), e, h9.q f⟩)
theorem S_reaction {a : Ab} {st8 st9 : St} {a0 a1 : Int} (h8 : SC st8 a) (h9 : SM st9 a) (i0 : inI a0) (i1 : inI a1) : ∃ c P a', one P ∧ f8_reaction (O8 c P a') (X8 mI c a') st8 a0 a1 ∧ f9_reaction (O9 c P a') st9 a0 a1 := by
  have e := h9.1.1
  by_cases c : 0 ≤ a0 ∧ a0 < a.1.1 2
  · by_cases d : -1 ≤ a1 ∧ a1 ≤ lhA a.1.1
    · refine ⟨0, _, a, one_eq (TA a.1.1 a1 (infA a.1.1 a0)), W8_reaction h8.1.cr i0 i1 (fun _ _ s f => ⟨rfl, rfl, h8.q f.fc (h8.1.f1 f)⟩) (fun n => absurd c n) (fun _ n => absurd d n), ?_⟩
      have w := W9_reaction (Q := O9 0 (fun z => z = TA a.1.1 a1 (infA a.1.1 a0)) a) h9.1.mr i0 i1
      rw [e] at w
      exact w (fun _ _ s f e => ⟨fun _ => rfl, e, h9.q f⟩) (fun n => absurd c n) (fun _ n => absurd d n)
    · refine ⟨2, _, a, one_eq 0, W8_reaction h8.1.cr i0 i1 (fun _ q => absurd q d) (fun n => absurd c n) (fun _ _ => ⟨by omega, mI_2, h8⟩), ?_⟩
      have w := W9_reaction (Q := O9 2 (fun z => z = 0) a) h9.1.mr i0 i1
      rw [e] at w
      exact w (fun _ q => absurd q d) (fun n => absurd c n) (fun _ _ s f e => ⟨fun z => absurd z (by omega), e, h9.q f⟩)
  · refine ⟨1, _, a, one_eq 0, W8_reaction h8.1.cr i0 i1 (fun q => absurd q c) (fun _ => ⟨by omega, mI_1, h8⟩) (fun q => absurd q c), ?_⟩
    have w := W9_reaction (Q := O9 1 (fun z => z = 0) a) h9.1.mr i0 i1
    rw [e] at w
    exact w (fun q => absurd q c) (fun _ s f e => ⟨fun z => absurd z (by omega), e, h9.q f⟩) (fun q => absurd q c)
theorem S_shear {a : Ab} {st8 st9 : St} {a0 a1 : Int} (h8 : SC st8 a) (h9 : SM st9 a) (i0 : inI a0) (i1 : inI a1) : ∃ c P a', one P ∧ f8_shear (O8 c P a') (X8 mI c a') st8 a0 a1 ∧ f9_shear (O9 c P a') st9 a0 a1 := by
  have e := h9.1.1
  by_cases c : 0 ≤ a0 ∧ a0 < a.1.1 0
  · by_cases d : -1 ≤ a1 ∧ a1 ≤ lhA a.1.1
    · refine ⟨0, _, a, one_eq (TA a.1.1 a1 (shB a.1.1 a0)), W8_shear h8.1.cr i0 i1 (fun _ _ s f => ⟨rfl, rfl, h8.q f.fc (h8.1.f1 f)⟩) (fun n => absurd c n) (fun _ n => absurd d n), ?_⟩
      have w := W9_shear (Q := O9 0 (fun z => z = TA a.1.1 a1 (shB a.1.1 a0)) a) h9.1.mr i0 i1
      rw [e] at w
      exact w (fun _ _ s f e => ⟨fun _ => rfl, e, h9.q f⟩) (fun n => absurd c n) (fun _ n => absurd d n)
    · refine ⟨2, _, a, one_eq 0, W8_shear h8.1.cr i0 i1 (fun _ q => absurd q d) (fun n => absurd c n) (fun _ _ => ⟨by omega, mI_2, h8⟩), ?_⟩
      have w := W9_shear (Q := O9 2 (fun z => z = 0) a) h9.1.mr i0 i1
      rw [e] at w
      exact w (fun _ q => absurd q d) (fun n => absurd c n) (fun _ _ s f e => ⟨fun z => absurd z (by omega), e, h9.q f⟩)
  · refine ⟨1, _, a, one_eq 0, W8_shear h8.1.cr i0 i1 (fun q => absurd q c) (fun _ => ⟨by omega, mI_1, h8⟩) (fun q => absurd q c), ?_⟩
    have w := W9_shear (Q := O9 1 (fun z => z = 0) a) h9.1.mr i0 i1
    rw [e] at w
    exact w (fun q => absurd q c) (fun _ s f e => ⟨fun z => absurd z (by omega), e, h9.q f⟩) (fun q => absurd q c)
theorem S_moment {a : Ab} {st8 st9 : St} {a0 a1 : Int} (h8 : SC st8 a) (h9 : SM st9 a) (i0 : inI a0) (i1 : inI a1) : ∃ c P a', one P ∧ f8_moment (O8 c P a') (X8 mI c a') st8 a0 a1 ∧ f9_moment (O9 c P a') st9 a0 a1 := by
  have e := h9.1.1
  by_cases c : 0 ≤ a0 ∧ a0 ≤ a.1.1 0
  · by_cases d : -1 ≤ a1 ∧ a1 ≤ lhA a.1.1
    · refine ⟨0, _, a, one_eq (TA a.1.1 a1 (mmB a.1.1 a0)), W8_moment h8.1.cr i0 i1 (fun _ _ s f => ⟨rfl, rfl, h8.q f.fc (h8.1.f1 f)⟩) (fun n => absurd c n) (fun _ n => absurd d n), ?_⟩
      have w := W9_moment (Q := O9 0 (fun z => z = TA a.1.1 a1 (mmB a.1.1 a0)) a) h9.1.mr i0 i1
      rw [e] at w
      exact w (fun _ _ s f e => ⟨fun _ => rfl, e, h9.q f⟩) (fun n => absurd c n) (fun _ n => absurd d n)
    · refine ⟨2, _, a, one_eq 0, W8_moment h8.1.cr i0 i1 (fun _ q => absurd q d) (fun n => absurd c n) (fun _ _ => ⟨by omega, mI_2, h8⟩), ?_⟩
      have w := W9_moment (Q := O9 2 (fun z => z = 0) a) h9.1.mr i0 i1
      rw [e] at w
      exact w (fun _ q => absurd q d) (fun n => absurd c n) (fun _ _ s f e => ⟨fun z => absurd z (by omega), e, h9.q f⟩)
  · refine ⟨1, _, a, one_eq 0, W8_moment h8.1.cr i0 i1 (fun q => absurd q c) (fun _ => ⟨by omega, mI_1, h8⟩) (fun q => absurd q c), ?_⟩
    have w := W9_moment (Q := O9 1 (fun z => z = 0) a) h9.1.mr i0 i1
    rw [e] at w
    exact w (fun q => absurd q c) (fun _ s f e => ⟨fun z => absurd z (by omega), e, h9.q f⟩) (fun q => absurd q c)
theorem S_worstSection {a : Ab} {st8 st9 : St} (h8 : SC st8 a) (h9 : SM st9 a) : ∃ c P a', one P ∧ f8_worstSection (O8 c P a') st8 ∧ f9_worstSection (O9 c P a') st9 := by
  have e := h9.1.1
  have c := h8.1.cr
  refine ⟨0, PKA a.1.1, a, PKA_1 c.1.1, W8_worstSection c.1.1 c.2.1 c.2.2 (fun s p f _ _ k => ⟨rfl, k, h8.q f.fc (h8.1.f14 f)⟩), ?_⟩
  have w := W9_worstSection (Q := O9 0 (PKA a.1.1) a) h9.1.mr
  rw [e] at w
  exact w (fun p k s f e => ⟨fun _ => k, e, h9.q f⟩)
theorem S_firstDanger {a : Ab} {st8 st9 : St} (h8 : SC st8 a) (h9 : SM st9 a) : ∃ c P a', one P ∧ f8_firstDanger (O8 c P a') st8 ∧ f9_firstDanger (O9 c P a') st9 := by
  have e := h9.1.1
  have c := h8.1.cr
  refine ⟨0, _, a, one_eq (fbA a.1.1), W8_firstDanger c.1 c.2.1 c.2.2 (fun s f => ⟨rfl, rfl, h8.q f.fc (h8.1.f1 f)⟩), ?_⟩
  have w := W9_firstDanger (Q := O9 0 (fun z => z = fbA a.1.1) a) h9.1.mr
  rw [e] at w
  exact w (fun s f e => ⟨fun _ => rfl, e, h9.q f⟩)
theorem S_lifting {a : Ab} {st8 st9 : St} (h8 : SC st8 a) (h9 : SM st9 a) : ∃ c P a', one P ∧ f8_lifting (O8 c P a') st8 ∧ f9_lifting (O9 c P a') st9 := by
  have e := h9.1.1
  have c := h8.1.cr
  refine ⟨0, isSet (liP a.1.1 (lhA a.1.1)), a, fun _ _ => isSet_1, W8_lifting c.1.1 c.2.1 c.2.2 (fun s z f k => ⟨rfl, k, h8.q f.fc (h8.1.f1 f)⟩), ?_⟩
  have w := W9_lifting (Q := O9 0 (isSet (liP a.1.1 (lhA a.1.1))) a) h9.1.mr
  rw [e] at w
  exact w (fun z k s f e => ⟨fun _ => k, e, h9.q f⟩)
theorem S_unit {a : Ab} {st8 st9 : St} (h8 : SC st8 a) (h9 : SM st9 a) : ∃ c P a', one P ∧ f8_unit (O8 c P a') st8 ∧ f9_unit (O9 c P a') st9 := by
  have e := h9.1.1
  refine ⟨0, _, a, one_eq (unitA a.1.1), ⟨rfl, h8.1.cr.2.2.2.2.1, h8⟩, ?_⟩
  have w := W9_unit (Q := O9 0 (fun z => z = unitA a.1.1) a) h9.1.mr
  rw [e] at w
  exact w (fun s f e => ⟨fun _ => rfl, e, h9.q f⟩)
