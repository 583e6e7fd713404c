/-! share and used -/
def wtA (A : Int → Int) (h : Int) : Int := smE (fun k => A (19 + 2 * k)) (A 4).toNat + smE (fun k => if onA A k h then A (35 + 2 * k) else 0) (A 5).toNat
theorem wtA_T (A : Int → Int) (h : Int) : TA A h (fun _ => 1) = wtA A h := by
  unfold TA wtA
  simp only [Int.mul_one]
theorem ax_b {A : Int → Int} (hA : VF A) (h : Int) {v : Int} (v0 : 0 ≤ v) (v1 : v ≤ A 5) : -5994 ≤ smE (fun k => if onA A k h then A (35 + 2 * k) else 0) v.toNat ∧ smE (fun k => if onA A k h then A (35 + 2 * k) else 0) v.toNat ≤ 5994 := by
  have b5 := hA.2.2.2.2.1
  have h2 := smE_b (f := fun k => if onA A k h then A (35 + 2 * k) else 0) (C := 999) v.toNat (fun e e0 e1 => by
    have h1 := hA.2.2.2.2.2.2 e e0 (by omega)
    show -999 ≤ (if onA A e h then A (35 + 2 * e) else 0) ∧ (if onA A e h then A (35 + 2 * e) else 0) ≤ 999
    split <;> omega)
  rw [show ((v.toNat : Nat) : Int) = v by omega] at h2
  omega
theorem ld_b {A : Int → Int} (hA : VF A) : -7992 ≤ smE (fun k => A (19 + 2 * k)) (A 4).toNat ∧ smE (fun k => A (19 + 2 * k)) (A 4).toNat ≤ 7992 := by
  have b4 := hA.2.2.2.1
  have h2 := smE_b (f := fun k => A (19 + 2 * k)) (C := 999) (A 4).toNat (fun e e0 e1 => by
    have h1 := hA.2.2.2.2.2.1 e e0 (by omega)
    show -999 ≤ A (19 + 2 * e) ∧ A (19 + 2 * e) ≤ 999
    omega)
  rw [show (((A 4).toNat : Nat) : Int) = A 4 by omega] at h2
  omega
theorem wtA_b {A : Int → Int} (hA : VF A) (h : Int) : -13986 ≤ wtA A h ∧ wtA A h ≤ 13986 := by
  have b5 := hA.2.2.2.2.1
  have h1 := ld_b hA
  have h2 := ax_b hA h (v := A 5) b5.1 (Int.le_refl _)
  unfold wtA
  omega
/-- the share, the use -/
def shA (A : Int → Int) (i h : Int) : UInt64 := if wtA A h = 0 then FP.dconst0 else FP.ddiv (dL (TA A h (infA A i))) (dL (unitA A * wtA A h))
def usA (A : Int → Int) : UInt32 := FP.fdiv (fL (pkF A)) (fL (unitA A * A 1))
theorem W9_share {Q : UInt64 → St → Prop} {st : St} {a0 a1 : Int} (hM : MR st) (h0 : inI a0) (h1 : inI a1)
    (hq : 0 ≤ a0 ∧ a0 < aM st 2 → -1 ≤ a1 ∧ a1 ≤ lhA (aM st) → ∀ s, FQ st s → s 9 6 0 0 = 0 → Q (shA (aM st) a0 a1) s)
    (hx : ¬ (0 ≤ a0 ∧ a0 < aM st 2) → ∀ s, FQ st s → s 9 6 0 0 = 1 → Q FP.dconst0 s)
    (hy : 0 ≤ a0 ∧ a0 < aM st 2 → ¬ (-1 ≤ a1 ∧ a1 ≤ lhA (aM st)) → ∀ s, FQ st s → s 9 6 0 0 = 2 → Q FP.dconst0 s) : f9_share Q st a0 a1 := by
  have hF := hM.1.1
  have hC := hF.1
  have hb := lhA_b hF
  have n5 : st 30 0 0 2 ≤ 5 := hC.2.2.2.1
  have l3 : st 30 0 0 0 ≤ 30 := hC.2.1
  unfold f9_share
  refine W9_isSupport hC h0 ?_
  by_cases c : 0 ≤ a0 ∧ a0 < st 30 0 0 2
  · rw [if_pos c]
    refine ⟨inI_1, fun e => absurd e (by omega), fun _ => W9_isHead hF h1 ?_⟩
    by_cases d : -1 ≤ a1 ∧ a1 ≤ lhA (aM st)
    · rw [if_pos d]
      refine ⟨inI_1, fun e => absurd e (by omega), fun _ => ?_⟩
      unfold f9_share_j26
      refine gate (Q := fun _ => Q FP.dconst0) (by omega) (by omega) (fun _ => ?_) (fun e => absurd e (by omega))
      refine W9_lays2 hM (fun s f e6 hl eA => ?_)
      have fin := hq c d s f e6
      rw [← eA] at fin hF d hb
      have hCs := hF.1
      have e0 : s 30 0 0 0 = st 30 0 0 0 := f.1 30 0 0 0 (by omega)
      have e2 : s 30 0 0 2 = st 30 0 0 2 := f.1 30 0 0 2 (by omega)
      have b4 : 0 ≤ s 30 0 0 4 ∧ s 30 0 0 4 ≤ 8 := hF.2.2.2.1
      have b5 : 0 ≤ s 30 0 0 5 ∧ s 30 0 0 5 ≤ 6 := hF.2.2.2.2.1
      have m0 := mlen0
      have ul := unitA_b hCs
      have up1 : 1 ≤ unitA (aM s) := unitA_pos hCs (by rw [eA]; exact hM.2.1)
      have wb := wtA_b hF a1
      refine W9_weights (by omega) b4.1 b4.2 (by omega) ?_
      have L : ∀ (m : Nat) (v : Int), 0 ≤ v → v ≤ s 30 0 0 5 → s 30 0 0 5 - v < m → f9_share_l58 Q a0 a1 m s (smE (fun k => s 30 0 0 (19 + 2 * k)) (s 30 0 0 4).toNat + smE (fun k => if onA (aM s) k a1 then aM s (35 + 2 * k) else 0) v.toNat) v := by
        intro m
        induction m with
        | zero => intro v a1 a2 a3; omega
        | succ m ih =>
          intro v v0 v1 v2
          unfold f9_share_l58
          refine ⟨inI_s (by omega) (by omega), inI_s (by omega) (by omega), fun q => ?_, fun q => ?_⟩
          · have hv : v = s 30 0 0 5 := by omega
            rw [hv]
            show inI (wtA (aM s) a1) ∧ _
            have iw : inI (wtA (aM s) a1) := inI_s (by omega) (by omega)
            refine ⟨iw, fun z => ?_, fun z => ?_⟩
            · have z : wtA (aM s) a1 = 0 := z
              unfold shA at fin
              rw [if_pos z] at fin
              exact fin
            · have z : ¬ wtA (aM s) a1 = 0 := z
              refine W9_all hF hl (by omega) (by omega) (fun _ => by omega) (by omega) (by omega) d.1 (by omega) ⟨iw, ?_⟩
              intro x ex
              rw [hl.1] at ex
              have ex : x = unitA (aM s) * wtA (aM s) a1 := ex
              have bp := mulB (show -2916000000 ≤ unitA (aM s) by omega) (show unitA (aM s) ≤ 2916000000 by omega) (show -13986 ≤ wtA (aM s) a1 by omega) (show wtA (aM s) a1 ≤ 13986 by omega)
              refine ⟨inL_s (by omega) (by omega), fun y => ?_, ?_⟩
              · rw [ex] at y
                rcases Int.mul_eq_zero.mp y with y | y
                · omega
                · exact z y
              · unfold shA at fin
                rw [if_neg z] at fin
                rw [ex, allA_TA]
                exact fin
          · have nx := ih (v + 1) (by omega) (by omega) (by omega)
            rw [smE_S _ v0, ← Int.add_assoc] at nx
            have off : ¬ onA (aM s) v a1 → f9_share_j96 (fun st v3x58 v4x58 => f9_share_l58 Q a0 a1 m st v3x58 v4x58) Q a0 a1 s v 0 (smE (fun k => s 30 0 0 (19 + 2 * k)) (s 30 0 0 4).toNat + smE (fun k => if onA (aM s) k a1 then aM s (35 + 2 * k) else 0) v.toNat) := fun w => by
              unfold f9_share_j96
              rintro _ rfl _ rfl
              rw [if_neg w] at nx
              exact nx
            have hx' := hF.2.2.2.2.2.2 v v0 (show v < aM s 5 by show v < s 30 0 0 5; omega)
            have hx' : (0 ≤ s 30 0 0 (35 + 2 * v) ∧ s 30 0 0 (35 + 2 * v) ≤ 999) ∧ 0 ≤ s 30 0 0 (35 + 2 * v + 1) ∧ s 30 0 0 (35 + 2 * v + 1) ≤ 30 := hx'
            unfold f9_isOn
            refine ⟨inI_s (by omega) (by omega), fun c2 => ⟨inI_0, fun _ => off (fun q => q.1 c2), fun e => absurd rfl e⟩, fun c2 => ⟨by omega, by omega, ?_⟩⟩
            refine W9_isPlace hCs (inI_s (by omega) (by omega)) ?_
            by_cases on : 0 ≤ a1 - s 30 0 0 (35 + 2 * v + 1) ∧ a1 - s 30 0 0 (35 + 2 * v + 1) ≤ s 30 0 0 0
            · rw [if_pos on]
              have q : onA (aM s) v a1 := ⟨c2, on⟩
              refine ⟨inI_1, fun e => absurd e (by omega), fun _ => ⟨inI_1, fun e => absurd e (by omega), fun _ => ⟨by omega, by omega, ?_⟩⟩⟩
              unfold f9_share_j96
              rintro _ rfl _ rfl
              rw [if_pos q] at nx
              exact nx
            · rw [if_neg on]
              exact ⟨inI_0, fun _ => ⟨inI_0, fun _ => off (fun q => on q.2), fun e => absurd rfl e⟩, fun e => absurd rfl e⟩
      have := L 100 0 (by omega) (by omega) (by omega)
      rw [smE_0, Int.add_zero] at this
      exact ⟨100, this⟩
    · rw [if_neg d]
      refine ⟨inI_0, fun _ => ?_, fun e => absurd rfl e⟩
      unfold f9_share_j26
      exact gate (Q := fun _ => Q FP.dconst0) (by omega) (by omega) (fun e => absurd e (by omega)) (fun _ => hy c d _ (FQ.up6 hM.2.2) (by rw [up_eq, if_pos ⟨rfl, rfl, rfl, rfl⟩]))
  · rw [if_neg c]
    refine ⟨inI_0, fun _ => ?_, fun e => absurd rfl e⟩
    unfold f9_share_j26
    exact gate (Q := fun _ => Q FP.dconst0) (by omega) (by omega) (fun e => absurd e (by omega)) (fun _ => hx c _ (FQ.up6 hM.2.2) (by rw [up_eq, if_pos ⟨rfl, rfl, rfl, rfl⟩]))
theorem W8_share {A : Int → Int} {Q : UInt64 → St → Prop} {X : String → St → Prop} {st : St} {a0 a1 : Int} (hR : CR st A) (hD : ¬ DA A (-1) 0 = 0) (h0 : inI a0) (h1 : inI a1)
    (hq : 0 ≤ a0 ∧ a0 < A 2 → -1 ≤ a1 ∧ a1 ≤ lhA A → ∀ s, F1 0 st s → Q (shA A a0 a1) s) (hx : ¬ (0 ≤ a0 ∧ a0 < A 2) → X "java/lang/IndexOutOfBoundsException" st) (hy : 0 ≤ a0 ∧ a0 < A 2 → ¬ (-1 ≤ a1 ∧ a1 ≤ lhA A) → X "java/lang/IllegalArgumentException" st) : f8_share Q X st a0 a1 := by
  obtain ⟨hA, hB, hL⟩ := hR
  have hb := lhA_b hA.1
  have ul := unitA_b hA.1.1
  have up1 := unitA_pos hA.1.1 hD
  have wb := wtA_b hA.1 a1
  unfold f8_share
  refine W8_needNumber hB.1.2.1 hB.1.2.2.2.1 h0 (fun c d => ?_) hx
  refine W8_needHead hA.1 hB h1 (fun e f => ?_) (hy ⟨c, d⟩)
  refine W1_underAllT hA.1 hB hL e (by omega) (fun s g r t => ?_)
  have fin := hq ⟨c, d⟩ ⟨e, f⟩ s g
  rw [t, (hL.f1 g).2.2.1, wtA_T]
  refine ⟨inI_s (by omega) (by omega), fun x ex => ?_⟩
  have bp := mulB (show -2916000000 ≤ unitA A by omega) (show unitA A ≤ 2916000000 by omega) (show -13986 ≤ wtA A a1 by omega) (show wtA A a1 ≤ 13986 by omega)
  have ix : inL x := inL_s (by omega) (by omega)
  have nz : ¬ x = 0 → ¬ wtA A a1 = 0 := fun y z => y (by rw [ex, z, Int.mul_zero])
  unfold shA at fin
  refine ⟨ix, fun y => ?_, fun y => ?_⟩
  · rw [ex] at y
    rcases Int.mul_eq_zero.mp y with y | y
    · omega
    · rw [if_pos y] at fin
      exact fin
  · rw [if_neg (nz y)] at fin
    refine W1_reactionOf r h0 hA.1.1 ?_
    rw [if_pos ⟨c, d⟩]
    refine ⟨ix, y, ?_⟩
    rw [ex]
    exact fin
theorem W9_used {Q : UInt32 → St → Prop} {st : St} (hM : MR st) (h1 : 1 ≤ aM st 1) (hq : ∀ s, FQ st s → s 9 6 0 0 = 0 → Q (usA (aM st)) s) : f9_used Q st := by
  have hF := hM.1.1
  have ul := unitA_b hF.1
  have up1 := unitA_pos hF.1 hM.2.1
  have h2 := hM.1.2.1
  unfold f9_used
  rintro _ rfl
  refine W9_lays2 hM (fun s f e6 hl eA => ?_)
  have e1 : s 30 0 0 1 = aM st 1 := congrFun eA 1
  refine W9_worstPlace (by rw [eA]; exact hF) hl (fun p p0 p1 pk => ?_)
  refine W9_greatestAt (by rw [eA]; exact hF) hl p0 p1 (fun z zz0 zz1 zg za => ?_)
  rw [eA] at pk zg za
  obtain ⟨B9, pk⟩ := pk
  have eB := pkF_1 pk
  have ez : z = pkF (aM st) := by
    have x0 : s 30 0 0 0 = aM st 0 := congrFun eA 0
    obtain ⟨b0, k1, k2, k3⟩ := pk
    have le : z ≤ B9 := by
      rcases za with ⟨hd, d0, d1, d2⟩ | za
      · rw [← d2]; exact k1 p hd ⟨p0, by omega, d0, d1⟩
      · omega
    have ge : B9 ≤ z := by
      rcases k3 with ⟨hd, s9, e9⟩ | ⟨k3, _⟩
      · rw [← e9]; exact zg hd s9.2.2.1 s9.2.2.2
      · omega
    omega
  rw [e1, hl.1, ez, eA]
  refine ⟨inI_s (by omega) (by omega), fun x ex => ?_⟩
  rw [Int.mul_comm] at ex
  have bp := mulB (show -2916000000 ≤ unitA (aM st) by omega) (show unitA (aM st) ≤ 2916000000 by omega) (show -999999 ≤ aM st 1 by omega) (show aM st 1 ≤ 999999 by omega)
  refine ⟨inL_s (by omega) (by omega), fun y => ?_, ?_⟩
  · rw [ex] at y
    rcases Int.mul_eq_zero.mp y with y | y <;> omega
  · rw [ex]
    exact hq s f e6
theorem W8_used {A : Int → Int} {Q : UInt32 → St → Prop} {st : St} (hR : CR st A) (hD : ¬ DA A (-1) 0 = 0) (h1 : 1 ≤ A 1) (hq : ∀ s, F14 st s → Q (usA A) s) : f8_used Q st := by
  obtain ⟨hA, hB, hL⟩ := hR
  have ul := unitA_b hA.1.1
  have up1 := unitA_pos hA.1.1 hD
  have h2 := hA.2.1
  unfold f8_used
  refine W4_find hA.1 hB hL (fun s f k => ?_)
  rw [(hB.f14 f).2.1, (hL.f14 f).2.2.1, pkF_1 k.1]
  refine ⟨inI_s (by omega) (by omega), fun x ex => ?_⟩
  have bp := mulB (show -2916000000 ≤ unitA A by omega) (show unitA A ≤ 2916000000 by omega) (show -999999 ≤ A 1 by omega) (show A 1 ≤ 999999 by omega)
  have nz : ¬ x = 0 := fun y => by
    rw [ex] at y
    rcases Int.mul_eq_zero.mp y with y | y <;> omega
  have ix : inL x := inL_s (by omega) (by omega)
  refine ⟨ix, fun y => absurd y nz, fun _ y ey => ⟨ix, nz, ?_⟩⟩
  rw [ex, ey]
  exact hq s f
/-- the outcomes of share and used -/
def O8d (c : Int) (v : UInt64) (a : Ab) : UInt64 → St → Prop := fun z u => c = 0 ∧ z = v ∧ SC u a
def O9d (c : Int) (v : UInt64) (a : Ab) : UInt64 → St → Prop := fun z u => (c = 0 → z = v) ∧ u 9 6 0 0 = c ∧ SM u a
def O8f (c : Int) (v : UInt32) (a : Ab) : UInt32 → St → Prop := fun z u => c = 0 ∧ z = v ∧ SC u a
def O9f (c : Int) (v : UInt32) (a : Ab) : UInt32 → St → Prop := fun z u => (c = 0 → z = v) ∧ u 9 6 0 0 = c ∧ SM u a
theorem S_share {a : Ab} {st8 st9 : St} {a0 a1 : Int} (h8 : SC st8 a) (h9 : SM st9 a) (i0 : inI a0) (i1 : inI a1) : ∃ c v a', f8_share (O8d c v a') (X8 mI c a') st8 a0 a1 ∧ f9_share (O9d c v a') st9 a0 a1 := by
  have e := h9.1.1
  have hD := h8.va.2.2
  by_cases c : 0 ≤ a0 ∧ a0 < a.1.1 2
  · by_cases d : -1 ≤ a1 ∧ a1 ≤ lhA a.1.1
    · refine ⟨0, shA a.1.1 a0 a1, a, W8_share h8.1.cr hD i0 i1 (fun _ _ s f => ⟨rfl, rfl, h8.q f.fc (h8.1.f1 f)⟩) (fun n => absurd c n) (fun _ n => absurd d n), ?_⟩
      have w := W9_share (Q := O9d 0 (shA a.1.1 a0 a1) a) h9.1.mr i0 i1
      rw [e] at w
      exact w (fun _ _ s f e => ⟨fun _ => rfl, e, h9.q f⟩) (fun n => absurd c n) (fun _ n => absurd d n)
    · refine ⟨2, 0, a, W8_share h8.1.cr hD i0 i1 (fun _ q => absurd q d) (fun n => absurd c n) (fun _ _ => ⟨by omega, mI_2, h8⟩), ?_⟩
      have w := W9_share (Q := O9d 2 0 a) h9.1.mr i0 i1
      rw [e] at w
      exact w (fun _ q => absurd q d) (fun n => absurd c n) (fun _ _ s f e => ⟨fun z => absurd z (by omega), e, h9.q f⟩)
  · refine ⟨1, 0, a, W8_share h8.1.cr hD i0 i1 (fun q => absurd q c) (fun _ => ⟨by omega, mI_1, h8⟩) (fun q => absurd q c), ?_⟩
    have w := W9_share (Q := O9d 1 0 a) h9.1.mr i0 i1
    rw [e] at w
    exact w (fun q => absurd q c) (fun _ s f e => ⟨fun z => absurd z (by omega), e, h9.q f⟩) (fun q => absurd q c)
theorem S_used {a : Ab} {st8 st9 : St} (h8 : SC st8 a) (h9 : SM st9 a) : ∃ v a', f8_used (O8f 0 v a') st8 ∧ f9_used (O9f 0 v a') st9 := by
  have e := h9.1.1
  refine ⟨usA a.1.1, a, W8_used h8.1.cr h8.va.2.2 h8.pg.1.2 (fun s f => ⟨rfl, rfl, h8.q f.fc (h8.1.f14 f)⟩), ?_⟩
  have w := W9_used (Q := O9f 0 (usA a.1.1) a) h9.1.mr
  rw [e] at w
  exact w h8.pg.1.2 (fun s f e => ⟨fun _ => rfl, e, h9.q f⟩)
