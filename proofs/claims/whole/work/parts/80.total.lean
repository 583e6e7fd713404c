/-! what presses in all -/
def PT (st : St) (o : Int) (A : Int → Int) (T : (Int → Int) → Int) (B : Int) : Prop := PS st o A T B ∧ st 1 4 o 0 = T (fun _ => 1)
theorem PT.ext {st : St} {o : Int} {A : Int → Int} {T T' : (Int → Int) → Int} {B B' : Int} (h : PT st o A T B) (hT : ∀ f, T f = T' f) (hB : B = B') : PT st o A T' B' := ⟨h.1.ext hT hB, h.2.trans (hT _)⟩
theorem W1_liftAllT {o : Int} {A : Int → Int} {Q : St → Prop} {st : St} (h : ∀ s, F1 o st s → PT s o A (fun _ => 0) 0 → Q s) : f1_liftAll o Q st := by
  have L2 : ∀ (m : Nat) (v : Int) (s : St), 0 ≤ v → v ≤ 5 → F1 o st s → (∀ x, 0 ≤ x → x < 31 → s 12 0 o x = 0) → (∀ i, 0 ≤ i → i < v → s 13 0 o i = 0) → 5 - v < m → f1_liftAll_l23 o Q m s v := by
    intro m
    induction m with
    | zero => intro v s a1 a2 a3 a4 a5 a6; omega
    | succ m ih =>
      intro v s a1 a2 a3 a4 a5 a6
      unfold f1_liftAll_l23
      refine ⟨inI_s (by omega) (by omega), fun c => ?_, fun c => ⟨a1, by omega, ?_⟩⟩
      · rintro _ rfl
        have z : ∀ x, 0 ≤ x → x < 31 → up s 1 4 o 0 0 12 0 o x = 0 := fun x x0 x1 => (up_ne (by omega)).trans (a4 x x0 x1)
        refine h _ (a3.up (by omega)) ⟨⟨fun f => smE_z 31 (fun x x0 x1 => by rw [z x x0 (by omega), Int.zero_mul]), fun x x0 x1 => by rw [z x x0 x1]; omega, fun x xn x0 x1 => z x xn x1, fun i i0 i1 => (up_ne (by omega)).trans (a5 i i0 (by omega))⟩, by rw [up_eq, if_pos ⟨rfl, rfl, rfl, rfl⟩]⟩
      · rintro _ rfl _ rfl
        refine ih (v + 1) _ (by omega) (by omega) (a3.up (by omega)) (fun x x0 x1 => (up_ne (by omega)).trans (a4 x x0 x1)) (fun i i0 i1 => ?_) (by omega)
        rw [up_eq]
        by_cases e : i = v
        · rw [if_pos ⟨rfl, rfl, rfl, e⟩]
        · rw [if_neg (by omega)]
          exact a5 i i0 (by omega)
  have L1 : ∀ (m : Nat) (v : Int) (s : St), 0 ≤ v → v ≤ 31 → F1 o st s → (∀ x, 0 ≤ x → x < v → s 12 0 o x = 0) → 31 - v < m → f1_liftAll_l2 o Q m s v := by
    intro m
    induction m with
    | zero => intro v s a1 a2 a3 a4 a5; omega
    | succ m ih =>
      intro v s a1 a2 a3 a4 a5
      unfold f1_liftAll_l2
      refine ⟨inI_s (by omega) (by omega), fun c => ⟨100, L2 100 0 s (by omega) (by omega) a3 (fun x x0 x1 => a4 x x0 (by omega)) (fun i i0 i1 => by omega) (by omega)⟩, fun c => ⟨a1, by omega, ?_⟩⟩
      rintro _ rfl _ rfl
      refine ih (v + 1) _ (by omega) (by omega) (a3.up (by omega)) (fun x x0 x1 => ?_) (by omega)
      rw [up_eq]
      by_cases e : x = v
      · rw [if_pos ⟨rfl, rfl, rfl, e⟩]
      · rw [if_neg (by omega)]
        exact a4 x x0 (by omega)
  unfold f1_liftAll
  exact ⟨100, L1 100 0 st (by omega) (by omega) F1.rf (fun x x0 x1 => by omega) (by omega)⟩
theorem W1_pressT {o b : Int} {A : Int → Int} {Q : St → Prop} {st : St} {T : (Int → Int) → Int} {B w pl : Int} (hB : BR st b A) (hA : VC A) (hP : PT st o A T B) (hw : 0 ≤ w) (hw2 : w ≤ 999) (hp : inI pl)
    (h : ∀ s, F1 o st s → PT s o A (fun f => T f + if 0 ≤ pl ∧ pl ≤ A 0 then w * f pl else 0) (B + 999) → Q s) : f1_press o b Q st w pl := by
  have l3 : A 0 ≤ 30 := hA.2.1
  unfold f1_press
  refine W0_hasPlace hB hA hp ?_
  by_cases c : 0 ≤ pl ∧ pl ≤ A 0
  · rw [if_pos c]
    refine ⟨inI_1, fun e => absurd e (by omega), fun _ => ⟨c.1, by omega, c.1, by omega, ?_⟩⟩
    rintro _ rfl _ rfl
    have ev : ∀ x, up (up st 12 0 o pl (st 12 0 o pl + w)) 1 4 o 0 (up st 12 0 o pl (st 12 0 o pl + w) 1 4 o 0 + w) 12 0 o x = if x = pl then st 12 0 o pl + w else st 12 0 o x := fun x => by
      rw [up_ne (by omega), up_eq]
      by_cases e : x = pl
      · rw [if_pos ⟨rfl, rfl, rfl, e⟩, if_pos e]
      · rw [if_neg (by omega), if_neg e]
    refine h _ ((F1.rf.up (by omega)).up (by omega)) ⟨⟨fun f => ?_, fun x x0 x1 => ?_, fun x xn x0 x1 => ?_, fun i i0 i1 => ?_⟩, ?_⟩
    · unfold prs
      simp only [ev]
      rw [smE_up (g := fun x => st 12 0 o x) c.1 31, if_pos c, if_pos (by omega)]
      rw [← hP.1.1 f]
      rfl
    · rw [ev]
      have := hP.1.2.1 x x0 x1
      have := hP.1.2.1 pl c.1 (by omega)
      split <;> omega
    · rw [ev, if_neg (by omega)]
      exact hP.1.2.2.1 x xn x0 x1
    · rw [up_ne (by omega), up_ne (by omega)]
      exact hP.1.2.2.2 i i0 i1
    · have e4 : up st 12 0 o pl (st 12 0 o pl + w) 1 4 o 0 = st 1 4 o 0 := up_ne (by omega)
      rw [up_eq, if_pos ⟨rfl, rfl, rfl, rfl⟩, e4, hP.2]
      show T (fun _ => 1) + w = T (fun _ => 1) + (if 0 ≤ pl ∧ pl ≤ A 0 then w * 1 else 0)
      rw [if_pos c, Int.mul_one]
  · rw [if_neg c]
    refine ⟨inI_0, fun _ => h st F1.rf ⟨⟨fun f => ?_, fun x x0 x1 => ?_, hP.1.2.2.1, hP.1.2.2.2⟩, by show _ = T (fun _ => 1) + (if 0 ≤ pl ∧ pl ≤ A 0 then w * 1 else 0); rw [if_neg c, Int.add_zero]; exact hP.2⟩, fun e => absurd rfl e⟩
    · show prs st o f = T f + if 0 ≤ pl ∧ pl ≤ A 0 then w * f pl else 0
      rw [if_neg c, Int.add_zero]
      exact hP.1.1 f
    · have := hP.1.2.1 x x0 x1
      omega
theorem W1_balanceT {o b lo : Int} {A : Int → Int} {T : (Int → Int) → Int} {B : Int} {Q : St → Prop} {st : St} (hA : VF A) (hB : BR st b A) (hL : LR st lo A) (hP : PS st o A T B) (hBB : B ≤ 1000000)
    (h : ∀ s, F1 o st s → FR s o A T → s 1 4 o 0 = st 1 4 o 0 → Q s) : f1_balance o b lo Q st := by
  have hC := hA.1
  have l3 := hC.2.1
  have L : ∀ (m : Nat) (v : Int) (s : St), 0 ≤ v → v ≤ 31 → F13 o st s → (∀ i, 0 ≤ i → i < 5 → s 13 0 o i = if i < A 2 then smE (fun x => st 12 0 o x * infA A i x) v.toNat else 0) → 31 - v < m → f1_balance_l2 o b lo Q m s v := by
    intro m
    induction m with
    | zero => intro v s a1 a2 a3 a4 a5; omega
    | succ m ih =>
      intro v s a1 a2 a3 a4 a5
      have e12 : ∀ x, s 12 0 o x = st 12 0 o x := fun x => a3 12 0 o x (by omega)
      have hLs := hL.f1 a3.f1
      have hBs := hB.f1 a3.f1
      unfold f1_balance_l2
      refine ⟨inI_s (by omega) (by omega), fun c => ?_, fun c => ?_⟩
      · rw [hLs.2.2.1]
        have hv : v.toNat = 31 := by omega
        rw [hv] at a4
        refine W1_sweep hA hBs (fun x x0 x1 => ?_) (fun i i0 i1 => ?_) (fun s' f' t' => ?_)
        · rw [e12]
          have := hP.2.1 x x0 x1
          exact inI_s (by omega) (by omega)
        · have n5 := hC.2.2.2.1
          rw [a4 i i0 (by omega), if_pos i1, prs_ext e12]
          rfl
        · refine h s' (a3.f1.trans f'.f1) ⟨fun i i0 i1 => ?_, fun x x0 x1 => ?_⟩ ((f' 1 4 o 0 (by omega)).trans (a3 1 4 o 0 (by omega)))
          · rw [f' 13 0 o i (by omega), a4 i i0 i1]
            by_cases d : i < A 2
            · rw [if_pos d, if_pos d, ← hP.1]
              rfl
            · rw [if_neg d, if_neg d]
          · have := t' x x0 x1
            rw [prs_ext e12, prs_ext e12, hP.1, hP.1] at this
            exact this
      · rw [e12]
        have hb := hP.2.1 v a1 (by omega)
        refine ⟨a1, by omega, inI_s (by omega) (by omega), fun c2 => ?_, fun c2 => ?_⟩
        · unfold f1_balance_j23
          rintro _ rfl
          refine ih (v + 1) s (by omega) (by omega) a3 (fun i i0 i1 => ?_) (by omega)
          rw [a4 i i0 i1, smE_S _ a1, c2, Int.zero_mul, Int.add_zero]
        · have vA : v ≤ A 0 := by
            by_cases q : A 0 < v
            · exact absurd (hP.2.2.1 v a1 q (by omega)) c2
            · omega
          refine W1_holdUp hC hLs a1 vA (by rw [e12]; exact inI_s (by omega) (by omega)) (fun s' f' t' => ?_)
          unfold f1_balance_j23
          rintro _ rfl
          refine ih (v + 1) s' (by omega) (by omega) (a3.trans f') (fun i i0 i1 => ?_) (by omega)
          rw [t' i i0 i1, a4 i i0 i1, e12]
          by_cases d : i < A 2
          · rw [if_pos d, if_pos d, if_pos d, smE_S _ a1]
          · rw [if_neg d, if_neg d, if_neg d]
            rfl
  unfold f1_balance
  refine ⟨100, L 100 0 st (by omega) (by omega) F13.rf (fun i i0 i1 => ?_) (by omega)⟩
  rw [hP.2.2.2 i i0 i1]
  split <;> rfl
theorem W1_pressAxlesT {o b : Int} {A : Int → Int} {Q : St → Prop} {st : St} {T : (Int → Int) → Int} {B head : Int} (hA : VF A) (hB : BF st b A) (hP : PT st o A T B) (hh : 0 ≤ head) (hh2 : head ≤ 1000)
    (h : ∀ s, F1 o st s → PT s o A (fun f => T f + smE (fun k => if onA A k head then A (35 + 2 * k) * f (head - A (35 + 2 * k + 1)) else 0) (A 5).toNat) (B + 999 * A 5) → Q s) : f1_pressAxles o b Q st head := by
  have hC := hA.1
  have b5 := hA.2.2.2.2.1
  have L : ∀ (m : Nat) (v : Int) (s : St), 0 ≤ v → v ≤ A 5 → F1 o st s → PT s o A (fun f => T f + smE (fun k => if onA A k head then A (35 + 2 * k) * f (head - A (35 + 2 * k + 1)) else 0) v.toNat) (B + 999 * v) → A 5 - v < m → f1_pressAxles_l2 o b Q head m s v := by
    intro m
    induction m with
    | zero => intro v s a1 a2 a3 a4 a5; omega
    | succ m ih =>
      intro v s a1 a2 a3 a4 a5
      have hBs := hB.f1 a3
      unfold f1_pressAxles_l2
      rw [hBs.2.2.2.2.2.1]
      refine ⟨inI_s (by omega) (by omega), inI_s (by omega) (by omega), fun c => ?_, fun c => ?_⟩
      · have hv : v = A 5 := by omega
        subst hv
        exact h s a3 a4
      · have hx := hA.2.2.2.2.2.2 v a1 (by omega)
        have hb := hBs.2.2.2.2.2.2.2.2 v a1 (by omega)
        refine W6_first hBs.2.2.2.1 (inI_s (by omega) (by omega)) (fun _ _ => ?_) (fun q => absurd ⟨a1, by rw [hBs.2.2.2.2.2.1]; omega⟩ q)
        refine W6_second hBs.2.2.2.1 (inI_s (by omega) (by omega)) (fun _ _ => ?_) (fun q => absurd ⟨a1, by rw [hBs.2.2.2.2.2.1]; omega⟩ q)
        rw [hb.1, hb.2]
        refine W1_pressT hBs.1 hC a4 hx.1.1 hx.1.2 (inI_s (by omega) (by omega)) (fun s' f' p' => ?_)
        rintro _ rfl
        refine ih (v + 1) s' (by omega) (by omega) (a3.trans f') (p'.ext (fun f => ?_) (by omega)) (by omega)
        show T f + smE (fun k => if onA A k head then A (35 + 2 * k) * f (head - A (35 + 2 * k + 1)) else 0) v.toNat + (if 0 ≤ head - A (35 + 2 * v + 1) ∧ head - A (35 + 2 * v + 1) ≤ A 0 then A (35 + 2 * v) * f (head - A (35 + 2 * v + 1)) else 0) = _
        rw [smE_S _ a1, ← Int.add_assoc]
        by_cases q : 0 ≤ head - A (35 + 2 * v + 1) ∧ head - A (35 + 2 * v + 1) ≤ A 0
        · rw [if_pos q, if_pos (show onA A v head from ⟨by omega, q⟩)]
        · rw [if_neg q, if_neg (fun z => q z.2)]
  unfold f1_pressAxles
  refine ⟨100, L 100 0 st (by omega) (by omega) F1.rf (hP.ext (fun f => ?_) (by omega)) (by omega)⟩
  rw [smE_0, Int.add_zero]
theorem W1_underAllT {o b lo : Int} {A : Int → Int} {Q : St → Prop} {st : St} {head : Int} (hA : VF A) (hB : BF st b A) (hL : LR st lo A) (hh : -1 ≤ head) (hh2 : head ≤ 1000)
    (h : ∀ s, F1 o st s → FR s o A (TA A head) → s 1 4 o 0 = TA A head (fun _ => 1) → Q s) : f1_underAll o b lo Q st head := by
  have hC := hA.1
  have b4 := hA.2.2.2.1
  have b5 := hA.2.2.2.2.1
  have L : ∀ (m : Nat) (v : Int) (s : St), 0 ≤ v → v ≤ A 4 → F1 o st s → PT s o A (fun f => smE (fun k => A (19 + 2 * k) * f (A (19 + 2 * k + 1))) v.toNat) (999 * v) → A 4 - v < m → f1_underAll_l7 o b lo Q head m s v := by
    intro m
    induction m with
    | zero => intro v s a1 a2 a3 a4 a5; omega
    | succ m ih =>
      intro v s a1 a2 a3 a4 a5
      have hBs := hB.f1 a3
      unfold f1_underAll_l7
      rw [hBs.2.2.2.2.1]
      refine ⟨inI_s (by omega) (by omega), inI_s (by omega) (by omega), fun c => ?_, fun c => ?_⟩
      · have hv : v = A 4 := by omega
        subst hv
        refine ⟨inI_s (by omega) (by omega), fun e => ?_, fun e => ?_⟩
        · unfold f1_underAll_j59
          refine W1_balanceT hA hBs.1 (hL.f1 a3) a4.1 (by omega) (fun s' f' r' k' => ?_)
          have eT : ∀ f, smE (fun k => A (19 + 2 * k) * f (A (19 + 2 * k + 1))) (A 4).toNat = TA A head f := fun f => by
            unfold TA
            rw [smE_z (A 5).toNat (fun k _ _ => if_neg (fun q => q.1 e)), Int.add_zero]
          exact h s' (a3.trans f') (r'.ext eT) (k'.trans (a4.2.trans (eT (fun _ => 1))))
        · refine W1_pressAxlesT hA hBs a4 (by omega) hh2 (fun s1 f1 p1 => ?_)
          unfold f1_underAll_j59
          exact W1_balanceT hA (hBs.f1 f1).1 ((hL.f1 a3).f1 f1) p1.1 (by omega) (fun s' f' r' k' => h s' ((a3.trans f1).trans f') r' (k'.trans p1.2))
      · have hx := hA.2.2.2.2.2.1 v a1 (by omega)
        have hb := hBs.2.2.2.2.2.2.2.1 v a1 (by omega)
        refine W6_first hBs.2.2.1 (inI_s (by omega) (by omega)) (fun _ _ => ?_) (fun q => absurd ⟨a1, by rw [hBs.2.2.2.2.1]; omega⟩ q)
        refine W6_second hBs.2.2.1 (inI_s (by omega) (by omega)) (fun _ _ => ?_) (fun q => absurd ⟨a1, by rw [hBs.2.2.2.2.1]; omega⟩ q)
        rw [hb.1, hb.2]
        have l3 := hC.2.1
        refine W1_pressT hBs.1 hC a4 hx.1.1 hx.1.2 (inI_s (by omega) (by omega)) (fun s' f' p' => ?_)
        rintro _ rfl
        refine ih (v + 1) s' (by omega) (by omega) (a3.trans f') (p'.ext (fun f => ?_) (by omega)) (by omega)
        show smE (fun k => A (19 + 2 * k) * f (A (19 + 2 * k + 1))) v.toNat + (if 0 ≤ A (19 + 2 * v + 1) ∧ A (19 + 2 * v + 1) ≤ A 0 then A (19 + 2 * v) * f (A (19 + 2 * v + 1)) else 0) = _
        rw [smE_S _ a1, if_pos hx.2]
  unfold f1_underAll
  refine W1_liftAllT (A := A) (fun s1 f1 p1 => ⟨100, L 100 0 s1 (by omega) (by omega) f1 (p1.ext (fun f => ?_) (by omega)) (by omega)⟩)
  rw [smE_0]
