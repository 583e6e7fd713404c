/-! under all, under one; what the class asks of them -/
def TA (A : Int → Int) (head : Int) (f : Int → Int) : Int := smE (fun k => A (19 + 2 * k) * f (A (19 + 2 * k + 1))) (A 4).toNat + smE (fun k => if onA A k head then A (35 + 2 * k) * f (head - A (35 + 2 * k + 1)) else 0) (A 5).toNat
theorem allA_TA (A : Int → Int) (kind n head : Int) : allA A kind n head = TA A head (byA A kind n) := rfl
theorem PS.ext {st : St} {o : Int} {A : Int → Int} {T T' : (Int → Int) → Int} {B B' : Int} (h : PS st o A T B) (hT : ∀ f, T f = T' f) (hB : B = B') : PS st o A T' B' := by
  rw [← hB]
  exact ⟨fun f => (h.1 f).trans (hT f), h.2⟩
theorem FR.ext {st : St} {o : Int} {A : Int → Int} {T T' : (Int → Int) → Int} (h : FR st o A T) (hT : ∀ f, T f = T' f) : FR st o A T' := by
  have : T = T' := funext hT
  rw [← this]
  exact h
theorem W1_pressAxles {o b : Int} {A : Int → Int} {Q : St → Prop} {st : St} {T : (Int → Int) → Int} {B head : Int} (hA : VF A) (hB : BF st b A) (hP : PS st o A T B) (hh : 0 ≤ head) (hh2 : head ≤ 1000)
    (h : ∀ s, F1 o st s → PS s o A (fun f => T f + smE (fun k => if onA A k head then A (35 + 2 * k) * f (head - A (35 + 2 * k + 1)) else 0) (A 5).toNat) (B + 999 * A 5) → Q s) : f1_pressAxles o b Q st head := by
  have hC := hA.1
  have b5 := hA.2.2.2.2.1
  have L : ∀ (m : Nat) (v : Int) (s : St), 0 ≤ v → v ≤ A 5 → F1 o st s → PS s o A (fun f => T f + smE (fun k => if onA A k head then A (35 + 2 * k) * f (head - A (35 + 2 * k + 1)) else 0) v.toNat) (B + 999 * v) → A 5 - v < m → f1_pressAxles_l2 o b Q head m s v := by
    intro m
    induction m with
    | zero => intro v s a1 a2 a3 a4 a5; omega
    | succ m ih =>
      intro v s a1 a2 a3 a4 a5
      have hBs := hB.f1 a3
      unfold f1_pressAxles_l2
      rw [hBs.2.2.2.2.2.1]
      refine ⟨inI_s (by omega) (by omega), inI_s (by omega) (by omega), fun c => ?_, fun c => ?_⟩
      · have hv : v = A 5 := by omega
        subst hv
        exact h s a3 a4
      · have hx := hA.2.2.2.2.2.2 v a1 (by omega)
        have hb := hBs.2.2.2.2.2.2.2.2 v a1 (by omega)
        refine W6_first hBs.2.2.2.1 (inI_s (by omega) (by omega)) (fun _ _ => ?_) (fun q => absurd ⟨a1, by rw [hBs.2.2.2.2.2.1]; omega⟩ q)
        refine W6_second hBs.2.2.2.1 (inI_s (by omega) (by omega)) (fun _ _ => ?_) (fun q => absurd ⟨a1, by rw [hBs.2.2.2.2.2.1]; omega⟩ q)
        rw [hb.1, hb.2]
        refine W1_press hBs.1 hC a4 hx.1.1 hx.1.2 (inI_s (by omega) (by omega)) (fun s' f' p' => ?_)
        rintro _ rfl
        refine ih (v + 1) s' (by omega) (by omega) (a3.trans f') (p'.ext (fun f => ?_) (by omega)) (by omega)
        show T f + smE (fun k => if onA A k head then A (35 + 2 * k) * f (head - A (35 + 2 * k + 1)) else 0) v.toNat + (if 0 ≤ head - A (35 + 2 * v + 1) ∧ head - A (35 + 2 * v + 1) ≤ A 0 then A (35 + 2 * v) * f (head - A (35 + 2 * v + 1)) else 0) = _
        rw [smE_S _ a1, ← Int.add_assoc]
        by_cases q : 0 ≤ head - A (35 + 2 * v + 1) ∧ head - A (35 + 2 * v + 1) ≤ A 0
        · rw [if_pos q, if_pos (show onA A v head from ⟨by omega, q⟩)]
        · rw [if_neg q, if_neg (fun z => q z.2)]
  unfold f1_pressAxles
  refine ⟨100, L 100 0 st (by omega) (by omega) F1.rf (hP.ext (fun f => ?_) (by omega)) (by omega)⟩
  rw [smE_0, Int.add_zero]
theorem W1_underAll {o b lo : Int} {A : Int → Int} {Q : St → Prop} {st : St} {head : Int} (hA : VF A) (hB : BF st b A) (hL : LR st lo A) (hh : -1 ≤ head) (hh2 : head ≤ 1000)
    (h : ∀ s, F1 o st s → FR s o A (TA A head) → Q s) : f1_underAll o b lo Q st head := by
  have hC := hA.1
  have b4 := hA.2.2.2.1
  have b5 := hA.2.2.2.2.1
  have L : ∀ (m : Nat) (v : Int) (s : St), 0 ≤ v → v ≤ A 4 → F1 o st s → PS s o A (fun f => smE (fun k => A (19 + 2 * k) * f (A (19 + 2 * k + 1))) v.toNat) (999 * v) → A 4 - v < m → f1_underAll_l7 o b lo Q head m s v := by
    intro m
    induction m with
    | zero => intro v s a1 a2 a3 a4 a5; omega
    | succ m ih =>
      intro v s a1 a2 a3 a4 a5
      have hBs := hB.f1 a3
      unfold f1_underAll_l7
      rw [hBs.2.2.2.2.1]
      refine ⟨inI_s (by omega) (by omega), inI_s (by omega) (by omega), fun c => ?_, fun c => ?_⟩
      · have hv : v = A 4 := by omega
        subst hv
        refine ⟨inI_s (by omega) (by omega), fun e => ?_, fun e => ?_⟩
        · unfold f1_underAll_j59
          refine W1_balance hA hBs.1 (hL.f1 a3) a4 (by omega) (fun s' f' r' => h s' (a3.trans f') (r'.ext (fun f => ?_)))
          unfold TA
          rw [smE_z (A 5).toNat (fun k _ _ => if_neg (fun q => q.1 e)), Int.add_zero]
        · refine W1_pressAxles hA hBs a4 (by omega) hh2 (fun s1 f1 p1 => ?_)
          unfold f1_underAll_j59
          exact W1_balance hA (hBs.f1 f1).1 ((hL.f1 a3).f1 f1) p1 (by omega) (fun s' f' r' => h s' ((a3.trans f1).trans f') r')
      · have hx := hA.2.2.2.2.2.1 v a1 (by omega)
        have hb := hBs.2.2.2.2.2.2.2.1 v a1 (by omega)
        refine W6_first hBs.2.2.1 (inI_s (by omega) (by omega)) (fun _ _ => ?_) (fun q => absurd ⟨a1, by rw [hBs.2.2.2.2.1]; omega⟩ q)
        refine W6_second hBs.2.2.1 (inI_s (by omega) (by omega)) (fun _ _ => ?_) (fun q => absurd ⟨a1, by rw [hBs.2.2.2.2.1]; omega⟩ q)
        rw [hb.1, hb.2]
        have l3 := hC.2.1
        refine W1_press hBs.1 hC a4 hx.1.1 hx.1.2 (inI_s (by omega) (by omega)) (fun s' f' p' => ?_)
        rintro _ rfl
        refine ih (v + 1) s' (by omega) (by omega) (a3.trans f') (p'.ext (fun f => ?_) (by omega)) (by omega)
        show smE (fun k => A (19 + 2 * k) * f (A (19 + 2 * k + 1))) v.toNat + (if 0 ≤ A (19 + 2 * v + 1) ∧ A (19 + 2 * v + 1) ≤ A 0 then A (19 + 2 * v) * f (A (19 + 2 * v + 1)) else 0) = _
        rw [smE_S _ a1, if_pos hx.2]
  unfold f1_underAll
  refine W1_liftAll (A := A) (fun s1 f1 p1 => ⟨100, L 100 0 s1 (by omega) (by omega) f1 (p1.ext (fun f => ?_) (by omega)) (by omega)⟩)
  rw [smE_0]
theorem W1_underOne {o b lo : Int} {A : Int → Int} {Q : St → Prop} {st : St} {x : Int} (hA : VF A) (hB : BR st b A) (hL : LR st lo A) (hx : 0 ≤ x) (hx2 : x ≤ A 0)
    (h : ∀ s, F1 o st s → FR s o A (fun f => f x) → Q s) : f1_underOne o b lo Q st x := by
  have hC := hA.1
  have l3 := hC.2.1
  unfold f1_underOne
  refine W1_liftAll (A := A) (fun s1 f1 p1 => ?_)
  refine W1_press (hB.f1 f1) hC p1 (by omega) (by omega) (inI_s (by omega) (by omega)) (fun s2 f2 p2 => ?_)
  refine W1_balance hA ((hB.f1 f1).f1 f2) ((hL.f1 f1).f1 f2) p2 (by omega) (fun s' f' r' => h s' ((f1.trans f2).trans f') (r'.ext (fun f => ?_)))
  rw [if_pos ⟨hx, hx2⟩, Int.zero_add, Int.one_mul]
theorem W1_reactionOf {o : Int} {A : Int → Int} {T : (Int → Int) → Int} {Q : Int → St → Prop} {st : St} {i : Int} (hR : FR st o A T) (hi : inI i) (hC : VC A) (h : Q (if 0 ≤ i ∧ i < A 2 then T (infA A i) else 0) st) : f1_reactionOf o Q st i := by
  have n5 := hC.2.2.2.1
  unfold f1_reactionOf
  refine ⟨hi, fun c => ?_, fun c => ⟨hi, fun c2 => ?_, fun c2 => ⟨by omega, by omega, ?_⟩⟩⟩
  · rwa [if_neg (by omega)] at h
  · rwa [if_neg (by omega)] at h
  · rw [hR.1 i (by omega) (by omega)]
    by_cases d : i < A 2
    · rw [if_pos d]
      rwa [if_pos (by omega)] at h
    · rw [if_neg d]
      rwa [if_neg (by omega)] at h
theorem W1_shearIn {o : Int} {A : Int → Int} {T : (Int → Int) → Int} {Q : Int → St → Prop} {st : St} {i : Int} (hR : FR st o A T) (hC : VC A) (h0 : 0 ≤ i) (h1 : i ≤ A 0) (h : Q (T (shB A i)) st) : f1_shearIn o Q st i := by
  have l3 := hC.2.1
  have hi : inI i := inI_s (by omega) (by omega)
  unfold f1_shearIn
  refine ⟨hi, fun c => absurd c (by omega), fun c => ⟨hi, fun c2 => absurd c2 (by omega), fun c2 => ⟨by omega, by omega, ?_⟩⟩⟩
  rw [(hR.2 i h0 h1).1]
  exact h
theorem W1_momentAt {o : Int} {A : Int → Int} {T : (Int → Int) → Int} {Q : Int → St → Prop} {st : St} {i : Int} (hR : FR st o A T) (hC : VC A) (h0 : 0 ≤ i) (h1 : i ≤ A 0) (h : Q (T (mmB A i)) st) : f1_momentAt o Q st i := by
  have l3 := hC.2.1
  have hi : inI i := inI_s (by omega) (by omega)
  unfold f1_momentAt
  refine ⟨hi, fun c => absurd c (by omega), fun c => ⟨hi, fun c2 => absurd c2 (by omega), fun c2 => ⟨by omega, by omega, ?_⟩⟩⟩
  rw [(hR.2 i h0 h1).2]
  exact h
theorem W1_ofKind {o : Int} {A : Int → Int} {T : (Int → Int) → Int} {Q : Int → St → Prop} {st : St} {kind n : Int} (hR : FR st o A T) (hC : VC A) (hk : 0 ≤ kind) (hk2 : kind ≤ 2) (hn : 0 ≤ n) (hn2 : ¬ kind = 0 → n ≤ A 0) (hn3 : kind = 0 → n < A 2) (h : Q (T (byA A kind n)) st) : f1_ofKind o Q st kind n := by
  have l3 := hC.2.1
  have n5 := hC.2.2.2.1
  unfold f1_ofKind
  refine ⟨inI_s (by omega) (by omega), fun c => ?_, fun c => ⟨inI_s (by omega) (by omega), fun c2 => ?_, fun c2 => ?_⟩⟩
  · have e : byA A kind n = infA A n := by funext x; unfold byA; rw [if_pos c]
    rw [e] at h
    have hn9 := hn3 c
    refine W1_reactionOf hR (inI_s (by omega) (by omega)) hC ?_
    rw [if_pos ⟨hn, hn9⟩]
    exact h
  · have e : byA A kind n = shB A n := by funext x; unfold byA; rw [if_neg c, if_pos c2]
    rw [e] at h
    exact W1_shearIn hR hC hn (hn2 c) h
  · have e : byA A kind n = mmB A n := by funext x; unfold byA; rw [if_neg c, if_neg c2]
    rw [e] at h
    exact W1_momentAt hR hC hn (hn2 c) h
