/-- what the reckoning reads of the beam b -/
def BR (st : St) (b : Int) (A : Int → Int) : Prop := st 0 0 b 0 = A 0 ∧ RW st (4 * b) ∧ RW st (4 * b + 1) ∧ st 6 2 (4 * b) 0 = A 2 ∧ st 6 2 (4 * b + 1) 0 = A 2 - 2 ∧ (∀ k, 0 ≤ k → k < A 2 → st 10 0 (4 * b) k = A (6 + 2 * k)) ∧ ∀ k, 0 ≤ k → k < A 2 - 2 → st 10 0 (4 * b + 1) k = A (16 + k)
theorem BR.fr {st st' : St} {b : Int} {A : Int → Int} (h : BR st b A) (hf : ∀ K s i j, K = 0 ∨ K = 6 ∨ K = 10 → st' K s i j = st K s i j) : BR st' b A := by
  obtain ⟨h1, h2, h3, h4, h5, h6, h7⟩ := h
  refine ⟨(hf 0 0 b 0 (Or.inl rfl)).trans h1, ?_, ?_, (hf 6 2 _ 0 (by omega)).trans h4, (hf 6 2 _ 0 (by omega)).trans h5, fun k a c => (hf 10 0 _ k (by omega)).trans (h6 k a c), fun k a c => (hf 10 0 _ k (by omega)).trans (h7 k a c)⟩
  · unfold RW at h2 ⊢
    rw [hf 6 2 (4 * b) 0 (by omega)]
    exact h2
  · unfold RW at h3 ⊢
    rw [hf 6 2 (4 * b + 1) 0 (by omega)]
    exact h3
theorem BR.f18 {st st' : St} {b : Int} {A : Int → Int} (h : BR st b A) (hf : F18 st st') : BR st' b A := h.fr (fun K s i j hK => hf K s i j (by omega))
theorem W3_weighing {b : Int} {A : Int → Int} {Q : Int → St → Prop} {st : St} {e x : Int} (hB : BR st b A) (hA : VC A) (he : 0 ≤ e) (he2 : e < A 2) (hx : 0 ≤ x) (hx2 : x ≤ 30) (h : Q (lvA A e x) st) : f3_weighing b Q st e x := by
  have hn : A 2 ≤ 5 := hA.2.2.2.1
  have hb := lvA_b hA he he2 hx hx2
  unfold f3_weighing
  refine ⟨inI_s (by omega) (by omega), fun c => ?_, fun c => ⟨inI_s (by omega) (by omega), fun c2 => ?_, fun c2 => ?_⟩⟩
  · unfold lvA at h; rwa [if_pos c] at h
  · unfold lvA at h; rwa [if_neg c, if_pos c2] at h
  · have hh := hA.2.2.2.2.2 (e - 2) (by omega) (by omega)
    refine W6_first hB.2.2.1 (inI_s (by omega) (by omega)) (fun _ _ => ?_) (fun q => absurd ⟨by omega, by rw [hB.2.2.2.2.1]; omega⟩ q)
    rw [hB.2.2.2.2.2.2 (e - 2) (by omega) (by omega)]
    refine ⟨inI_s (by omega) (by omega), ?_⟩
    unfold lvA at h
    rw [if_neg c, if_neg c2] at h
    rw [show 16 + (e - 2) = 16 + e - 2 by omega]
    exact h
/-- the balance of the reactions with a 1 for each equation behind it -/
def exM (A : Int → Int) : Int → Int → Int := fun i j => if 0 ≤ i ∧ i < A 2 ∧ 0 ≤ j ∧ j < A 2 then lvA A i (A (6 + 2 * j)) else if j = A 2 + i then 1 else 0
theorem exM_B {A : Int → Int} (hA : VC A) : MB (exM A) := by
  intro i j
  unfold exM
  split
  · rename_i h
    have h1 := hA.2.2.2.2.1 j h.2.2.1 h.2.2.2
    have := lvA_b hA h.1 h.2.1 h1.1 h1.2
    omega
  · split <;> omega
theorem exM_id {A : Int → Int} : ∀ i e, 0 ≤ i → i < A 2 → 0 ≤ e → e < A 2 → exM A i (A 2 + e) = if i = e then 1 else 0 := by
  intro i e i0 i1 e0 e1
  unfold exM
  rw [if_neg (by omega)]
  by_cases c : i = e
  · rw [if_pos c, if_pos (by omega)]
  · rw [if_neg c, if_neg (by omega)]
def EQ (o : Int) (A : Int → Int) (v w : Int) (st0 s : St) : Prop := F18 st0 s ∧ ∀ i j, 0 ≤ i → i < A 2 → 0 ≤ j → j < 2 * A 2 → (i < v ∨ (i = v ∧ (j < w ∨ (A 2 ≤ j ∧ j < A 2 + w)))) → tabM s o i j = exM A i j
theorem W3_setEquations {o b : Int} {A : Int → Int} {Q : St → Prop} {st : St} (hB : BR st b A) (hA : VC A) (hn : st 3 2 o 0 = A 2) (h : ∀ s, F18 st s → (∀ i j, 0 ≤ i → i < A 2 → 0 ≤ j → j < 2 * A 2 → tabM s o i j = exM A i j) → Q s) : f3_setEquations o b Q st := by
  have n2 : 2 ≤ A 2 := hA.2.2.1
  have n5 : A 2 ≤ 5 := hA.2.2.2.1
  have In : ∀ (B : St → Int → Prop) (v : Int), 0 ≤ v → v < A 2 → (∀ s, EQ o A (v + 1) 0 st s → B s (v + 1)) → ∀ (m : Nat) (w : Int) (s : St), 0 ≤ w → w ≤ A 2 → EQ o A v w st s → A 2 - w < m → f3_setEquations_l12 o b B Q v m s w := by
    intro B v v0 v1 hBk m
    induction m with
    | zero => intro w s a1 a2 a3 a4; omega
    | succ m ih =>
      intro w s a1 a2 a3 a4
      have hs : s 3 2 o 0 = A 2 := (a3.1 3 2 o 0 (by omega)).trans hn
      have hBs := hB.f18 a3.1
      have hp := hA.2.2.2.2.1 w a1
      unfold f3_setEquations_l12
      rw [hs]
      refine ⟨inI_s (by omega) (by omega), inI_s (by omega) (by omega), fun c => ?_, fun c => ⟨v0, by omega, ?_⟩⟩
      · rintro _ rfl
        refine hBk s ⟨a3.1, fun i j i0 i1 j0 j1 q => a3.2 i j i0 i1 j0 j1 ?_⟩
        omega
      · refine W6_first hBs.2.1 (inI_s (by omega) (by omega)) (fun _ _ => ?_) (fun q => absurd ⟨a1, by rw [hBs.2.2.2.1]; omega⟩ q)
        rw [hBs.2.2.2.2.2.1 w a1 (by omega)]
        have hp := hp (by omega)
        have hl := lvA_b hA v0 v1 hp.1 hp.2
        refine W3_weighing hBs hA v0 v1 hp.1 hp.2 ⟨inI_s (by omega) (by omega), a1, by omega, ?_⟩
        rintro _ rfl
        have hsz : (up s 18 0 (5 * o + v) w (lvA A v (A (6 + 2 * w)))) 3 2 o 0 = A 2 := (up_ne (by omega)).trans hs
        have K : ∀ u : Int, (u = if w = v then 1 else 0) → f3_setEquations_j64 o b B (fun st v3x12 => f3_setEquations_l12 o b B Q v m st v3x12) Q v (up s 18 0 (5 * o + v) w (lvA A v (A (6 + 2 * w)))) w u ((up s 18 0 (5 * o + v) w (lvA A v (A (6 + 2 * w)))) 3 2 o 0 + w) := by
          intro u hu
          rw [hsz]
          unfold f3_setEquations_j64
          refine ⟨by omega, by omega, ?_⟩
          rintro _ rfl _ rfl
          refine ih (w + 1) _ (by omega) (by omega) ⟨a3.1.up.up, fun i j i0 i1 j0 j1 q => ?_⟩ (by omega)
          rw [tabM_up, tabM_up]
          by_cases c1 : i = v ∧ j = A 2 + w
          · rw [if_pos c1, hu, c1.1, c1.2, exM_id v w v0 v1 a1 (by omega)]
            by_cases c3 : w = v
            · rw [if_pos c3, if_pos c3.symm]
            · rw [if_neg c3, if_neg (fun q => c3 q.symm)]
          · rw [if_neg c1]
            by_cases c2 : i = v ∧ j = w
            · rw [if_pos c2]
              unfold exM
              rw [if_pos (by omega), c2.1, c2.2]
            · rw [if_neg c2]
              exact a3.2 i j i0 i1 j0 j1 (by omega)
        refine ⟨v0, by omega, inI_s (by omega) (by omega), inI_s (by omega) (by omega), fun e => K 1 (by rw [if_pos e.symm]), fun e => K 0 (by rw [if_neg (fun q => e q.symm)])⟩
  have Out : ∀ (m : Nat) (v : Int) (s : St), 0 ≤ v → v ≤ A 2 → EQ o A v 0 st s → A 2 - v < m → f3_setEquations_l2 o b Q m s v := by
    intro m
    induction m with
    | zero => intro v s a1 a2 a3 a4; omega
    | succ m ih =>
      intro v s a1 a2 a3 a4
      have hs : s 3 2 o 0 = A 2 := (a3.1 3 2 o 0 (by omega)).trans hn
      unfold f3_setEquations_l2
      rw [hs]
      refine ⟨inI_s (by omega) (by omega), inI_s (by omega) (by omega), fun c => h s a3.1 (fun i j i0 i1 j0 j1 => a3.2 i j i0 i1 j0 j1 (by omega)), fun c => ?_⟩
      exact ⟨100, In _ v a1 (by omega) (fun s' e' => ih (v + 1) s' (by omega) (by omega) e' (by omega)) 100 0 s (by omega) (by omega) a3 (by omega)⟩
  unfold f3_setEquations
  exact ⟨100, Out 100 0 st (by omega) (by omega) ⟨F18.rf, fun i j i0 i1 j0 j1 q => by omega⟩ (by omega)⟩
/-- Cramer: the determinants of exM are the reckonings -/
theorem exM_D {A : Int → Int} (hA : VC A) : dtn (exM A) (A 2) = DA A (-1) 0 := by
  refine dtn_ext hA.2.2.1 hA.2.2.2.1 (fun i j i0 i1 j0 j1 => ?_)
  unfold exM mxA plA
  rw [if_pos (by omega), if_pos (by omega), if_neg (by omega)]
theorem exM_Ds {A : Int → Int} (hA : VC A) {s x : Int} : dtn (rc (exM A) s (fun e => lvA A e x)) (A 2) = DA A s x := by
  refine dtn_ext hA.2.2.1 hA.2.2.2.1 (fun i j i0 i1 j0 j1 => ?_)
  unfold rc exM mxA plA
  rw [if_pos (by omega : 0 ≤ i ∧ i < A 2 ∧ 0 ≤ j ∧ j < A 2)]
  by_cases c : j = s
  · rw [if_pos c, if_pos c, if_pos (by omega)]
  · rw [if_neg c, if_neg c, if_pos (by omega)]
/-- only the lines of o have changed -/
def F20 (o : Int) (st st' : St) : Prop := ∀ K s i j, ¬ (K = 20 ∧ 5 * o ≤ i ∧ i < 5 * o + 5) → st' K s i j = st K s i j
theorem F20.rf {o : Int} {st : St} : F20 o st st := fun _ _ _ _ _ => rfl
theorem F20.up {o : Int} {st0 st : St} {i j v : Int} (h : F20 o st0 st) (h0 : 0 ≤ i) (h1 : i < 5) : F20 o st0 (up st 20 0 (5 * o + i) j v) := fun K s i' j' hK => by rw [up_ne (by omega)]; exact h K s i' j' hK
def linM (st : St) (o : Int) : Int → Int → Int := fun i j => st 20 0 (5 * o + i) j
theorem linM_up {st : St} {o i j v i' j' : Int} : linM (up st 20 0 (5 * o + i) j v) o i' j' = if i' = i ∧ j' = j then v else linM st o i' j' := by
  unfold linM
  rw [up_eq]
  by_cases h : i' = i ∧ j' = j
  · rw [if_pos h, if_pos ⟨rfl, rfl, by rw [h.1], h.2⟩]
  · rw [if_neg h, if_neg (fun q => h ⟨by have := q.2.2.1; omega, q.2.2.2⟩)]
def SL (o : Int) (A : Int → Int) (V : Int → Int → Int) (x i : Int) (st0 s : St) : Prop := F20 o st0 s ∧ ∀ i' x', 0 ≤ i' → i' < A 2 → 0 ≤ x' → x' ≤ A 0 → (x' < x ∨ (x' = x ∧ i' < i)) → linM s o i' x' = V i' x'
theorem W3_setLines {o b : Int} {A : Int → Int} {V : Int → Int → Int} {Q : St → Prop} {st : St} (hB : BR st b A) (hA : VC A) (hn : st 3 2 o 0 = A 2) (hp : st 3 3 o 0 = A 0 + 1)
    (hV : ∀ i x, 0 ≤ i → i < A 2 → 0 ≤ x → x ≤ A 0 → smE (fun e => tabM st o i (A 2 + e) * lvA A e x) (A 2).toNat = V i x) (h : ∀ s, F20 o st s → (∀ i x, 0 ≤ i → i < A 2 → 0 ≤ x → x ≤ A 0 → linM s o i x = V i x) → Q s) : f3_setLines o b Q st := by
  have n2 : 2 ≤ A 2 := hA.2.2.1
  have n5 : A 2 ≤ 5 := hA.2.2.2.1
  have l2 : 2 ≤ A 0 := hA.1
  have l3 : A 0 ≤ 30 := hA.2.1
  have fr : ∀ s, F20 o st s → s 3 2 o 0 = A 2 ∧ s 3 3 o 0 = A 0 + 1 ∧ BR s b A ∧ ∀ i j, s 18 0 i j = st 18 0 i j := fun s f => ⟨(f 3 2 o 0 (by omega)).trans hn, (f 3 3 o 0 (by omega)).trans hp, hB.fr (fun K s i j hK => f K s i j (by omega)), fun i j => f 18 0 i j (by omega)⟩
  have L3 : ∀ (B2 B : St → Int → Prop) (x i : Int), 0 ≤ x → x ≤ A 0 → 0 ≤ i → i < A 2 → (∀ s, SL o A V x (i + 1) st s → B s (i + 1)) → ∀ (m : Nat) (e : Int) (s : St), 0 ≤ e → e ≤ A 2 → SL o A V x i st s → A 2 - e < m → f3_setLines_l26 o b B2 B Q x i m s (smE (fun e => tabM st o i (A 2 + e) * lvA A e x) e.toNat) e := by
    intro B2 B x i x0 x1 i0 i1 hk m
    induction m with
    | zero => intro e s a1 a2 a3 a4; omega
    | succ m ih =>
      intro e s a1 a2 a3 a4
      obtain ⟨hs, hs3, hBs, h18⟩ := fr s a3.1
      unfold f3_setLines_l26
      rw [hs]
      refine ⟨inI_s (by omega) (by omega), inI_s (by omega) (by omega), fun c => ⟨i0, by omega, x0, by omega, ?_⟩, fun c => ⟨i0, by omega, by omega, by omega, ?_⟩⟩
      · have he : e = A 2 := by omega
        subst he
        rintro _ rfl _ rfl
        refine hk _ ⟨a3.1.up i0 (by omega), fun i' x' j0 j1 y0 y1 q => ?_⟩
        rw [linM_up]
        by_cases c1 : i' = i ∧ x' = x
        · rw [if_pos c1, c1.1, c1.2]
          exact hV i x i0 i1 x0 x1
        · rw [if_neg c1]
          exact a3.2 i' x' j0 j1 y0 y1 (by omega)
      · have hl := lvA_b hA a1 (show e < A 2 by omega) x0 (show x ≤ 30 by omega)
        refine W3_weighing hBs hA a1 (by omega) x0 (by omega) ⟨inI_s (by omega) (by omega), ?_⟩
        rintro _ rfl _ rfl
        have := ih (e + 1) s (by omega) (by omega) a3 (by omega)
        rw [show (e + 1).toNat = e.toNat + 1 by omega] at this
        unfold smE at this
        rw [show ((e.toNat : Nat) : Int) = e by omega] at this
        rw [h18]
        exact this
  have L2 : ∀ (B2 : St → Int → Prop) (x : Int), 0 ≤ x → x ≤ A 0 → (∀ s, SL o A V (x + 1) 0 st s → B2 s (x + 1)) → ∀ (m : Nat) (i : Int) (s : St), 0 ≤ i → i ≤ A 2 → SL o A V x i st s → A 2 - i < m → f3_setLines_l12 o b B2 Q x m s i := by
    intro B2 x x0 x1 hk m
    induction m with
    | zero => intro i s a1 a2 a3 a4; omega
    | succ m ih =>
      intro i s a1 a2 a3 a4
      obtain ⟨hs, hs3, hBs, h18⟩ := fr s a3.1
      unfold f3_setLines_l12
      rw [hs]
      refine ⟨inI_s (by omega) (by omega), inI_s (by omega) (by omega), fun c => ?_, fun c => ?_⟩
      · rintro _ rfl
        exact hk s ⟨a3.1, fun i' x' j0 j1 y0 y1 q => a3.2 i' x' j0 j1 y0 y1 (by omega)⟩
      · exact ⟨100, L3 B2 _ x i x0 x1 a1 (by omega) (fun s' e' => ih (i + 1) s' (by omega) (by omega) e' (by omega)) 100 0 s (by omega) (by omega) a3 (by omega)⟩
  have L1 : ∀ (m : Nat) (x : Int) (s : St), 0 ≤ x → x ≤ A 0 + 1 → SL o A V x 0 st s → A 0 + 1 - x < m → f3_setLines_l2 o b Q m s x := by
    intro m
    induction m with
    | zero => intro x s a1 a2 a3 a4; omega
    | succ m ih =>
      intro x s a1 a2 a3 a4
      obtain ⟨hs, hs3, hBs, h18⟩ := fr s a3.1
      unfold f3_setLines_l2
      rw [hs3]
      refine ⟨inI_s (by omega) (by omega), inI_s (by omega) (by omega), fun c => h s a3.1 (fun i j i0 i1 j0 j1 => a3.2 i j i0 i1 j0 j1 (by omega)), fun c => ?_⟩
      exact ⟨100, L2 _ x a1 (by omega) (fun s' e' => ih (x + 1) s' (by omega) (by omega) e' (by omega)) 100 0 s (by omega) (by omega) a3 (by omega)⟩
  unfold f3_setLines
  exact ⟨100, L1 100 0 st (by omega) (by omega) ⟨F20.rf, fun i j i0 i1 j0 j1 q => by omega⟩ (by omega)⟩
