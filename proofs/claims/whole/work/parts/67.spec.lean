/-! what a text says: the reading, told once for both sides -/
def isWp (T : Int → Int) (n : Int) (w t : Nat) : Prop := tkS T n t < n ∧ kdX (T (tkS T n t)) = 1 ∧ tkE T n (tkS T n t) - tkS T n t = wlen w ∧ ∀ i, 0 ≤ i → i < wlen w → T (tkS T n t + i) = wch w i
def kdT (T : Int → Int) (n : Int) (t : Nat) : Int := if tkS T n t < n then kdX (T (tkS T n t)) else 0
def vaT (T : Int → Int) (n : Int) (t : Nat) : Int := vl T n (tkS T n t) 0
def taken (A : Int → Int) (v : Int) : Prop := (∃ k, 0 ≤ k ∧ k < A 2 ∧ A (6 + 2 * k) = v) ∨ ∃ k, 0 ≤ k ∧ k < A 3 ∧ A (16 + k) = v
section Spec
variable (T : Int → Int) (n : Int)
def sWord (w t : Nat) (K : Prop) (E : Int → Int → Prop) : Prop := (isWp T n w t → K) ∧ (¬ isWp T n w t → E (-2) (tkS T n t))
def sNum (lo hi : Int) (t : Nat) (K : Int → Prop) (E : Int → Int → Prop) : Prop := (kdT T n t = 2 → ((lo ≤ vaT T n t ∧ vaT T n t ≤ hi → K (vaT T n t)) ∧ (¬ (lo ≤ vaT T n t ∧ vaT T n t ≤ hi) → E (-3) (tkS T n t)))) ∧ (¬ kdT T n t = 2 → E (-2) (tkS T n t))
def sSemi (t : Nat) (K : Prop) (E : Int → Int → Prop) : Prop := (kdT T n t = 3 → K) ∧ (¬ kdT T n t = 3 → E (-2) (tkS T n t))
def sName (full : Prop) (t : Nat) (K : Prop) (E : Int → Int → Prop) : Prop := (full → E (-5) (tkS T n t)) ∧ (¬ full → K)
def sFree (A : Int → Int) (lo hi : Int) (t : Nat) (K : Int → Prop) (E : Int → Int → Prop) : Prop := sNum T n lo hi t (fun v => (taken A v → E (-4) (tkS T n t)) ∧ (¬ taken A v → K v)) E
def putS (A : Int → Int) (v w : Int) : Int → Int := addS A (cuN (fun k => A (6 + 2 * k)) v (A 2).toNat) v w
def putH (A : Int → Int) (v : Int) : Int → Int := addH A (cuN (fun k => A (16 + k)) v (A 3).toNat) v
def sSupport (A : Int → Int) (t : Nat) (K : Nat → (Int → Int) → Prop) (E : Int → Int → Prop) : Prop := sName T n (A 2 = 5) t (sFree T n A 0 (A 0) (t + 1) (fun v => (isWp T n 8 (t + 2) → sNum T n 1 99999 (t + 3) (fun b => sSemi T n (t + 4) (K (t + 5) (putS A v b)) E) E) ∧ (¬ isWp T n 8 (t + 2) → sSemi T n (t + 2) (K (t + 3) (putS A v (-1))) E)) E) E
def sHinge (A : Int → Int) (t : Nat) (K : Nat → (Int → Int) → Prop) (E : Int → Int → Prop) : Prop := sName T n (A 3 = 3) t (sFree T n A 1 (A 0 - 1) (t + 1) (fun v => sSemi T n (t + 2) (K (t + 3) (putH A v)) E) E) E
def sPair (A : Int → Int) (c cap i : Int) (w : Nat) (hi : Int) (t : Nat) (K : Nat → (Int → Int) → Prop) (E : Int → Int → Prop) : Prop := sName T n (A c = cap) t (sNum T n 1 999 (t + 1) (fun x => sWord T n w (t + 2) (sNum T n 0 hi (t + 3) (fun y => sSemi T n (t + 4) (K (t + 5) (addA A i c x y)) E) E) E) E) E
def sStmt (A : Int → Int) (t : Nat) (K : Nat → (Int → Int) → Prop) (E : Int → Int → Prop) : Prop := (isWp T n 2 t → sSupport T n A t K E) ∧ (¬ isWp T n 2 t → (isWp T n 3 t → sHinge T n A t K E) ∧ (¬ isWp T n 3 t → (isWp T n 4 t → sPair T n A 4 8 19 6 (A 0) t K E) ∧ (¬ isWp T n 4 t → (isWp T n 5 t → sPair T n A 5 6 35 7 30 t K E) ∧ (¬ isWp T n 5 t → E (-2) (tkS T n t)))))
def sLoop (K : (Int → Int) → Prop) (E : Int → Int → Prop) : Nat → (Int → Int) → Nat → Prop
  | 0, _, t => E (-2) (tkS T n t)
  | m + 1, A, t => (kdT T n t = 0 → K A) ∧ (¬ kdT T n t = 0 → sStmt T n A t (fun t' A' => sLoop K E m A' t') E)
def sHead (K : Nat → (Int → Int) → Prop) (E : Int → Int → Prop) : Prop := sWord T n 0 0 (sNum T n 2 30 1 (fun len => sWord T n 1 2 (sNum T n 1 999999 3 (fun mo => sSemi T n 4 (K 5 (upA (upA (fun _ => 0) 0 len) 1 mo)) E) E) E) E) E
def sText (K : (Int → Int) → Prop) (E : Int → Int → Prop) : Prop := sHead T n (fun t A => sLoop T n (fun A => ((A 2 < 2 ∨ ¬ A 3 = A 2 - 2) → E (-6) n) ∧ (¬ (A 2 < 2 ∨ ¬ A 3 = A 2 - 2) → K A)) E 600 A t) E
end Spec
/-- a beam that is being read -/
def PV (A : Int → Int) : Prop := (2 ≤ A 0 ∧ A 0 ≤ 30) ∧ (1 ≤ A 1 ∧ A 1 ≤ 999999) ∧ (0 ≤ A 2 ∧ A 2 ≤ 5) ∧ (0 ≤ A 3 ∧ A 3 ≤ 3) ∧ (0 ≤ A 4 ∧ A 4 ≤ 8) ∧ (0 ≤ A 5 ∧ A 5 ≤ 6) ∧ (∀ k, 0 ≤ k → k < A 2 → (0 ≤ A (6 + 2 * k) ∧ A (6 + 2 * k) ≤ A 0) ∧ -1 ≤ A (6 + 2 * k + 1) ∧ A (6 + 2 * k + 1) ≤ 99999) ∧ SG A ∧ HG A ∧ (∀ k, 0 ≤ k → k < A 4 → (0 ≤ A (19 + 2 * k) ∧ A (19 + 2 * k) ≤ 999) ∧ 0 ≤ A (19 + 2 * k + 1) ∧ A (19 + 2 * k + 1) ≤ A 0) ∧ ∀ k, 0 ≤ k → k < A 5 → (0 ≤ A (35 + 2 * k) ∧ A (35 + 2 * k) ≤ 999) ∧ 0 ≤ A (35 + 2 * k + 1) ∧ A (35 + 2 * k + 1) ≤ 30
theorem PV.va {A : Int → Int} (h : PV A) (h2 : 2 ≤ A 2) (h3 : A 3 = A 2 - 2) (hD : ¬ DA A (-1) 0 = 0) : VA A := by
  obtain ⟨a0, a1, a2, a3, a4, a5, s1, s2, s3, s4, s5⟩ := h
  refine ⟨⟨⟨⟨a0.1, a0.2, h2, a2.2, fun t t0 t1 => ?_, fun t t0 t1 => ?_⟩, fun k k0 k1 => (s1 k k0 k1).1.2, s2, a4, a5, s4, s5⟩, by omega, fun k k0 k1 => (s1 k k0 k1).2⟩, h3, hD⟩
  · have := (s1 t t0 t1).1
    omega
  · have := s3.1 t t0 (by omega)
    omega
theorem PV.vc {A : Int → Int} (h : PV A) (h2 : 2 ≤ A 2) (h3 : A 3 = A 2 - 2) : VC A := by
  obtain ⟨a0, a1, a2, a3, a4, a5, s1, s2, s3, s4, s5⟩ := h
  refine ⟨a0.1, a0.2, h2, a2.2, fun t t0 t1 => ?_, fun t t0 t1 => ?_⟩
  · have := (s1 t t0 t1).1
    omega
  · have := s3.1 t t0 (by omega)
    omega
theorem putS_b {A : Int → Int} (v : Int) (h : 0 ≤ A 2) : 0 ≤ cuN (fun k => A (6 + 2 * k)) v (A 2).toNat ∧ cuN (fun k => A (6 + 2 * k)) v (A 2).toNat ≤ A 2 := by
  have := cuN_b (fun k => A (6 + 2 * k)) v (A 2).toNat
  omega
theorem putH_b {A : Int → Int} (v : Int) (h : 0 ≤ A 3) : 0 ≤ cuN (fun k => A (16 + k)) v (A 3).toNat ∧ cuN (fun k => A (16 + k)) v (A 3).toNat ≤ A 3 := by
  have := cuN_b (fun k => A (16 + k)) v (A 3).toNat
  omega
/-- an increasing row with one more -/
theorem ins_lt {f g : Int → Int} {m p v : Int} (hf : ∀ k, 0 ≤ k → k + 1 < m → f k < f (k + 1)) (hg : ∀ k, 0 ≤ k → k ≤ m → g k = if k = p then v else if p < k ∧ k ≤ m then f (k - 1) else f k) (p0 : 0 ≤ p) (p1 : p ≤ m) (h1 : ∀ k, 0 ≤ k → k < p → f k ≤ v) (h2 : ∀ k, p ≤ k → k < m → v < f k) (hn : ∀ k, 0 ≤ k → k < m → ¬ f k = v) : ∀ k, 0 ≤ k → k + 1 < m + 1 → g k < g (k + 1) := by
  intro k k0 k1
  rw [hg k k0 (by omega), hg (k + 1) (by omega) (by omega)]
  by_cases c : k = p
  · rw [if_pos c, if_neg (by omega), if_pos (by omega), show k + 1 - 1 = k by omega]
    exact h2 k (by omega) (by omega)
  · rw [if_neg c]
    by_cases d : k + 1 = p
    · rw [if_pos d, if_neg (by omega)]
      have := h1 k k0 (by omega)
      have := hn k k0 (by omega)
      omega
    · rw [if_neg d]
      by_cases e : p < k ∧ k ≤ m
      · rw [if_pos e, if_pos (by omega)]
        have := hf (k - 1) (by omega) (by omega)
        rw [show k - 1 + 1 = k by omega] at this
        rw [show k + 1 - 1 = k by omega]
        exact this
      · rw [if_neg e, if_neg (by omega)]
        exact hf k k0 (by omega)
theorem PV.putS {A : Int → Int} {v w : Int} (h : PV A) (h5 : ¬ A 2 = 5) (v0 : 0 ≤ v) (v1 : v ≤ A 0) (w0 : -1 ≤ w) (w1 : w ≤ 99999) (ht : ¬ taken A v) : PV (putS A v w) := by
  obtain ⟨a0, a1, a2, a3, a4, a5, s1, s2, s3, s4, s5⟩ := h
  have hb := putS_b (A := A) v a2.1
  have hp := cuN_pos (f := fun k => A (6 + 2 * k)) (a := v) (A 2).toNat (fun k k0 k1 => by have := s2 k k0 (by omega); omega)
  unfold Jvm.Pilot.CBeamLinesLaw_law_r1863_94a531.putS
  generalize cuN (fun k => A (6 + 2 * k)) v (A 2).toNat = p at hb hp
  have e : ∀ j, ¬ j = 2 ∧ ¬ (6 ≤ j ∧ j < 16) → addS A p v w j = A j := fun j hj => addS_ne (by omega) hb.2
  have e2 : addS A p v w 2 = A 2 + 1 := addS_2 A p v w
  have e0 := e 0 (by omega)
  have e1 := e 1 (by omega)
  have e3 := e 3 (by omega)
  have e4 := e 4 (by omega)
  have e5 := e 5 (by omega)
  refine ⟨by omega, by omega, by omega, by omega, by omega, by omega, fun k k0 k1 => ?_, ?_, HG_ag s3 e0 e3 (fun k k0 k1 => e _ (by omega)), fun k k0 k1 => ?_, fun k k0 k1 => ?_⟩
  · rw [e2] at k1
    rw [addS_f k0, addS_g k0, e0]
    by_cases c : k = p
    · rw [if_pos c, if_pos c]; omega
    · rw [if_neg c, if_neg c]
      by_cases d : p < k ∧ k ≤ A 2
      · rw [if_pos d, if_pos d]; exact s1 (k - 1) (by omega) (by omega)
      · rw [if_neg d, if_neg d]; exact s1 k k0 (by omega)
  · intro k k0 k1
    rw [e2] at k1
    exact ins_lt (f := fun k => A (6 + 2 * k)) (g := fun k => addS A p v w (6 + 2 * k)) s2 (fun k k0 _ => addS_f k0) hb.1 hb.2 hp.1 (fun k k0 k1 => hp.2 k k0 (by omega)) (fun k k0 k1 z => ht (Or.inl ⟨k, k0, k1, z⟩)) k k0 k1
  · rw [e4] at k1
    rw [e _ (by omega), e _ (by omega), e0]
    exact s4 k k0 k1
  · rw [e5] at k1
    rw [e _ (by omega), e _ (by omega)]
    exact s5 k k0 k1
theorem PV.putH {A : Int → Int} {v : Int} (h : PV A) (h5 : ¬ A 3 = 3) (v0 : 1 ≤ v) (v1 : v ≤ A 0 - 1) (ht : ¬ taken A v) : PV (putH A v) := by
  obtain ⟨a0, a1, a2, a3, a4, a5, s1, s2, s3, s4, s5⟩ := h
  have hb := putH_b (A := A) v a3.1
  have hp := cuN_pos (f := fun k => A (16 + k)) (a := v) (A 3).toNat (fun k k0 k1 => by have := s3.2 k k0 (by omega); omega)
  unfold Jvm.Pilot.CBeamLinesLaw_law_r1863_94a531.putH
  generalize cuN (fun k => A (16 + k)) v (A 3).toNat = p at hb hp
  have e : ∀ j, ¬ j = 3 ∧ ¬ (16 ≤ j ∧ j < 19) → addH A p v j = A j := fun j hj => addH_ne (by omega) hb.2
  have e3 : addH A p v 3 = A 3 + 1 := addH_3 A p v
  have e0 := e 0 (by omega)
  have e1 := e 1 (by omega)
  have e2 := e 2 (by omega)
  have e4 := e 4 (by omega)
  have e5 := e 5 (by omega)
  refine ⟨by omega, by omega, by omega, by omega, by omega, by omega, fun k k0 k1 => ?_, fun k k0 k1 => ?_, ⟨fun k k0 k1 => ?_, fun k k0 k1 => ?_⟩, fun k k0 k1 => ?_, fun k k0 k1 => ?_⟩
  · rw [e2] at k1
    rw [e0, e _ (by omega), e _ (by omega)]
    exact s1 k k0 k1
  · rw [e2] at k1
    rw [e _ (by omega), e _ (by omega)]
    exact s2 k k0 k1
  · rw [e3] at k1
    rw [addH_in k0, e0]
    by_cases c : k = p
    · rw [if_pos c]; omega
    · rw [if_neg c]
      by_cases d : p < k ∧ k ≤ A 3
      · rw [if_pos d]; exact s3.1 (k - 1) (by omega) (by omega)
      · rw [if_neg d]; exact s3.1 k k0 (by omega)
  · rw [e3] at k1
    exact ins_lt (f := fun k => A (16 + k)) (g := fun k => addH A p v (16 + k)) s3.2 (fun k k0 _ => addH_in k0) hb.1 hb.2 hp.1 (fun k k0 k1 => hp.2 k k0 (by omega)) (fun k k0 k1 z => ht (Or.inr ⟨k, k0, k1, z⟩)) k k0 k1
  · rw [e4] at k1
    rw [e _ (by omega), e _ (by omega), e0]
    exact s4 k k0 k1
  · rw [e5] at k1
    rw [e _ (by omega), e _ (by omega)]
    exact s5 k k0 k1
theorem PV.load {A : Int → Int} {x y : Int} (h : PV A) (h5 : ¬ A 4 = 8) (x0 : 1 ≤ x) (x1 : x ≤ 999) (y0 : 0 ≤ y) (y1 : y ≤ A 0) : PV (addA A 19 4 x y) := by
  obtain ⟨a0, a1, a2, a3, a4, a5, s1, s2, s3, s4, s5⟩ := h
  have e : ∀ j, ¬ j = 4 ∧ ¬ (19 ≤ j ∧ j < 35) → addA A 19 4 x y j = A j := fun j hj => addA_ne (by omega)
  have e4 : addA A 19 4 x y 4 = A 4 + 1 := addA_c A 19 4 x y
  have e0 := e 0 (by omega)
  have e1 := e 1 (by omega)
  have e2 := e 2 (by omega)
  have e3 := e 3 (by omega)
  have e5 := e 5 (by omega)
  refine ⟨by omega, by omega, by omega, by omega, by omega, by omega, fun k k0 k1 => ?_, fun k k0 k1 => ?_, HG_ag s3 e0 e3 (fun k k0 k1 => e _ (by omega)), fun k k0 k1 => ?_, fun k k0 k1 => ?_⟩
  · rw [e2] at k1
    rw [e0, e _ (by omega), e _ (by omega)]
    exact s1 k k0 k1
  · rw [e2] at k1
    rw [e _ (by omega), e _ (by omega)]
    exact s2 k k0 k1
  · rw [e4] at k1
    rw [e0]
    by_cases q : k = A 4
    · rw [addA_w (by omega) (by omega), addA_p (by omega) (by omega)]
      omega
    · rw [addA_ne (by omega), addA_ne (by omega)]
      exact s4 k k0 (by omega)
  · rw [e5] at k1
    rw [e _ (by omega), e _ (by omega)]
    exact s5 k k0 k1
theorem PV.axle {A : Int → Int} {x y : Int} (h : PV A) (h5 : ¬ A 5 = 6) (x0 : 1 ≤ x) (x1 : x ≤ 999) (y0 : 0 ≤ y) (y1 : y ≤ 30) : PV (addA A 35 5 x y) := by
  obtain ⟨a0, a1, a2, a3, a4, a5, s1, s2, s3, s4, s5⟩ := h
  have e : ∀ j, ¬ j = 5 ∧ ¬ 35 ≤ j → addA A 35 5 x y j = A j := fun j hj => addA_ne (by omega)
  have e5 : addA A 35 5 x y 5 = A 5 + 1 := addA_c A 35 5 x y
  have e0 := e 0 (by omega)
  have e1 := e 1 (by omega)
  have e2 := e 2 (by omega)
  have e3 := e 3 (by omega)
  have e4 := e 4 (by omega)
  refine ⟨by omega, by omega, by omega, by omega, by omega, by omega, fun k k0 k1 => ?_, fun k k0 k1 => ?_, HG_ag s3 e0 e3 (fun k k0 k1 => e _ (by omega)), fun k k0 k1 => ?_, fun k k0 k1 => ?_⟩
  · rw [e2] at k1
    rw [e0, e _ (by omega), e _ (by omega)]
    exact s1 k k0 k1
  · rw [e2] at k1
    rw [e _ (by omega), e _ (by omega)]
    exact s2 k k0 k1
  · rw [e4] at k1
    rw [e _ (by omega), e _ (by omega), e0]
    exact s4 k k0 k1
  · rw [e5] at k1
    by_cases q : k = A 5
    · rw [addA_w (by omega) (by omega), addA_p (by omega) (by omega)]
      omega
    · rw [addA_ne (by omega), addA_ne (by omega)]
      exact s5 k k0 (by omega)
