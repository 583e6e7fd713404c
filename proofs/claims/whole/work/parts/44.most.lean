/-! restore (reference); what the lines read; setMost -/
theorem W9_restore {A : Int → Int} {n : Int} {B : Int → Int → Int} {F : Int → Int} {S : Int → Int → Int} {Q : Int → St → Prop} {st : St} {v : Int} (h : MS st A n B F S) (hV : ∀ i, 0 ≤ i → i < 2 → ¬ F i = 0 → VA (S i)) (hv : inI v) (hx : ¬ (0 ≤ v ∧ v < 2) → ∀ s, FQ st s → s 9 6 0 0 = 1 → Q 0 s) (hy : 0 ≤ v → v < 2 → F v = 0 → ∀ s, FQ st s → s 9 6 0 0 = 2 → Q 0 s)
    (hq : 0 ≤ v → v < 2 → ¬ F v = 0 → ∀ s, FD st s → s 9 6 0 0 = 0 → MS s (S v) (pushN n) (pushB n B A) F S → Q (S v 2) s) : f9_restore Q st v := by
  have h3 := h.2.2.1
  have h8 := h.2.2.2.2.2.2.2
  have m3 := mlen3
  have m0 := mlen0
  unfold f9_restore
  refine W9_isIn hv inI_0 (inI_s (by omega) (by omega)) ?_
  by_cases c : 0 ≤ v ∧ v ≤ 1
  · rw [if_pos c]
    have hF := h8 v c.1 (by omega)
    refine ⟨inI_1, fun e => absurd e (by omega), fun _ => ⟨c.1, by omega, ?_⟩⟩
    rw [hF.1]
    refine ⟨hF.2.1, fun d => ?_, fun d => ?_⟩
    · unfold f9_restore_j28
      exact gate (by omega) (by omega) (fun e => absurd e (by omega)) (fun _ => hy c.1 (by omega) d _ (FQ.up6 h3) (by rw [up_eq, if_pos ⟨rfl, rfl, rfl, rfl⟩]))
    · unfold f9_restore_j28
      refine gate (by omega) (by omega) (fun _ => ?_) (fun e => absurd e (by omega))
      have e6 : up st 9 6 0 0 0 9 6 0 0 = 0 := by rw [up_eq, if_pos ⟨rfl, rfl, rfl, rfl⟩]
      refine W9_keeps0 (h.fq (FQ.up6 h3)) (fun s f k => ?_)
      obtain ⟨k1, k2, k3, k4, k5, k6, k7, k8⟩ := k
      refine W9_copies (by omega) (by omega) (by omega) (by omega) (by omega) ?_
      have eA : aM (cpyN s 0 0 3 (47 * v) 47) = S v := by
        rw [← (k8 v c.1 (by omega)).2.2 d]
        funext j
        unfold kA nA
        by_cases q : 0 ≤ j ∧ j < 47
        · rw [if_pos q]
          have := cpyN_in (st := s) (d := 0) (a := 0) (s := 3) (b := 47 * v) q.1 q.2
          rw [Int.zero_add] at this
          exact this
        · rw [if_neg q]
          exact (cpyN_out (by omega)).trans (k4 j q)
      have e2 : cpyN s 0 0 3 (47 * v) 47 30 0 0 2 = S v 2 := congrFun eA 2
      rw [e2]
      refine hq c.1 (by omega) d _ (fun K s2 i j hK => (cpyN_out (by omega)).trans ((f K s2 i j (by omega)).trans (up_ne (by omega)))) ((cpyN_out (by omega)).trans ((f 9 6 0 0 (by omega)).trans e6)) ⟨eA, hV v c.1 (by omega) d, fun j => by rw [cpyN_out (by omega)]; exact k3 j, fun j hj => (cpyN_out (by omega)).trans (k4 j hj), (cpyN_out (by omega)).trans k5, k6, fun k a b => ?_, fun i a b => ⟨(cpyN_out (by omega)).trans (k8 i a b).1, (k8 i a b).2.1, fun q => ?_⟩⟩
      · rw [← k7 k a b]
        exact nA_ext (fun j _ _ => cpyN_out (by omega))
      · rw [← (k8 i a b).2.2 q]
        exact nA_ext (fun j _ _ => cpyN_out (by omega))
  · rw [if_neg c]
    refine ⟨inI_0, fun _ => ?_, fun e => absurd rfl e⟩
    unfold f9_restore_j28
    exact gate (by omega) (by omega) (fun e => absurd e (by omega)) (fun _ => hx (by omega) _ (FQ.up6 h3) (by rw [up_eq, if_pos ⟨rfl, rfl, rfl, rfl⟩]))
/-- what the lines read of a beam -/
def AgL (A A' : Int → Int) : Prop := A' 0 = A 0 ∧ A' 2 = A 2 ∧ (∀ t, 0 ≤ t → t < A 2 → A' (6 + 2 * t) = A (6 + 2 * t)) ∧ ∀ h, 0 ≤ h → h < A 2 - 2 → A' (16 + h) = A (16 + h)
theorem mxA_cg {A A' : Int → Int} (h : AgL A A') (s x : Int) : mxA A' s x = mxA A s x := by
  obtain ⟨h0, h2, ht, hh⟩ := h
  funext e t
  unfold mxA
  rw [h2]
  by_cases c : 0 ≤ e ∧ e < A 2 ∧ 0 ≤ t ∧ t < A 2
  · rw [if_pos c, if_pos c]
    have e1 : plA A' s x t = plA A s x t := by
      unfold plA
      rw [ht t c.2.2.1 c.2.2.2]
    rw [e1]
    unfold lvA
    by_cases c0 : e = 0
    · rw [if_pos c0, if_pos c0]
    · by_cases c1 : e = 1
      · rw [if_neg c0, if_neg c0, if_pos c1, if_pos c1]
      · rw [if_neg c0, if_neg c0, if_neg c1, if_neg c1]
        have := hh (e - 2) (by omega) (by omega)
        rw [show 16 + (e - 2) = 16 + e - 2 by omega] at this
        rw [this]
  · rw [if_neg c, if_neg c]
theorem DA_cg {A A' : Int → Int} (h : AgL A A') (s x : Int) : DA A' s x = DA A s x := by
  unfold DA
  rw [mxA_cg h, h.2.1]
theorem gA_cg {A A' : Int → Int} (h : AgL A A') : gA A' = gA A := by
  have e1 : ∀ s m g, gR A' s m g = gR A s m g := fun s m g => by
    induction m with
    | zero => rfl
    | succ m ih => unfold gR; rw [ih, DA_cg h]
  have e2 : ∀ m, gAll A' m = gAll A m := fun m => by
    induction m with
    | zero => exact DA_cg h _ _
    | succ m ih => unfold gAll; rw [e1, ih, h.1]
  unfold gA
  rw [e2, h.2.1]
theorem infA_cg {A A' : Int → Int} (h : AgL A A') (s x : Int) : infA A' s x = infA A s x := by
  unfold infA
  rw [DA_cg h, DA_cg h, gA_cg h]
theorem unitA_cg {A A' : Int → Int} (h : AgL A A') : unitA A' = unitA A := by
  unfold unitA
  rw [DA_cg h, gA_cg h]
theorem LR.cg {st : St} {lo : Int} {A A' : Int → Int} (h : LR st lo A) (e : AgL A A') : LR st lo A' := ⟨h.1.trans e.2.1.symm, h.2.1.trans (by rw [e.1]), h.2.2.1.trans (unitA_cg e).symm, fun i x i0 i1 x0 x1 => by rw [e.2.1] at i1; rw [e.1] at x1; rw [infA_cg e]; exact h.2.2.2 i x i0 i1 x0 x1⟩
theorem VC.cg {A A' : Int → Int} (h : VC A) (e : AgL A A') : VC A' := by
  obtain ⟨e0, e2, et, eh⟩ := e
  obtain ⟨a1, a2, a3, a4, a5, a6⟩ := h
  refine ⟨by omega, by omega, by omega, by omega, fun t t0 t1 => ?_, fun t t0 t1 => ?_⟩
  · rw [e2] at t1
    rw [et t t0 t1]
    exact a5 t t0 t1
  · rw [e2] at t1
    rw [eh t t0 t1]
    exact a6 t t0 t1
/-- a beam with another most -/
def mostA (A : Int → Int) (v : Int) : Int → Int := fun j => if j = 1 then v else A j
theorem mostA_ne {A : Int → Int} {v j : Int} (h : ¬ j = 1) : mostA A v j = A j := if_neg h
theorem mostA_ag (A : Int → Int) (v : Int) : AgL A (mostA A v) := ⟨mostA_ne (by omega), mostA_ne (by omega), fun t t0 _ => mostA_ne (by omega), fun t t0 _ => mostA_ne (by omega)⟩
theorem mostA_V {A : Int → Int} {v : Int} (h : VA A) (h0 : 1 ≤ v) (h1 : v ≤ 999999) : VA (mostA A v) := by
  have ag := mostA_ag A v
  obtain ⟨⟨⟨hC, f1, f2, f3, f4, f5, f6⟩, d1, d2⟩, g1, g2⟩ := h
  have e2 : mostA A v 2 = A 2 := mostA_ne (by omega)
  have e0 : mostA A v 0 = A 0 := mostA_ne (by omega)
  have e4 : mostA A v 4 = A 4 := mostA_ne (by omega)
  have e5 : mostA A v 5 = A 5 := mostA_ne (by omega)
  have e3 : mostA A v 3 = A 3 := mostA_ne (by omega)
  have e1 : mostA A v 1 = v := if_pos rfl
  refine ⟨⟨⟨hC.cg ag, fun k k0 k1 => ?_, fun k k0 k1 => ?_, by omega, by omega, fun k k0 k1 => ?_, fun k k0 k1 => ?_⟩, by omega, fun k k0 k1 => ?_⟩, by omega, by rw [DA_cg ag]; exact g2⟩
  · rw [mostA_ne (by omega), e0]; exact f1 k k0 (by omega)
  · rw [mostA_ne (by omega), mostA_ne (by omega)]; exact f2 k k0 (by omega)
  · rw [mostA_ne (by omega), mostA_ne (by omega), e0]; exact f5 k k0 (by omega)
  · rw [mostA_ne (by omega), mostA_ne (by omega)]; exact f6 k k0 (by omega)
  · rw [mostA_ne (by omega)]; exact d2 k k0 (by omega)
