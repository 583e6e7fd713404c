theorem RH.e {st : St} {r n n' : Int} {f g f' g' : Int → Int} (h : RH st r n f g) (hn : n = n') (he : ∀ k, 0 ≤ k → k < n → f k = f' k ∧ g k = g' k) : RH st r n' f' g' := by
  rw [← hn]
  exact ⟨h.1, h.2.1, fun k a b => ⟨(h.2.2 k a b).1.trans (he k a b).1, (h.2.2 k a b).2.trans (he k a b).2⟩⟩
theorem RW.eq {st st' : St} {r : Int} (h : RW st r) (e : st' 6 2 r 0 = st 6 2 r 0) : RW st' r := by
  unfold RW at h ⊢
  rw [e]
  exact h
theorem BH.most {st : St} {A : Int → Int} {v : Int} (h : BH st 0 A) : BH (up st 0 1 0 0 v) 0 (mostA A v) := by
  obtain ⟨b0, b1, b2, ⟨i1, i2, i3⟩, b4, b5⟩ := h
  have g : ∀ K s2 i j, ¬ (K = 0 ∧ s2 = 1 ∧ i = 0) → up st 0 1 0 0 v K s2 i j = st K s2 i j := fun K s2 i j hK => up_ne (by omega)
  have e1 : mostA A v 1 = v := if_pos rfl
  refine ⟨(g 0 0 0 0 (by omega)).trans (b0.trans (mostA_ne (by omega)).symm), by rw [e1, up_eq, if_pos ⟨rfl, rfl, rfl, rfl⟩], ?_, ⟨i1.eq (g 6 2 _ 0 (by omega)), ?_, fun k k0 k1 => ?_⟩, ?_, ?_⟩
  · exact (b2.fr (fun K s j hK => g K s _ j (by omega))).e (mostA_ne (by omega)).symm (fun k k0 _ => ⟨(mostA_ne (by omega)).symm, (mostA_ne (by omega)).symm⟩)
  · exact (g 6 2 _ 0 (by omega)).trans (i2.trans (mostA_ne (by omega)).symm)
  · rw [mostA_ne (by omega)] at k1 ⊢
    exact (g 10 0 _ k (by omega)).trans (i3 k k0 k1)
  · exact (b4.fr (fun K s j hK => g K s _ j (by omega))).e (mostA_ne (by omega)).symm (fun k k0 _ => ⟨(mostA_ne (by omega)).symm, (mostA_ne (by omega)).symm⟩)
  · exact (b5.fr (fun K s j hK => g K s _ j (by omega))).e (mostA_ne (by omega)).symm (fun k k0 _ => ⟨(mostA_ne (by omega)).symm, (mostA_ne (by omega)).symm⟩)
theorem W8_setMost {A : Int → Int} {n : Int} {B : Int → Int → Int} {F : Int → Int} {S : Int → Int → Int} {Q : Int → St → Prop} {X : String → St → Prop} {st : St} {v : Int} (h : CS st A n B F S) (hv : inI v) (hx : ¬ (1 ≤ v ∧ v ≤ 999999) → X "java/lang/IllegalArgumentException" st) (hq : 1 ≤ v → v ≤ 999999 → ∀ s, FC st s → CS s (mostA A v) (pushN n) (pushB n B A) F S → Q (A 1) s) : f8_setMost Q X st v := by
  unfold f8_setMost
  refine W8_needRange hv inI_1 (inI_s (by omega) (by omega)) (fun v0 v1 => ?_) hx
  refine W8_remember h (fun s f c => ?_)
  rintro _ rfl _ rfl
  obtain ⟨h1, h2, h3, h4, h5, h6⟩ := c
  have g : ∀ K s2 i j, ¬ (K = 0 ∧ s2 = 1 ∧ i = 0) → up s 0 1 0 0 v K s2 i j = s K s2 i j := fun K s2 i j hK => up_ne (by omega)
  rw [h2.2.1]
  exact hq v0 v1 _ (f.fc.trans (fun K s2 i j hK => g K s2 i j (by omega))) ⟨mostA_V h1 v0 v1, h2.most, (h3.fr (fun K s2 i j hK => g K s2 i j (by omega)) h1.c).cg (mostA_ag A v), h4.fr (fun K s2 i j hK => g K s2 i j (by omega)), h5, fun i i0 i1 => ⟨(g 27 0 0 i (by omega)).trans (h6 i i0 i1).1, (h6 i i0 i1).2.1, fun q => ⟨((h6 i i0 i1).2.2 q).1.fr (fun K s2 i' j hK => g K s2 i' j (by omega)), ((h6 i i0 i1).2.2 q).2⟩⟩⟩
theorem MS.wr {st : St} {A A' : Int → Int} {n : Int} {B : Int → Int → Int} {F : Int → Int} {S : Int → Int → Int} {i v : Int} (h : MS st A n B F S) (h0 : 0 ≤ i) (h1 : i < 47) (hA : VA A') (e : ∀ j, A' j = if j = i then v else A j) : MS (up st 30 0 0 i v) A' n B F S := by
  obtain ⟨k1, k2, k3, k4, k5, k6, k7, k8⟩ := h
  refine ⟨?_, hA, fun j => by rw [up_ne (by omega)]; exact k3 j, fun j hj => (up_ne (by omega)).trans (k4 j hj), (up_ne (by omega)).trans k5, k6, fun k a b => ?_, fun m a b => ⟨(up_ne (by omega)).trans (k8 m a b).1, (k8 m a b).2.1, fun q => ?_⟩⟩
  · funext j
    show up st 30 0 0 i v 30 0 0 j = A' j
    rw [up_eq, e j]
    by_cases c : j = i
    · rw [if_pos ⟨rfl, rfl, rfl, c⟩, if_pos c]
    · rw [if_neg (by omega), if_neg c]
      exact congrFun k1 j
  · rw [← k7 k a b]
    exact nA_ext (fun j _ _ => up_ne (by omega))
  · rw [← (k8 m a b).2.2 q]
    exact nA_ext (fun j _ _ => up_ne (by omega))
theorem W9_setMost {A : Int → Int} {n : Int} {B : Int → Int → Int} {F : Int → Int} {S : Int → Int → Int} {Q : Int → St → Prop} {st : St} {v : Int} (h : MS st A n B F S) (hv : inI v) (hx : ¬ (1 ≤ v ∧ v ≤ 999999) → ∀ s, FQ st s → s 9 6 0 0 = 1 → Q 0 s)
    (hq : 1 ≤ v → v ≤ 999999 → ∀ s, FD st s → s 9 6 0 0 = 0 → MS s (mostA A v) (pushN n) (pushB n B A) F S → Q (A 1) s) : f9_setMost Q st v := by
  have h3 := h.2.2.1
  unfold f9_setMost
  refine W9_isIn hv inI_1 (inI_s (by omega) (by omega)) ?_
  by_cases c : 1 ≤ v ∧ v ≤ 999999
  · rw [if_pos c]
    refine ⟨inI_1, fun e => absurd e (by omega), fun _ => ?_⟩
    unfold f9_setMost_j16
    refine gate (by omega) (by omega) (fun _ => ?_) (fun e => absurd e (by omega))
    have e6 : up st 9 6 0 0 0 9 6 0 0 = 0 := by rw [up_eq, if_pos ⟨rfl, rfl, rfl, rfl⟩]
    refine W9_keeps0 (h.fq (FQ.up6 h3)) (fun s f k => ?_)
    have e1 : s 30 0 0 1 = A 1 := congrFun k.1 1
    rw [e1]
    rintro _ rfl _ rfl
    exact hq c.1 c.2 _ (fun K s2 i j hK => (up_ne (by omega)).trans ((f K s2 i j (by omega)).trans (up_ne (by omega)))) ((up_ne (by omega)).trans ((f 9 6 0 0 (by omega)).trans e6)) (k.wr (by omega) (by omega) (mostA_V h.2.1 c.1 c.2) (fun j => rfl))
  · rw [if_neg c]
    refine ⟨inI_0, fun _ => ?_, fun e => absurd rfl e⟩
    unfold f9_setMost_j16
    exact gate (by omega) (by omega) (fun e => absurd e (by omega)) (fun _ => hx c _ (FQ.up6 h3) (by rw [up_eq, if_pos ⟨rfl, rfl, rfl, rfl⟩]))
