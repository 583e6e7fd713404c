/-! setBearing on both sides -/
def upA (A : Int → Int) (i v : Int) : Int → Int := fun j => if j = i then v else A j
theorem upA_ne {A : Int → Int} {i v j : Int} (h : ¬ j = i) : upA A i v j = A j := if_neg h
theorem bearA_ag {A : Int → Int} {s : Int} (v : Int) (h0 : 0 ≤ s) (h1 : s < 5) : AgL A (upA A (6 + 2 * s + 1) v) := ⟨upA_ne (by omega), upA_ne (by omega), fun t t0 _ => upA_ne (by omega), fun t t0 _ => upA_ne (by omega)⟩
theorem bearA_V {A : Int → Int} {s v : Int} (h : VA A) (s0 : 0 ≤ s) (s1 : s < A 2) (h0 : -1 ≤ v) (h1 : v ≤ 99999) : VA (upA A (6 + 2 * s + 1) v) := by
  have n5 := h.c.2.2.2.1
  have ag := bearA_ag (A := A) v s0 (show s < 5 by omega)
  obtain ⟨⟨⟨hC, f1, f2, f3, f4, f5, f6⟩, d1, d2⟩, g1, g2⟩ := h
  have e2 : upA A (6 + 2 * s + 1) v 2 = A 2 := upA_ne (by omega)
  have e0 : upA A (6 + 2 * s + 1) v 0 = A 0 := upA_ne (by omega)
  have e4 : upA A (6 + 2 * s + 1) v 4 = A 4 := upA_ne (by omega)
  have e5 : upA A (6 + 2 * s + 1) v 5 = A 5 := upA_ne (by omega)
  have e3 : upA A (6 + 2 * s + 1) v 3 = A 3 := upA_ne (by omega)
  have e1 : upA A (6 + 2 * s + 1) v 1 = A 1 := upA_ne (by omega)
  refine ⟨⟨⟨hC.cg ag, fun k k0 k1 => ?_, fun k k0 k1 => ?_, by omega, by omega, fun k k0 k1 => ?_, fun k k0 k1 => ?_⟩, by omega, fun k k0 k1 => ?_⟩, by omega, by rw [DA_cg ag]; exact g2⟩
  · rw [upA_ne (by omega), e0]; exact f1 k k0 (by omega)
  · rw [upA_ne (by omega), upA_ne (by omega)]; exact f2 k k0 (by omega)
  · rw [upA_ne (by omega), upA_ne (by omega), e0]; exact f5 k k0 (by omega)
  · rw [upA_ne (by omega), upA_ne (by omega)]; exact f6 k k0 (by omega)
  · by_cases c : k = s
    · have : upA A (6 + 2 * s + 1) v (6 + 2 * k + 1) = v := if_pos (by omega)
      omega
    · rw [upA_ne (by omega)]
      exact d2 k k0 (by omega)
theorem BH.bear {st : St} {A : Int → Int} {s v : Int} (h : BH st 0 A) (s0 : 0 ≤ s) (s1 : s < 5) : BH (up st 11 0 (4 * 0) s v) 0 (upA A (6 + 2 * s + 1) v) := by
  obtain ⟨b0, b1, b2, ⟨i1, i2, i3⟩, b4, b5⟩ := h
  have g : ∀ K s2 i j, ¬ (K = 11 ∧ i = 0) → up st 11 0 (4 * 0) s v K s2 i j = st K s2 i j := fun K s2 i j hK => up_ne (by omega)
  refine ⟨(g 0 0 0 0 (by omega)).trans (b0.trans (upA_ne (by omega)).symm), (g 0 1 0 0 (by omega)).trans (b1.trans (upA_ne (by omega)).symm), ⟨b2.1.eq (g 6 2 _ 0 (by omega)), ?_, fun k k0 k1 => ⟨?_, ?_⟩⟩, ⟨i1.eq (g 6 2 _ 0 (by omega)), ?_, fun k k0 k1 => ?_⟩, ?_, ?_⟩
  · exact (g 6 2 _ 0 (by omega)).trans (b2.2.1.trans (upA_ne (by omega)).symm)
  · rw [upA_ne (by omega)] at k1
    exact (g 10 0 _ k (by omega)).trans ((b2.2.2 k k0 k1).1.trans (upA_ne (by omega)).symm)
  · rw [upA_ne (by omega)] at k1
    show up st 11 0 (4 * 0) s v 11 0 (4 * 0) k = upA A (6 + 2 * s + 1) v (6 + 2 * k + 1)
    rw [up_eq]
    by_cases c : k = s
    · rw [if_pos ⟨rfl, rfl, rfl, c⟩]
      exact (if_pos (by omega)).symm
    · rw [if_neg (by omega), upA_ne (by omega)]
      exact (b2.2.2 k k0 k1).2
  · exact (g 6 2 _ 0 (by omega)).trans (i2.trans (upA_ne (by omega)).symm)
  · rw [upA_ne (by omega)] at k1 ⊢
    exact (g 10 0 _ k (by omega)).trans (i3 k k0 k1)
  · exact (b4.fr (fun K s j hK => g K s _ j (by omega))).e (upA_ne (by omega)).symm (fun k k0 _ => ⟨(upA_ne (by omega)).symm, (upA_ne (by omega)).symm⟩)
  · exact (b5.fr (fun K s j hK => g K s _ j (by omega))).e (upA_ne (by omega)).symm (fun k k0 _ => ⟨(upA_ne (by omega)).symm, (upA_ne (by omega)).symm⟩)
theorem W8_setBearing {A : Int → Int} {n : Int} {B : Int → Int → Int} {F : Int → Int} {S : Int → Int → Int} {Q : Int → St → Prop} {X : String → St → Prop} {st : St} {a0 a1 : Int} (h : CS st A n B F S) (h0 : inI a0) (h1 : inI a1) (hx : ¬ (0 ≤ a0 ∧ a0 < A 2) → X "java/lang/IndexOutOfBoundsException" st) (hy : 0 ≤ a0 ∧ a0 < A 2 → ¬ (a1 = -1 ∨ (1 ≤ a1 ∧ a1 ≤ 99999)) → X "java/lang/IllegalArgumentException" st)
    (hq : 0 ≤ a0 ∧ a0 < A 2 → (a1 = -1 ∨ (1 ≤ a1 ∧ a1 ≤ 99999)) → ∀ s, FC st s → CS s (upA A (6 + 2 * a0 + 1) a1) (pushN n) (pushB n B A) F S → Q (A (6 + 2 * a0 + 1)) s) : f8_setBearing Q X st a0 a1 := by
  have hb := h.2.1
  have n5 := h.1.c.2.2.2.1
  have J : 0 ≤ a0 → a0 < A 2 → (a1 = -1 ∨ (1 ≤ a1 ∧ a1 ≤ 99999)) → f8_setBearing_j26 Q X a0 a1 st := fun c d e => by
    unfold f8_setBearing_j26
    refine W8_remember h (fun s f k => ?_)
    obtain ⟨k1, k2, k3, k4, k5, k6⟩ := k
    have ksz := k2.2.2.1.2.1
    refine W6_second k2.2.2.1.1 h0 (fun _ _ => ?_) (fun q => absurd ⟨c, by rw [ksz]; exact d⟩ q)
    rw [(k2.2.2.1.2.2 a0 c d).2]
    refine W6_setSecond k2.2.2.1.1 c (by rw [ksz]; exact d) ?_
    have g : ∀ K s2 i j, ¬ (K = 11 ∧ i = 0) → up s 11 0 (4 * 0) a0 a1 K s2 i j = s K s2 i j := fun K s2 i j hK => up_ne (by omega)
    exact hq ⟨c, d⟩ e _ (f.fc.trans (fun K s2 i j hK => g K s2 i j (by omega))) ⟨bearA_V k1 c d (by omega) (by omega), k2.bear c (by omega), (k3.fr (fun K s2 i j hK => g K s2 i j (by omega)) k1.c).cg (bearA_ag a1 c (by omega)), k4.fr (fun K s2 i j hK => g K s2 i j (by omega)), k5, fun i i0 i1 => ⟨(g 27 0 0 i (by omega)).trans (k6 i i0 i1).1, (k6 i i0 i1).2.1, fun q => ⟨((k6 i i0 i1).2.2 q).1.fr (fun K s2 i' j hK => g K s2 i' j (by omega)), ((k6 i i0 i1).2.2 q).2⟩⟩⟩
  unfold f8_setBearing
  refine W8_needNumber hb.2.2.1.1 hb.2.2.1.2.1 h0 (fun c d => ⟨h1, fun e => J c d (Or.inl e), fun e => ?_⟩) hx
  exact W8_needRange h1 inI_1 (inI_s (by omega) (by omega)) (fun p q => J c d (Or.inr ⟨p, q⟩)) (fun p => hy ⟨c, d⟩ (by omega))
theorem W9_setBearing {A : Int → Int} {n : Int} {B : Int → Int → Int} {F : Int → Int} {S : Int → Int → Int} {Q : Int → St → Prop} {st : St} {a0 a1 : Int} (h : MS st A n B F S) (h0 : inI a0) (h1 : inI a1) (hx : ¬ (0 ≤ a0 ∧ a0 < A 2) → ∀ s, FQ st s → s 9 6 0 0 = 1 → Q 0 s) (hy : 0 ≤ a0 ∧ a0 < A 2 → ¬ (a1 = -1 ∨ (1 ≤ a1 ∧ a1 ≤ 99999)) → ∀ s, FQ st s → s 9 6 0 0 = 2 → Q 0 s)
    (hq : 0 ≤ a0 ∧ a0 < A 2 → (a1 = -1 ∨ (1 ≤ a1 ∧ a1 ≤ 99999)) → ∀ s, FD st s → s 9 6 0 0 = 0 → MS s (upA A (6 + 2 * a0 + 1) a1) (pushN n) (pushB n B A) F S → Q (A (6 + 2 * a0 + 1)) s) : f9_setBearing Q st a0 a1 := by
  have h3 := h.2.2.1
  have hC := h.mr.1.1.1
  have n5 := h.2.1.c.2.2.2.1
  have m0 := mlen0
  have e2 : st 30 0 0 2 = A 2 := congrFun h.1 2
  have J : 0 ≤ a0 → a0 < A 2 → (a1 = -1 ∨ (1 ≤ a1 ∧ a1 ≤ 99999)) → f9_setBearing_j28 Q a0 a1 st := fun c d e => by
    unfold f9_setBearing_j28 f9_setBearing_j33
    refine gate (by omega) (by omega) (fun _ => ?_) (fun e => absurd e (by omega))
    have e6 : up st 9 6 0 0 0 9 6 0 0 = 0 := by rw [up_eq, if_pos ⟨rfl, rfl, rfl, rfl⟩]
    refine W9_keeps0 (h.fq (FQ.up6 h3)) (fun s f k => ?_)
    unfold f9_bearsOf
    have e1 : s 30 0 0 (6 + 2 * a0 + 1) = A (6 + 2 * a0 + 1) := congrFun k.1 _
    rw [e1]
    refine ⟨by omega, by omega, by omega, by omega, ?_⟩
    rintro _ rfl
    exact hq ⟨c, d⟩ e _ (fun K s2 i j hK => (up_ne (by omega)).trans ((f K s2 i j (by omega)).trans (up_ne (by omega)))) ((up_ne (by omega)).trans ((f 9 6 0 0 (by omega)).trans e6)) (k.wr (by omega) (by omega) (bearA_V h.2.1 c d (by omega) (by omega)) (fun j => rfl))
  have bad : ∀ c : Int, 0 < c → c ≤ 3 → (∀ s, FQ st s → s 9 6 0 0 = c → Q 0 s) → f9_setBearing_j33 Q a0 a1 st c := fun c c0 c3 k => by
    unfold f9_setBearing_j33
    exact gate (by omega) c3 (fun e => absurd e (by omega)) (fun _ => k _ (FQ.up6 h3) (by rw [up_eq, if_pos ⟨rfl, rfl, rfl, rfl⟩]))
  unfold f9_setBearing
  refine W9_isSupport hC h0 ?_
  rw [e2]
  by_cases c : 0 ≤ a0 ∧ a0 < A 2
  · rw [if_pos c]
    refine ⟨inI_1, fun e => absurd e (by omega), fun _ => ⟨h1, fun e => J c.1 c.2 (Or.inl e), fun e => ?_⟩⟩
    refine W9_isIn h1 inI_1 (inI_s (by omega) (by omega)) ?_
    by_cases d : 1 ≤ a1 ∧ a1 ≤ 99999
    · rw [if_pos d]
      exact ⟨inI_1, fun e => absurd e (by omega), fun _ => J c.1 c.2 (Or.inr d)⟩
    · rw [if_neg d]
      exact ⟨inI_0, fun _ => bad 2 (by omega) (by omega) (hy c (by omega)), fun e => absurd rfl e⟩
  · rw [if_neg c]
    exact ⟨inI_0, fun _ => bad 1 (by omega) (by omega) (hx c), fun e => absurd rfl e⟩
