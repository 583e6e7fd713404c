/-! both sides together: axles, text, drawing -/
theorem S_addAxle {a : Ab} {st8 st9 : St} {a0 a1 : Int} (h8 : SC st8 a) (h9 : SM st9 a) (i0 : inI a0) (i1 : inI a1) : ∃ c P a', one P ∧ f8_addAxle (O8 c P a') (X8 mA c a') st8 a0 a1 ∧ f9_addAxle (O9 c P a') st9 a0 a1 := by
  have b5 := h8.va.1.1.2.2.2.2.1
  by_cases c : 0 ≤ a1 ∧ a1 ≤ 30 ∧ 1 ≤ a0 ∧ a0 ≤ 999
  · by_cases e8 : a.1.1 5 = 6
    · exact ⟨0, _, a, one_eq (-14), W8_addAxle h8.1 i0 i1 (fun n => absurd c n) (fun _ _ _ => ⟨rfl, rfl, h8⟩) (fun _ _ q => absurd e8 (by omega)), W9_addAxle h9.1 i0 i1 (fun n => absurd c n) (fun _ _ _ s f e => ⟨fun _ => rfl, e, h9.q f⟩) (fun _ _ q => absurd e8 (by omega))⟩
    · have g : HM (addA a.1.1 35 5 a0 a1) := ⟨HG_ag h8.pg.1.1 (addA_ne (by omega)) (addA_ne (by omega)) (fun k k0 k1 => addA_ne (by have := h8.va.2.1; have := h8.va.c.2.2.2.1; omega)), by rw [addA_ne (by omega)]; exact h8.pg.1.2⟩
      exact ⟨0, _, chA a (addA a.1.1 35 5 a0 a1), one_eq (a.1.1 5), W8_addAxle h8.1 i0 i1 (fun n => absurd c n) (fun _ _ q => absurd q e8) (fun _ _ _ s f k => ⟨rfl, rfl, h8.push f k g⟩), W9_addAxle h9.1 i0 i1 (fun n => absurd c n) (fun _ _ q => absurd q e8) (fun _ _ _ s f e k => ⟨fun _ => rfl, e, h9.ch f k⟩)⟩
  · exact ⟨1, _, a, one_eq 0, W8_addAxle h8.1 i0 i1 (fun _ => ⟨by omega, mA_1, h8⟩) (fun p q => absurd ⟨p.1, p.2, q.1, q.2⟩ c) (fun p q => absurd ⟨p.1, p.2, q.1, q.2⟩ c), W9_addAxle h9.1 i0 i1 (fun _ s f e => ⟨fun z => absurd z (by omega), e, h9.q f⟩) (fun p q => absurd ⟨p.1, p.2, q.1, q.2⟩ c) (fun p q => absurd ⟨p.1, p.2, q.1, q.2⟩ c)⟩
theorem apT_B {f : Int → Int} {n : Int} {T : Int → Int} (hf : ∀ k, 0 ≤ f k ∧ f k ≤ 255) (hT : TB T n) : ∀ k : Nat, TB (apT f n T k) (apN f n k) := by
  intro k
  induction k with
  | zero => exact hT
  | succ k ih =>
    intro j j0 j1
    show 0 ≤ (if ¬ f k = 0 ∧ j = apN f n k then f k else apT f n T k j) ∧ (if ¬ f k = 0 ∧ j = apN f n k then f k else apT f n T k j) ≤ 65535
    have hk := hf k
    by_cases c : ¬ f k = 0 ∧ j = apN f n k
    · rw [if_pos c]; omega
    · rw [if_neg c]
      refine ih j j0 ?_
      rw [apN_S] at j1
      by_cases z : f k = 0
      · rw [cb_0 z] at j1; omega
      · rw [cb_1 z] at j1
        by_cases e : j = apN f n k
        · exact absurd ⟨z, e⟩ c
        · omega
theorem S_append {a : Ab} {st8 st9 : St} {a0 a1 a2 a3 a4 : Int} (h8 : SC st8 a) (h9 : SM st9 a) : ∃ c P a', one P ∧ f8_append (O8 c P a') (X8 mS c a') st8 a0 a1 a2 a3 a4 ∧ f9_append (O9 c P a') st9 a0 a1 a2 a3 a4 := by
  have g := h8.pg
  have hn := g.2.2.2.1
  have low := apN_mono (byI a0 a1 a2 a3 a4) a.2.1.1 20 0
  have low' : a.2.1.1 ≤ apN (byI a0 a1 a2 a3 a4) a.2.1.1 20 := low
  by_cases c : apN (byI a0 a1 a2 a3 a4) a.2.1.1 20 ≤ 500
  · refine ⟨0, _, (a.1, (apN (byI a0 a1 a2 a3 a4) a.2.1.1 20, apT (byI a0 a1 a2 a3 a4) a.2.1.1 a.2.1.2 20), a.2.2), one_eq (apN (byI a0 a1 a2 a3 a4) a.2.1.1 20), W8_append h8.2.1 hn.1 hn.2 (fun n => absurd c (by omega)) (fun _ s f t => ⟨rfl, rfl, ?_⟩), W9_append h9.2.1 hn.1 hn.2 (fun n => absurd c (by omega)) (fun _ s f e t => ⟨fun _ => rfl, e, ?_⟩)⟩
    · exact ⟨h8.1.ftc f, t, ⟨(f 8 13 0 0 (by omega)).trans h8.2.2.1.1, fun j j0 j1 => (f 28 0 0 j (by omega)).trans (h8.2.2.1.2 j j0 j1)⟩, (f 8 1 0 0 (by omega)).trans h8.2.2.2.1, g.1, g.2.1, g.2.2.1, ⟨Int.le_trans hn.1 low', c⟩, apT_B (fun k => iand_b _) g.2.2.2.2.1 20, g.2.2.2.2.2⟩
    · exact ⟨h9.1.ftm f, t, ⟨(f 9 21 0 0 (by omega)).trans h9.2.2.1.1, fun j j0 j1 => (f 30 0 6 j (by omega)).trans (h9.2.2.1.2 j j0 j1)⟩, (f 9 15 0 0 (by omega)).trans h9.2.2.2⟩
  · exact ⟨1, _, a, one_eq 0, W8_append h8.2.1 hn.1 hn.2 (fun _ => ⟨by omega, mS_1, h8⟩) (fun q => absurd q c), W9_append h9.2.1 hn.1 hn.2 (fun _ => ⟨fun z => absurd z (by omega), by rw [up_eq, if_pos ⟨rfl, rfl, rfl, rfl⟩], h9.q (FQ.up6 h9.1.2.2.1)⟩) (fun q => absurd q c)⟩
theorem S_load {a : Ab} {st8 st9 : St} (h8 : SC st8 a) (h9 : SM st9 a) : ∃ c P a', one P ∧ f8_load (O8 c P a') st8 ∧ f9_load (O9 c P a') st9 := by
  have g := h8.pg
  have hn := g.2.2.2.1
  have hB := g.2.2.2.2.1
  have w8 : ∀ {s : St}, FLc st8 s → WC s a.2.2.1.1 a.2.2.1.2 := fun {s} f => ⟨(f 8 13 0 0 (by omega)).trans h8.2.2.1.1, fun j j0 j1 => (f 28 0 0 j (by omega)).trans (h8.2.2.1.2 j j0 j1)⟩
  have w9 : ∀ {s : St}, FLm st9 s → WM s a.2.2.1.1 a.2.2.1.2 := fun {s} f => ⟨(f 9 21 0 0 (by omega)).trans h9.2.2.1.1, fun j j0 j1 => (f 30 0 6 j (by omega)).trans (h9.2.2.1.2 j j0 j1)⟩
  rcases sLoad_R (T := a.2.1.2) (n := a.2.1.1) with ⟨A', hA⟩ | ⟨c, p, hE⟩
  · have k := hA (fun A => A = A') (fun _ _ => False) rfl
    refine ⟨0, _, ((A', pushN a.1.2.1, pushB a.1.2.1 a.1.2.2.1 a.1.1, a.1.2.2.2.1, a.1.2.2.2.2), (0, fun _ => 0), a.2.2.1, -1), one_eq (A' 2), W8_load h8.1 h8.2.1 hn.1 hn.2 hB (fun A2 s eA hg f cs e7 e8 => ?_) (fun c p s z => z.elim) k, W9_load h9.1 h9.2.1 hn.1 hn.2 hB (fun A2 s eA hg f ms e6 e8 e15 => ?_) (fun c p s z => z.elim) k⟩
    · subst eA
      exact ⟨rfl, rfl, cs, ⟨e7, fun j j0 j1 => absurd (show j < 0 from j1) (by omega)⟩, w8 f, e8, hg, pushB_G g.1 g.2.1 h8.n8, g.2.2.1, ⟨by show (0 : Int) ≤ 0; omega, by show (0 : Int) ≤ 500; omega⟩, fun j j0 j1 => absurd j1 (by show ¬ j < 0; omega), g.2.2.2.2.2⟩
    · subst eA
      exact ⟨fun _ => rfl, e6, ms, ⟨e8, fun j j0 j1 => absurd (show j < 0 from j1) (by omega)⟩, w9 f, e15⟩
  · have k := hE (fun _ => False) (fun c' p' => c' = c ∧ p' = p) ⟨rfl, rfl⟩
    refine ⟨0, _, (a.1, (0, fun _ => 0), a.2.2.1, p), one_eq c, W8_load h8.1 h8.2.1 hn.1 hn.2 hB (fun A2 s z => z.elim) (fun c' p' s q f cs e7 e8 => ?_) k, W9_load h9.1 h9.2.1 hn.1 hn.2 hB (fun A2 s z => z.elim) (fun c' p' s q f ms e6 e8 e15 => ?_) k⟩
    · obtain ⟨rfl, rfl⟩ := q
      exact ⟨rfl, rfl, cs, ⟨e7, fun j j0 j1 => absurd (show j < 0 from j1) (by omega)⟩, w8 f, e8, g.1, g.2.1, g.2.2.1, ⟨by show (0 : Int) ≤ 0; omega, by show (0 : Int) ≤ 500; omega⟩, fun j j0 j1 => absurd j1 (by show ¬ j < 0; omega), g.2.2.2.2.2⟩
    · obtain ⟨rfl, rfl⟩ := q
      exact ⟨fun _ => rfl, e6, ms, ⟨e8, fun j j0 j1 => absurd (show j < 0 from j1) (by omega)⟩, w9 f, e15⟩
theorem S_errorPosition {a : Ab} {st8 st9 : St} (h8 : SC st8 a) (h9 : SM st9 a) : ∃ c P a', one P ∧ f8_errorPosition (O8 c P a') st8 ∧ f9_errorPosition (O9 c P a') st9 := by
  refine ⟨0, _, a, one_eq a.2.2.2, ⟨rfl, h8.2.2.2.1, h8⟩, ?_⟩
  unfold f9_errorPosition
  rintro _ rfl
  exact ⟨fun _ => (up_ne (by omega)).trans h9.2.2.2, by rw [up_eq, if_pos ⟨rfl, rfl, rfl, rfl⟩], h9.q (FQ.up6 h9.1.2.2.1)⟩
def sgF (A : Int → Int) (x : Int) : Int := if anyE (fun k => if A (6 + 2 * k) = x then 1 else 0) (A 2).toNat = 0 then (if anyE (fun k => if A (16 + k) = x then 1 else 0) (A 3).toNat = 0 then (if anyE (fun k => if A (19 + 2 * k + 1) = x then 1 else 0) (A 4).toNat = 0 then 45 else 118) else 111) else 94
theorem any_iff {p : Int → Int} {n x : Int} : (∃ k, 0 ≤ k ∧ k < n ∧ p k = x) ↔ ¬ anyE (fun k => if p k = x then 1 else 0) n.toNat = 0 := by
  constructor
  · rintro ⟨k, k0, k1, e⟩ z
    have := anyE_1 (p := fun k => if p k = x then 1 else 0) k0 (by show ¬ (if p k = x then (1 : Int) else 0) = 0; rw [if_pos e]; omega) n.toNat (by omega)
    omega
  · intro h
    by_cases c : ∃ k, 0 ≤ k ∧ k < n ∧ p k = x
    · exact c
    · exact absurd (anyE_0 (p := fun k => if p k = x then 1 else 0) n.toNat (fun e e0 e1 => if_neg (fun q => c ⟨e, e0, by omega, q⟩))) h
theorem sgF_R (A : Int → Int) (x : Int) : sgR A x (sgF A x) := by
  unfold sgF
  have i1 := any_iff (p := fun k => A (6 + 2 * k)) (n := A 2) (x := x)
  have i2 := any_iff (p := fun k => A (16 + k)) (n := A 3) (x := x)
  have i3 := any_iff (p := fun k => A (19 + 2 * k + 1)) (n := A 4) (x := x)
  refine ⟨fun c => if_neg (i1.1 c), fun c => ?_⟩
  have z1 : anyE (fun k => if A (6 + 2 * k) = x then 1 else 0) (A 2).toNat = 0 := Classical.byContradiction (fun q => c (i1.2 q))
  rw [if_pos z1]
  refine ⟨fun c => if_neg (i2.1 c), fun c => ?_⟩
  have z2 : anyE (fun k => if A (16 + k) = x then 1 else 0) (A 3).toNat = 0 := Classical.byContradiction (fun q => c (i2.2 q))
  rw [if_pos z2]
  refine ⟨fun c => if_neg (i3.1 c), fun c => ?_⟩
  have z3 : anyE (fun k => if A (19 + 2 * k + 1) = x then 1 else 0) (A 4).toNat = 0 := Classical.byContradiction (fun q => c (i3.2 q))
  rw [if_pos z3]
theorem S_writeBeam {a : Ab} {st8 st9 : St} (h8 : SC st8 a) (h9 : SM st9 a) : ∃ c P a', one P ∧ f8_writeBeam (O8 c P a') st8 ∧ f9_writeBeam (O9 c P a') st9 := by
  have g := h8.pg
  have l2 := h8.va.c.1
  have l3 := h8.va.c.2.1
  refine ⟨0, _, (a.1, a.2.1, (a.1.1 0 + 1, sgF a.1.1), a.2.2.2), one_eq (a.1.1 0 + 1), W8_writeBeam h8.1 (fun s W f w k => ⟨rfl, rfl, ?_⟩), W9_writeBeam h9.1 (fun s W f e w k => ⟨fun _ => rfl, e, ?_⟩)⟩
  · exact ⟨h8.1.fw f, h8.2.1.fr (fun K s i j hK => f K s i j (by omega)), ⟨w.1, fun j j0 j1 => (w.2 j j0 j1).trans (sgR_1 (k j j0 j1) (sgF_R _ _))⟩, (f 8 1 0 0 (by omega)).trans h8.2.2.2.1, g.1, g.2.1, g.2.2.1, g.2.2.2.1, g.2.2.2.2.1, ⟨by show 0 ≤ a.1.1 0 + 1; omega, by show a.1.1 0 + 1 ≤ 31; omega⟩⟩
  · exact ⟨h9.1.fw f, h9.2.1.fr (fun K s i j hK => f K s i j (by omega)), ⟨w.1, fun j j0 j1 => (w.2 j j0 j1).trans (sgR_1 (k j j0 j1) (sgF_R _ _))⟩, (f 9 15 0 0 (by omega)).trans h9.2.2.2⟩
theorem S_writtenByte {a : Ab} {st8 st9 : St} {a0 : Int} (h8 : SC st8 a) (h9 : SM st9 a) (i0 : inI a0) : ∃ c P a', one P ∧ f8_writtenByte (O8 c P a') (X8 mO c a') st8 a0 ∧ f9_writtenByte (O9 c P a') st9 a0 := by
  have hm := h8.pg.2.2.2.2.2
  have u : ∀ c : Int, up st9 9 6 0 0 c 9 6 0 0 = c := fun c => by rw [up_eq, if_pos ⟨rfl, rfl, rfl, rfl⟩]
  by_cases c : 0 ≤ a0 ∧ a0 < a.2.2.1.1
  · exact ⟨0, _, a, one_eq (a.2.2.1.2 a0), W8_writtenByte h8.2.2.1 hm i0 (fun n => absurd c n) (fun _ => ⟨rfl, rfl, h8⟩), W9_writtenByte h9.2.2.1 hm i0 (fun n => absurd c n) (fun _ => ⟨fun _ => rfl, u 0, h9.q (FQ.up6 h9.1.2.2.1)⟩)⟩
  · exact ⟨1, _, a, one_eq 0, W8_writtenByte h8.2.2.1 hm i0 (fun _ => ⟨by omega, mO_1, h8⟩) (fun q => absurd q c), W9_writtenByte h9.2.2.1 hm i0 (fun _ => ⟨fun z => absurd z (by omega), u 1, h9.q (FQ.up6 h9.1.2.2.1)⟩) (fun q => absurd q c)⟩
