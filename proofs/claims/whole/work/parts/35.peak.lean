/-! the peak: the leftmost place of the greatest moment -/
def PkI (g : Int → Int → Int) (S : Int → Int → Prop) (B p : Int) : Prop := 0 ≤ B ∧ (∀ q h, S q h → g q h ≤ B) ∧ (∀ q h, S q h → q < p → g q h < B) ∧ ((∃ h, S p h ∧ g p h = B) ∨ (B = 0 ∧ p = 0))
theorem PkI.e {g : Int → Int → Int} {S S' : Int → Int → Prop} {B p : Int} (h : PkI g S B p) (e : ∀ q h, S q h ↔ S' q h) : PkI g S' B p := by
  have : S = S' := by funext q h; exact propext (e q h)
  rw [← this]
  exact h
theorem pk_1 {g : Int → Int → Int} {S S' : Int → Int → Prop} {B p q0 h0 : Int} (h : PkI g S B p) (hS : ∀ q h, S' q h ↔ S q h ∨ (q = q0 ∧ h = h0)) (c : B < g q0 h0) : PkI g S' (g q0 h0) q0 := by
  obtain ⟨b0, h1, h2, h3⟩ := h
  refine ⟨by omega, fun q hd s => ?_, fun q hd s l => ?_, Or.inl ⟨h0, (hS q0 h0).mpr (Or.inr ⟨rfl, rfl⟩), rfl⟩⟩
  · rcases (hS q hd).mp s with s | ⟨rfl, rfl⟩
    · have := h1 q hd s; omega
    · omega
  · rcases (hS q hd).mp s with s | ⟨rfl, rfl⟩
    · have := h1 q hd s; omega
    · omega
theorem pk_2 {g : Int → Int → Int} {S S' : Int → Int → Prop} {B p q0 h0 : Int} (h : PkI g S B p) (hS : ∀ q h, S' q h ↔ S q h ∨ (q = q0 ∧ h = h0)) (c : g q0 h0 = B) (l : q0 < p) : PkI g S' B q0 := by
  obtain ⟨b0, h1, h2, h3⟩ := h
  refine ⟨b0, fun q hd s => ?_, fun q hd s l => ?_, Or.inl ⟨h0, (hS q0 h0).mpr (Or.inr ⟨rfl, rfl⟩), c⟩⟩
  · rcases (hS q hd).mp s with s | ⟨rfl, rfl⟩
    · exact h1 q hd s
    · omega
  · rcases (hS q hd).mp s with s | ⟨rfl, rfl⟩
    · exact h2 q hd s (by omega)
    · omega
theorem pk_3 {g : Int → Int → Int} {S S' : Int → Int → Prop} {B p q0 h0 : Int} (h : PkI g S B p) (hS : ∀ q h, S' q h ↔ S q h ∨ (q = q0 ∧ h = h0)) (c : g q0 h0 < B ∨ (g q0 h0 = B ∧ p ≤ q0)) : PkI g S' B p := by
  obtain ⟨b0, h1, h2, h3⟩ := h
  refine ⟨b0, fun q hd s => ?_, fun q hd s l => ?_, ?_⟩
  · rcases (hS q hd).mp s with s | ⟨rfl, rfl⟩
    · exact h1 q hd s
    · omega
  · rcases (hS q hd).mp s with s | ⟨rfl, rfl⟩
    · exact h2 q hd s l
    · omega
  · rcases h3 with ⟨hd, s, e⟩ | h3
    · exact Or.inl ⟨hd, (hS p hd).mpr (Or.inl s), e⟩
    · exact Or.inr h3
def gPk (A : Int → Int) (q h : Int) : Int := iabs (TA A h (mmB A q))
def sPk (A : Int → Int) (q h : Int) : Prop := 0 ≤ q ∧ q ≤ A 0 ∧ 0 ≤ h ∧ h ≤ lhA A
def PKA (A : Int → Int) (p : Int) : Prop := ∃ B, PkI (gPk A) (sPk A) B p
theorem PKA.u {A : Int → Int} (hA : VF A) {p p' : Int} (h : PKA A p) (h' : PKA A p') : p = p' := by
  obtain ⟨B, b0, h1, h2, h3⟩ := h
  obtain ⟨B', b0', h1', h2', h3'⟩ := h'
  have l1 : B ≤ B' := by
    rcases h3 with ⟨hd, s, e⟩ | ⟨e, _⟩
    · have := h1' p hd s; omega
    · omega
  have l2 : B' ≤ B := by
    rcases h3' with ⟨hd, s, e⟩ | ⟨e, _⟩
    · have := h1 p' hd s; omega
    · omega
  have s0 : sPk A 0 0 := ⟨by omega, by have := hA.1.1; omega, by omega, by have := (lhA_b hA).1; omega⟩
  have g0 : 0 ≤ gPk A 0 0 := iabs_nn _
  by_cases c : p < p'
  · rcases h3 with ⟨hd, s, e⟩ | ⟨e, e2⟩
    · have := h2' p hd s c; omega
    · have := h2' 0 0 s0 (by omega); omega
  · by_cases c2 : p' < p
    · rcases h3' with ⟨hd, s, e⟩ | ⟨e, e2⟩
      · have := h2 p' hd s c2; omega
      · have := h2 0 0 s0 (by omega); omega
    · omega
theorem gPk_b {A : Int → Int} (hA : VF A) {q : Int} (h : Int) (h0 : 0 ≤ q) (h1 : q ≤ A 0) : 0 ≤ gPk A q h ∧ gPk A q h ≤ 10000000000000000 := by
  have := TAm_b hA h h0 (show q ≤ 30 by have := hA.1.2.1; omega)
  exact ⟨iabs_nn _, iabs_b this.1 this.2⟩
/-- the model's -/
theorem W9_greatestAt {Q : Int → St → Prop} {st : St} {q : Int} (hA : VF (aM st)) (hl : LW st) (h0 : 0 ≤ q) (h1 : q ≤ st 30 0 0 0) (h : ∀ z, 0 ≤ z → z ≤ 10000000000000000 → (∀ hd, 0 ≤ hd → hd ≤ lhA (aM st) → gPk (aM st) q hd ≤ z) → ((∃ hd, 0 ≤ hd ∧ hd ≤ lhA (aM st) ∧ gPk (aM st) q hd = z) ∨ z = 0) → Q z st) : f9_greatestAt Q st q := by
  have hb := lhA_b hA
  have l3 : st 30 0 0 0 ≤ 30 := hA.1.2.1
  have eM : ∀ head, allA (aM st) 2 q head = TA (aM st) head (mmB (aM st) q) := fun head => by
    rw [allA_TA]
    have : byA (aM st) 2 q = mmB (aM st) q := by funext x; unfold byA; rw [if_neg (by omega), if_neg (by omega)]
    rw [this]
  have L : ∀ (m : Nat) (z v : Int), 0 ≤ v → v ≤ lhA (aM st) + 1 → 0 ≤ z → z ≤ 10000000000000000 → (∀ hd, 0 ≤ hd → hd < v → gPk (aM st) q hd ≤ z) → ((∃ hd, 0 ≤ hd ∧ hd < v ∧ gPk (aM st) q hd = z) ∨ z = 0) → lhA (aM st) + 1 - v < m → f9_greatestAt_l5 Q q m st z v := by
    intro m
    induction m with
    | zero => intro z v a1 a2 a3 a4 a5 a6 a7; omega
    | succ m ih =>
      intro z v a1 a2 a3 a4 a5 a6 a7
      unfold f9_greatestAt_l5
      refine W9_lastHead hA ⟨inI_s (by omega) (by omega), inI_s (by omega) (by omega), fun c => ?_, fun c => ?_⟩
      · refine h z a3 a4 (fun hd d0 d1 => a5 hd d0 (by omega)) ?_
        rcases a6 with ⟨hd, d0, d1, d2⟩ | e
        · exact Or.inl ⟨hd, d0, by omega, d2⟩
        · exact Or.inr e
      · refine W9_all hA hl (by omega) (by omega) (fun e => absurd e (by omega)) (by omega) (by omega) (by omega) (by omega) ?_
        rw [eM]
        have hg := gPk_b hA v h0 h1
        have ht := TAm_b hA v h0 (show q ≤ 30 by omega)
        refine W9_size (inL_s (by omega) (by omega)) ?_
        show inL z ∧ inL (gPk (aM st) q v) ∧ ∀ x12 : Int, x12 = imaxl z (gPk (aM st) q v) → ∀ x13 : Int, x13 = v + 1 → f9_greatestAt_l5 Q q m st x12 x13
        refine ⟨inL_s (by omega) (by omega), inL_s (by omega) (by omega), ?_⟩
        rintro _ rfl _ rfl
        unfold imaxl
        by_cases c2 : gPk (aM st) q v < z
        · rw [if_pos c2]
          refine ih z (v + 1) (by omega) (by omega) a3 a4 (fun hd d0 d1 => ?_) ?_ (by omega)
          · by_cases e : hd = v
            · rw [e]; omega
            · exact a5 hd d0 (by omega)
          · rcases a6 with ⟨hd, d0, d1, d2⟩ | e
            · exact Or.inl ⟨hd, d0, by omega, d2⟩
            · exact Or.inr e
        · rw [if_neg c2]
          refine ih _ (v + 1) (by omega) (by omega) hg.1 hg.2 (fun hd d0 d1 => ?_) (Or.inl ⟨v, a1, by omega, rfl⟩) (by omega)
          by_cases e : hd = v
          · rw [e]; omega
          · have := a5 hd d0 (by omega)
            omega
  unfold f9_greatestAt
  exact ⟨100, L 100 0 0 (by omega) (by omega) (by omega) (by omega) (fun hd d0 d1 => by omega) (Or.inr rfl) (by omega)⟩
theorem W9_worstPlace {Q : Int → St → Prop} {st : St} (hA : VF (aM st)) (hl : LW st) (h : ∀ p, 0 ≤ p → p ≤ st 30 0 0 0 → PKA (aM st) p → Q p st) : f9_worstPlace Q st := by
  have hb := lhA_b hA
  have l2 : 2 ≤ st 30 0 0 0 := hA.1.1
  have l3 : st 30 0 0 0 ≤ 30 := hA.1.2.1
  have L : ∀ (m : Nat) (p B v : Int), 0 ≤ v → v ≤ st 30 0 0 0 + 1 → 0 ≤ p → p ≤ st 30 0 0 0 → -1 ≤ B → B ≤ 10000000000000000 → ((v = 0 ∧ B = -1) ∨ (0 < v ∧ PkI (gPk (aM st)) (fun q h => sPk (aM st) q h ∧ q < v) B p)) → st 30 0 0 0 + 1 - v < m → f9_worstPlace_l9 Q m st p B v := by
    intro m
    induction m with
    | zero => intro p B v a1 a2 a3 a4 a5 a6 a7 a8; omega
    | succ m ih =>
      intro p B v a1 a2 a3 a4 a5 a6 a7 a8
      unfold f9_worstPlace_l9 f9_places
      refine ⟨inI_s (by omega) (by omega), inI_s (by omega) (by omega), fun c => ?_, fun c => ?_⟩
      · rcases a7 with a7 | a7
        · omega
        · refine h p a3 a4 ⟨B, a7.2.e (fun q hd => ⟨fun z => z.1, fun z => ⟨z, ?_⟩⟩)⟩
          have : q ≤ st 30 0 0 0 := z.2.1
          omega
      · refine W9_greatestAt hA hl a1 (by omega) (fun z z0 z1 zb za => ?_)
        refine ⟨inL_s (by omega) (by omega), inL_s (by omega) (by omega), fun c2 => ?_, fun c2 => ?_⟩
        · unfold f9_worstPlace_j42
          rintro _ rfl
          refine ih v z (v + 1) (by omega) (by omega) a1 (by omega) (by omega) z1 (Or.inr ⟨by omega, z0, fun q hd s => ?_, fun q hd s l => ?_, ?_⟩) (by omega)
          · by_cases e : q = v
            · rw [e]; exact zb hd s.1.2.2.1 s.1.2.2.2
            · rcases a7 with a7 | a7
              · have := s.1.1
                have := s.2
                omega
              · have := a7.2.2.1 q hd ⟨s.1, by have := s.2; omega⟩
                omega
          · rcases a7 with a7 | a7
            · have := s.1.1
              omega
            · have := a7.2.2.1 q hd ⟨s.1, l⟩
              omega
          · rcases za with ⟨hd, d0, d1, d2⟩ | e
            · exact Or.inl ⟨hd, ⟨⟨a1, by show v ≤ st 30 0 0 0; omega, d0, d1⟩, by omega⟩, d2⟩
            · rcases a7 with a7 | a7
              · exact Or.inr ⟨e, a7.1⟩
              · have := a7.2.1
                omega
        · unfold f9_worstPlace_j42
          rintro _ rfl
          rcases a7 with a7 | ⟨v0, b0, k1, k2, k3⟩
          · omega
          · refine ih p B (v + 1) (by omega) (by omega) a3 a4 a5 a6 (Or.inr ⟨by omega, b0, fun q hd s => ?_, fun q hd s l => ?_, ?_⟩) (by omega)
            · by_cases e : q = v
              · rw [e]
                have := zb hd s.1.2.2.1 s.1.2.2.2
                omega
              · exact k1 q hd ⟨s.1, by have := s.2; omega⟩
            · by_cases e : q = v
              · rcases k3 with ⟨hd', s', e'⟩ | ⟨_, e'⟩
                · have := s'.2
                  omega
                · omega
              · exact k2 q hd ⟨s.1, by have := s.2; omega⟩ l
            · rcases k3 with ⟨hd', s', e'⟩ | e'
              · exact Or.inl ⟨hd', ⟨s'.1, by have := s'.2; omega⟩, e'⟩
              · exact Or.inr e'
  unfold f9_worstPlace
  exact ⟨100, L 100 0 (-1) 0 (by omega) (by omega) (by omega) (by omega) (by omega) (by omega) (Or.inl ⟨rfl, rfl⟩) (by omega)⟩
/-- the class's -/
def F14 (st st' : St) : Prop := ∀ K s i j, ¬ (K = 4 ∨ ((K = 12 ∨ K = 13 ∨ K = 14 ∨ K = 15 ∨ K = 1) ∧ i = 0)) → st' K s i j = st K s i j
theorem F14.of1 {a b c : St} (h : F14 a b) (g : F1 0 b c) : F14 a c := fun K s i j hK => (g K s i j (fun q => hK (Or.inr q))).trans (h K s i j hK)
theorem F14.up {a b : St} {s : Nat} {i j v : Int} (h : F14 a b) : F14 a (up b 4 s i j v) := fun K s' i' j' hK => by rw [up_ne (fun q => hK (Or.inl q.1))]; exact h K s' i' j' hK
theorem BF.f14 {st st' : St} {b : Int} {A : Int → Int} (h : BF st b A) (hf : F14 st st') : BF st' b A := h.fr (fun K s i j hK => hf K s i j (by omega))
theorem LR.f14 {st st' : St} {lo : Int} {A : Int → Int} (h : LR st lo A) (hf : F14 st st') : LR st' lo A := ⟨(hf 3 2 lo 0 (by omega)).trans h.1, (hf 3 3 lo 0 (by omega)).trans h.2.1, (hf 3 4 lo 0 (by omega)).trans h.2.2.1, fun i x a c d e => (hf 20 0 _ x (by omega)).trans (h.2.2.2 i x a c d e)⟩
theorem FR.up4 {st : St} {o : Int} {A : Int → Int} {T : (Int → Int) → Int} {s : Nat} {i j v : Int} (h : FR st o A T) : FR (up st 4 s i j v) o A T := ⟨fun k k0 k1 => (up_ne (by omega)).trans (h.1 k k0 k1), fun x x0 x1 => ⟨(up_ne (by omega)).trans (h.2 x x0 x1).1, (up_ne (by omega)).trans (h.2 x x0 x1).2⟩⟩
def PKS (st : St) (A : Int → Int) (S : Int → Int → Prop) : Prop := PkI (gPk A) S (st 4 0 0 0) (st 4 1 0 0) ∧ st 4 0 0 0 ≤ 10000000000000000 ∧ 0 ≤ st 4 1 0 0 ∧ st 4 1 0 0 ≤ A 0
theorem W4_look {A : Int → Int} {Q : St → Prop} {st : St} {S S' : Int → Int → Prop} {q0 h0 : Int} (hA : VF A) (hP : PKS st A S) (h1 : 0 ≤ q0) (h2 : q0 ≤ A 0) (hS : ∀ q h, S' q h ↔ S q h ∨ (q = q0 ∧ h = h0))
    (h : ∀ s, F14 st s → (∀ o T, FR st o A T → FR s o A T) → PKS s A S' → Q s) : f4_look Q st (gPk A q0 h0) q0 := by
  obtain ⟨p1, p2, p3, p4⟩ := hP
  have l3 := hA.1.2.1
  have hg := gPk_b hA h0 h1 h2
  have b0 := p1.1
  have J : PkI (gPk A) S' (gPk A q0 h0) q0 → f4_look_j26 Q (gPk A q0 h0) q0 st := fun pk => by
    unfold f4_look_j26
    rintro _ rfl _ rfl
    have e0 : up (up st 4 0 0 0 (gPk A q0 h0)) 4 1 0 0 q0 4 0 0 0 = gPk A q0 h0 := by rw [up_ne (by omega), up_eq, if_pos ⟨rfl, rfl, rfl, rfl⟩]
    have e1 : up (up st 4 0 0 0 (gPk A q0 h0)) 4 1 0 0 q0 4 1 0 0 = q0 := by rw [up_eq, if_pos ⟨rfl, rfl, rfl, rfl⟩]
    refine h _ (F14.up (F14.up (fun _ _ _ _ _ => rfl))) (fun o T r => r.up4.up4) ?_
    unfold PKS
    rw [e0, e1]
    exact ⟨pk, hg.2, h1, h2⟩
  have K : PkI (gPk A) S' (st 4 0 0 0) (st 4 1 0 0) → Q st := fun pk => h st (fun _ _ _ _ _ => rfl) (fun _ _ r => r) ⟨pk, p2, p3, p4⟩
  unfold f4_look
  refine ⟨inL_s (by omega) (by omega), inL_s (by omega) (by omega), fun c => J (pk_1 p1 hS c), fun c => ⟨inL_s (by omega) (by omega), inL_s (by omega) (by omega), fun e => ⟨inI_s (by omega) (by omega), inI_s (by omega) (by omega), fun c2 => K (pk_3 p1 hS (Or.inr ⟨e, c2⟩)), fun c2 => J ?_⟩, fun e => K (pk_3 p1 hS (Or.inl (by omega)))⟩⟩
  have := pk_2 p1 hS e (by omega)
  rw [← e] at this
  exact this
theorem W4_find {b lo : Int} {A : Int → Int} {Q : St → Prop} {st : St} (hA : VF A) (hB : BF st b A) (hL : LR st lo A) (h : ∀ s, F14 st s → PKS s A (sPk A) → Q s) : f4_find b lo 0 Q st := by
  have hb := lhA_b hA
  have hC := hA.1
  have l2 := hC.1
  have l3 := hC.2.1
  have In : ∀ (B19 : St → Int → Prop) (v : Int), 0 ≤ v → v ≤ lhA A → (∀ s, F14 st s → PKS s A (fun q h => sPk A q h ∧ h < v + 1) → B19 s (v + 1)) → ∀ (m : Nat) (w : Int) (s : St), 0 ≤ w → w ≤ A 0 + 1 → F14 st s → FR s 0 A (TA A v) → PKS s A (fun q h => sPk A q h ∧ (h < v ∨ (h = v ∧ q < w))) → A 0 + 1 - w < m → f4_find_l37 b lo 0 B19 Q (lhA A) v m s w := by
    intro B19 v v0 v1 hk m
    induction m with
    | zero => intro w s a1 a2 f r a3 a4; omega
    | succ m ih =>
      intro w s a1 a2 f r a3 a4
      have hBs := hB.f14 f
      unfold f4_find_l37
      rw [hBs.1.1]
      refine ⟨inI_s (by omega) (by omega), inI_s (by omega) (by omega), fun c => ?_, fun c => ?_⟩
      · rintro _ rfl
        refine hk s f ⟨a3.1.e (fun q hd => ⟨fun z => ⟨z.1, by have := z.2; omega⟩, fun z => ⟨z.1, ?_⟩⟩), a3.2⟩
        have := z.2
        have := z.1.2.1
        omega
      · refine W1_momentAt r hC a1 (by omega) ?_
        have ht := TAm_b hA v a1 (show w ≤ 30 by omega)
        refine ⟨inL_s (by omega) (by omega), ?_⟩
        refine W4_look (S' := fun q h => sPk A q h ∧ (h < v ∨ (h = v ∧ q < w + 1))) (h0 := v) hA a3 a1 (by omega) (fun q hd => ⟨fun z => ?_, fun z => ?_⟩) (fun s' f' r' p' => ?_)
        · by_cases e : q = w ∧ hd = v
          · exact Or.inr e
          · exact Or.inl ⟨z.1, by have := z.2; omega⟩
        · rcases z with z | ⟨rfl, rfl⟩
          · exact ⟨z.1, by have := z.2; omega⟩
          · exact ⟨⟨a1, by omega, v0, v1⟩, by omega⟩
        · rintro _ rfl
          exact ih (w + 1) s' (by omega) (by omega) (fun K s2 i j hK => (f' K s2 i j hK).trans (f K s2 i j hK)) (r' 0 _ r) p' (by omega)
  have Out : ∀ (m : Nat) (v : Int) (s : St), 0 ≤ v → v ≤ lhA A + 1 → F14 st s → PKS s A (fun q h => sPk A q h ∧ h < v) → lhA A + 1 - v < m → f4_find_l19 b lo 0 Q (lhA A) m s v := by
    intro m
    induction m with
    | zero => intro v s a1 a2 f a3 a4; omega
    | succ m ih =>
      intro v s a1 a2 f a3 a4
      unfold f4_find_l19
      refine ⟨inI_s (by omega) (by omega), inI_s (by omega) (by omega), fun c => ?_, fun c => ?_⟩
      · refine h s f ⟨a3.1.e (fun q hd => ⟨fun z => z.1, fun z => ⟨z, ?_⟩⟩), a3.2⟩
        have := z.2.2.2
        omega
      · refine W1_underAll hA (hB.f14 f) (hL.f14 f) (by omega) (by omega) (fun s' f' r' => ?_)
        have e0 : s' 4 0 0 0 = s 4 0 0 0 := f' 4 0 0 0 (by omega)
        have e1 : s' 4 1 0 0 = s 4 1 0 0 := f' 4 1 0 0 (by omega)
        refine ⟨100, In _ v a1 (by omega) (fun s2 f2 p2 => ih (v + 1) s2 (by omega) (by omega) f2 p2 (by omega)) 100 0 s' (by omega) (by omega) (f.of1 f') r' ?_ (by omega)⟩
        unfold PKS
        rw [e0, e1]
        refine ⟨a3.1.e (fun q hd => ⟨fun z => ⟨z.1, Or.inl z.2⟩, fun z => ⟨z.1, ?_⟩⟩), a3.2⟩
        have := z.1.1
        have := z.2
        omega
  unfold f4_find
  rintro _ rfl _ rfl
  have f0 : F14 st (up (up st 4 0 0 0 0) 4 1 0 0 0) := F14.up (F14.up (fun _ _ _ _ _ => rfl))
  have e0 : up (up st 4 0 0 0 0) 4 1 0 0 0 4 0 0 0 = 0 := by rw [up_ne (by omega), up_eq, if_pos ⟨rfl, rfl, rfl, rfl⟩]
  have e1 : up (up st 4 0 0 0 0) 4 1 0 0 0 4 1 0 0 = 0 := by rw [up_eq, if_pos ⟨rfl, rfl, rfl, rfl⟩]
  refine W0_lastHead hA (hB.f14 f0) ⟨100, Out 100 0 _ (by omega) (by omega) f0 ?_ (by omega)⟩
  unfold PKS
  rw [e0, e1]
  refine ⟨⟨by omega, fun q hd z => ?_, fun q hd z _ => ?_, Or.inr ⟨rfl, rfl⟩⟩, by omega, by omega, by omega⟩
  · have := z.1.2.2.1
    have := z.2
    omega
  · have := z.1.2.2.1
    have := z.2
    omega
theorem W8_worstSection {A : Int → Int} {Q : Int → St → Prop} {st : St} (hA : VF A) (hB : BF st 0 A) (hL : LR st 0 A) (h : ∀ s p, F14 st s → 0 ≤ p → p ≤ A 0 → PKA A p → Q p s) : f8_worstSection Q st := by
  unfold f8_worstSection
  exact W4_find hA hB hL (fun s f k => h s _ f k.2.2.1 k.2.2.2 ⟨_, k.1⟩)
