/-! the drawing written; the text's bytes -/
def sgR (A : Int → Int) (x v : Int) : Prop := ((∃ k, 0 ≤ k ∧ k < A 2 ∧ A (6 + 2 * k) = x) → v = 94) ∧ (¬ (∃ k, 0 ≤ k ∧ k < A 2 ∧ A (6 + 2 * k) = x) → ((∃ k, 0 ≤ k ∧ k < A 3 ∧ A (16 + k) = x) → v = 111) ∧ (¬ (∃ k, 0 ≤ k ∧ k < A 3 ∧ A (16 + k) = x) → ((∃ k, 0 ≤ k ∧ k < A 4 ∧ A (19 + 2 * k + 1) = x) → v = 118) ∧ (¬ (∃ k, 0 ≤ k ∧ k < A 4 ∧ A (19 + 2 * k + 1) = x) → v = 45)))
theorem sgR_1 {A : Int → Int} {x u v : Int} (hu : sgR A x u) (hv : sgR A x v) : u = v := by
  by_cases a : ∃ k, 0 ≤ k ∧ k < A 2 ∧ A (6 + 2 * k) = x
  · rw [hu.1 a, hv.1 a]
  · have hu := hu.2 a
    have hv := hv.2 a
    by_cases b : ∃ k, 0 ≤ k ∧ k < A 3 ∧ A (16 + k) = x
    · rw [hu.1 b, hv.1 b]
    · have hu := hu.2 b
      have hv := hv.2 b
      by_cases c : ∃ k, 0 ≤ k ∧ k < A 4 ∧ A (19 + 2 * k + 1) = x
      · rw [hu.1 c, hv.1 c]
      · rw [hu.2 c, hv.2 c]
theorem sgR_b {A : Int → Int} {x v : Int} (h : sgR A x v) : 0 ≤ v ∧ v ≤ 255 := by
  by_cases a : ∃ k, 0 ≤ k ∧ k < A 2 ∧ A (6 + 2 * k) = x
  · have := h.1 a; omega
  · have h := h.2 a
    by_cases b : ∃ k, 0 ≤ k ∧ k < A 3 ∧ A (16 + k) = x
    · have := h.1 b; omega
    · have h := h.2 b
      by_cases c : ∃ k, 0 ≤ k ∧ k < A 4 ∧ A (19 + 2 * k + 1) = x
      · have := h.1 c; omega
      · have := h.2 c; omega
theorem W0_signAt {b a : Int} {A : Int → Int} {Q : Int → St → Prop} {st : St} (hB : BH st b A) (hV : VA A) (ha : inI a) (h : ∀ v, sgR A a v → Q v st) : f0_signAt b Q st a := by
  obtain ⟨b0, b1, b2, ⟨i1, i2, i3⟩, b4, b5⟩ := hB
  have s2 := b2.2.1
  have s4 := b4.2.1
  have e1 : ∀ k, 0 ≤ k → k < A 2 → st 10 0 (4 * b) k = A (6 + 2 * k) := fun k k0 k1 => (b2.2.2 k k0 k1).1
  have e4 : ∀ k, 0 ≤ k → k < A 4 → st 11 0 (4 * b + 2) k = A (19 + 2 * k + 1) := fun k k0 k1 => (b4.2.2 k k0 k1).2
  have l3 := hV.c.2.1
  have iS : ∀ k, 0 ≤ k → k < A 2 → inI (A (6 + 2 * k)) := fun k k0 k1 => by
    have := hV.pl k0 k1
    exact inI_s (by omega) (by omega)
  have iH : ∀ k, 0 ≤ k → k < A 3 → inI (A (16 + k)) := fun k k0 k1 => by
    have := hng_b hV k0 k1
    exact inI_s (by omega) (by omega)
  have iL : ∀ k, 0 ≤ k → k < A 4 → inI (A (19 + 2 * k + 1)) := fun k k0 k1 => by
    have := hV.1.1.2.2.2.2.2.1 k k0 k1
    exact inI_s (by omega) (by omega)
  unfold f0_signAt
  refine W6_holdsFirst b2.1 (fun k k0 k1 => by rw [s2] at k1; rw [e1 k k0 k1]; exact iS k k0 k1) ha (fun k k0 k1 c => ?_) (fun c => ?_)
  · rw [s2] at k1
    rw [e1 k k0 k1] at c
    exact ⟨inI_1, fun z => absurd z (by omega), fun _ => h 94 ⟨fun _ => rfl, fun n => absurd ⟨k, k0, k1, c⟩ n⟩⟩
  · refine ⟨inI_0', fun _ => ?_, fun z => absurd rfl z⟩
    have n1 : ¬ ∃ k, 0 ≤ k ∧ k < A 2 ∧ A (6 + 2 * k) = a := fun ⟨k, k0, k1, e⟩ => c k k0 (by omega) (by rw [e1 k k0 k1]; exact e)
    refine W6_holdsFirst i1 (fun k k0 k1 => by rw [i2] at k1; rw [i3 k k0 k1]; exact iH k k0 k1) ha (fun k k0 k1 c2 => ?_) (fun c2 => ?_)
    · rw [i2] at k1
      rw [i3 k k0 k1] at c2
      exact ⟨inI_1, fun z => absurd z (by omega), fun _ => h 111 ⟨fun y => absurd y n1, fun _ => ⟨fun _ => rfl, fun n => absurd ⟨k, k0, k1, c2⟩ n⟩⟩⟩
    · refine ⟨inI_0', fun _ => ?_, fun z => absurd rfl z⟩
      have n2 : ¬ ∃ k, 0 ≤ k ∧ k < A 3 ∧ A (16 + k) = a := fun ⟨k, k0, k1, e⟩ => c2 k k0 (by omega) (by rw [i3 k k0 k1]; exact e)
      refine W6_holdsSecond b4.1 (fun k k0 k1 => by rw [s4] at k1; rw [e4 k k0 k1]; exact iL k k0 k1) ha (fun k k0 k1 c3 => ?_) (fun c3 => ?_)
      · rw [s4] at k1
        rw [e4 k k0 k1] at c3
        exact ⟨inI_1, fun z => absurd z (by omega), fun _ => h 118 ⟨fun y => absurd y n1, fun _ => ⟨fun y => absurd y n2, fun _ => ⟨fun _ => rfl, fun n => absurd ⟨k, k0, k1, c3⟩ n⟩⟩⟩⟩
      · have n3 : ¬ ∃ k, 0 ≤ k ∧ k < A 4 ∧ A (19 + 2 * k + 1) = a := fun ⟨k, k0, k1, e⟩ => c3 k k0 (by omega) (by rw [e4 k k0 k1]; exact e)
        exact ⟨inI_0', fun _ => h 45 ⟨fun y => absurd y n1, fun _ => ⟨fun y => absurd y n2, fun _ => ⟨fun y => absurd y n3, fun _ => rfl⟩⟩⟩, fun z => absurd rfl z⟩
def FWc (st st' : St) : Prop := ∀ K s i j, ¬ (K = 28 ∨ (K = 8 ∧ s = 13)) → st' K s i j = st K s i j
def FWm (st st' : St) : Prop := ∀ K s i j, ¬ ((K = 30 ∧ i = 6) ∨ (K = 9 ∧ (s = 6 ∨ s = 21))) → st' K s i j = st K s i j
theorem CS.fw {st st' : St} {A : Int → Int} {n : Int} {B : Int → Int → Int} {F : Int → Int} {S : Int → Int → Int} (h : CS st A n B F S) (hf : FWc st st') : CS st' A n B F S := h.fr (fun K s i j hK => hf K s i j (by omega))
theorem MS.fw {st st' : St} {A : Int → Int} {n : Int} {B : Int → Int → Int} {F : Int → Int} {S : Int → Int → Int} (h : MS st A n B F S) (hf : FWm st st') : MS st' A n B F S := by
  obtain ⟨h1, h2, h3, h4, h5, h6, h7, h8⟩ := h
  refine ⟨?_, h2, fun j => by rw [hf 37 0 0 j (by omega)]; exact h3 j, fun j hj => (hf 30 0 0 j (by omega)).trans (h4 j hj), (hf 9 5 0 0 (by omega)).trans h5, h6, fun k a b => ?_, fun i a b => ⟨(hf 34 0 0 i (by omega)).trans (h8 i a b).1, (h8 i a b).2.1, fun q => ?_⟩⟩
  · rw [← h1]
    funext j
    exact hf 30 0 0 j (by omega)
  · rw [← h7 k a b]
    exact nA_ext (fun j _ _ => hf 30 0 2 _ (by omega))
  · rw [← (h8 i a b).2.2 q]
    exact nA_ext (fun j _ _ => hf 30 0 3 _ (by omega))
/-- the drawing: m signs of A -/
def WC (st : St) (m : Int) (W : Int → Int) : Prop := st 8 13 0 0 = m ∧ ∀ j, 0 ≤ j → j < m → st 28 0 0 j = W j
def WM (st : St) (m : Int) (W : Int → Int) : Prop := st 9 21 0 0 = m ∧ ∀ j, 0 ≤ j → j < m → st 30 0 6 j = W j
theorem W8_writeBeam {A : Int → Int} {n : Int} {B : Int → Int → Int} {F : Int → Int} {S : Int → Int → Int} {Q : Int → St → Prop} {st : St} (h : CS st A n B F S) (hq : ∀ s W, FWc st s → WC s (A 0 + 1) W → (∀ j, 0 ≤ j → j < A 0 + 1 → sgR A j (W j)) → Q (A 0 + 1) s) : f8_writeBeam Q st := by
  have hV := h.1
  have l2 := hV.c.1
  have l3 := hV.c.2.1
  unfold f8_writeBeam
  rw [h.2.1.1]
  rintro _ rfl
  have f1 : FWc st (up st 8 13 0 0 (A 0 + 1)) := fun K s i j hK => up_ne (by omega)
  have g1 : up st 8 13 0 0 (A 0 + 1) 8 13 0 0 = A 0 + 1 := by rw [up_eq, if_pos ⟨rfl, rfl, rfl, rfl⟩]
  have L : ∀ (m : Nat) (v : Int) (s : St), 0 ≤ v → v ≤ A 0 + 1 → FWc st s → s 8 13 0 0 = A 0 + 1 → (∀ j, 0 ≤ j → j < v → sgR A j (s 28 0 0 j)) → A 0 + 1 - v < m → f8_writeBeam_l15 Q m s v := by
    intro m
    induction m with
    | zero => intro v s a1 a2 a3 a4 a5 a6; omega
    | succ m ih =>
      intro v s a1 a2 a3 a4 a5 a6
      unfold f8_writeBeam_l15
      rw [a4]
      refine ⟨inI_s (by omega) (by omega), inI_s (by omega) (by omega), fun c => hq s (fun j => s 28 0 0 j) a3 ⟨a4, fun _ _ _ => rfl⟩ (fun j j0 j1 => a5 j j0 (by omega)), fun c => ⟨inI_s (by omega) (by omega), fun c2 => absurd c2 (by omega), fun _ => ?_⟩⟩
      refine W0_signAt (h.fw a3).2.1 hV (inI_s (by omega) (by omega)) (fun w hw => ⟨a1, by omega, ⟨by have := sgR_b hw; omega, by have := sgR_b hw; omega⟩, ?_⟩)
      rintro _ rfl _ rfl
      refine ih (v + 1) _ (by omega) (by omega) (fun K s2 i j hK => (up_ne (by omega)).trans (a3 K s2 i j hK)) ((up_ne (by omega)).trans a4) (fun j j0 j1 => ?_) (by omega)
      rw [up_eq]
      by_cases e : j = v
      · rw [if_pos ⟨rfl, rfl, rfl, e⟩, e]; exact hw
      · rw [if_neg (fun z => e z.2.2.2)]; exact a5 j j0 (by omega)
  exact ⟨100, L 100 0 _ (by omega) (by omega) f1 g1 (fun j j0 j1 => absurd j0 (by omega)) (by omega)⟩
theorem mlen6 : mlen 6 = 31 := by decide
theorem W9_writeBeam {A : Int → Int} {n : Int} {B : Int → Int → Int} {F : Int → Int} {S : Int → Int → Int} {Q : Int → St → Prop} {st : St} (h : MS st A n B F S) (hq : ∀ s W, FWm st s → s 9 6 0 0 = 0 → WM s (A 0 + 1) W → (∀ j, 0 ≤ j → j < A 0 + 1 → sgR A j (W j)) → Q (A 0 + 1) s) : f9_writeBeam Q st := by
  have hV := h.2.1
  have l2 := hV.c.1
  have l3 := hV.c.2.1
  have n2 := hV.c.2.2.1
  have n5 := hV.c.2.2.2.1
  have h3 := hV.2.1
  have b4 := hV.1.1.2.2.2.1
  have m6 := mlen6
  have iS : ∀ k, 0 ≤ k → k < A 2 → inI (A (6 + 2 * k)) := fun k k0 k1 => by
    have := hV.pl k0 k1
    exact inI_s (by omega) (by omega)
  have iH : ∀ k, 0 ≤ k → k < A 3 → inI (A (16 + k)) := fun k k0 k1 => by
    have := hng_b hV k0 k1
    exact inI_s (by omega) (by omega)
  have iL : ∀ k, 0 ≤ k → k < A 4 → inI (A (19 + 2 * k + 1)) := fun k k0 k1 => by
    have := hV.1.1.2.2.2.2.2.1 k k0 k1
    exact inI_s (by omega) (by omega)
  unfold f9_writeBeam
  rintro _ rfl
  have f1 : FWm st (up st 9 6 0 0 0) := fun K s i j hK => up_ne (by omega)
  have g1 : up st 9 6 0 0 0 9 6 0 0 = 0 := by rw [up_eq, if_pos ⟨rfl, rfl, rfl, rfl⟩]
  have L : ∀ (m : Nat) (v : Int) (s : St), 0 ≤ v → v ≤ A 0 + 1 → FWm st s → s 9 6 0 0 = 0 → (∀ j, 0 ≤ j → j < v → sgR A j (s 30 0 6 j)) → A 0 + 1 - v < m → f9_writeBeam_l7 Q m s v := by
    intro m
    induction m with
    | zero => intro v s a1 a2 a3 a4 a5 a6; omega
    | succ m ih =>
      intro v s a1 a2 a3 a4 a5 a6
      have eA : aM s = A := (h.fw a3).1
      have e0 : s 30 0 0 0 = A 0 := congrFun eA 0
      have iv : inI v := inI_s (by omega) (by omega)
      have J : ∀ w, sgR A v w → v < A 0 + 1 → f9_writeBeam_j63 (fun st v1x7 => f9_writeBeam_l7 Q m st v1x7) Q s v w v := fun w hw vl => by
        unfold f9_writeBeam_j63
        refine ⟨a1, by omega, ?_⟩
        rintro _ rfl _ rfl
        refine ih (v + 1) _ (by omega) (by omega) (fun K s2 i j hK => (up_ne (by omega)).trans (a3 K s2 i j hK)) ((up_ne (by omega)).trans a4) (fun j j0 j1 => ?_) (by omega)
        rw [up_eq]
        by_cases e : j = v
        · rw [if_pos ⟨rfl, rfl, rfl, e⟩, e]; exact hw
        · rw [if_neg (fun z => e z.2.2.2)]; exact a5 j j0 (by omega)
      unfold f9_writeBeam_l7 f9_places
      rw [e0]
      refine ⟨iv, inI_s (by omega) (by omega), fun c => ?_, fun c => ?_⟩
      · rw [e0]
        rintro _ rfl
        have e9 : up s 9 21 0 0 (A 0 + 1) 9 21 0 0 = A 0 + 1 := by rw [up_eq, if_pos ⟨rfl, rfl, rfl, rfl⟩]
        rw [e9]
        refine hq _ (fun j => s 30 0 6 j) (fun K s2 i j hK => (up_ne (by omega)).trans (a3 K s2 i j hK)) ((up_ne (by omega)).trans a4) ⟨e9, fun j _ _ => up_ne (by omega)⟩ (fun j j0 j1 => a5 j j0 (by omega))
      · refine W9_supportAt eA (by omega) iS iv (fun k k0 k1 ek _ => ?_) (fun n1 => ?_)
        · exact ⟨inI_s (by omega) (by omega), fun z => absurd z (by omega), fun _ => J 94 ⟨fun _ => rfl, fun n => absurd ⟨k, k0, k1, ek⟩ n⟩ (by omega)⟩
        · have n1' : ¬ ∃ k, 0 ≤ k ∧ k < A 2 ∧ A (6 + 2 * k) = v := fun ⟨k, k0, k1, e⟩ => n1 k k0 k1 e
          refine ⟨inI_s (by omega) (by omega), fun _ => ?_, fun z => absurd rfl z⟩
          refine W9_hingeAt eA (by omega) iH iv (fun k k0 k1 ek _ => ?_) (fun n2' => ?_)
          · exact ⟨inI_s (by omega) (by omega), fun z => absurd z (by omega), fun _ => J 111 ⟨fun y => absurd y n1', fun _ => ⟨fun _ => rfl, fun n => absurd ⟨k, k0, k1, ek⟩ n⟩⟩ (by omega)⟩
          · have n2'' : ¬ ∃ k, 0 ≤ k ∧ k < A 3 ∧ A (16 + k) = v := fun ⟨k, k0, k1, e⟩ => n2' k k0 k1 e
            refine ⟨inI_s (by omega) (by omega), fun _ => ?_, fun z => absurd rfl z⟩
            refine W9_hasLoad eA b4 iL iv (fun y => ?_) (fun n3 => ?_)
            · exact ⟨inI_1, fun z => absurd z (by omega), fun _ => J 118 ⟨fun y => absurd y n1', fun _ => ⟨fun y => absurd y n2'', fun _ => ⟨fun _ => rfl, fun n => absurd y n⟩⟩⟩ (by omega)⟩
            · have n3' : ¬ ∃ k, 0 ≤ k ∧ k < A 4 ∧ A (19 + 2 * k + 1) = v := fun ⟨k, k0, k1, e⟩ => n3 k k0 k1 e
              exact ⟨inI_0', fun _ => J 45 ⟨fun y => absurd y n1', fun _ => ⟨fun y => absurd y n2'', fun _ => ⟨fun y => absurd y n3', fun _ => rfl⟩⟩⟩ (by omega), fun z => absurd rfl z⟩
  exact ⟨100, L 100 0 _ (by omega) (by omega) f1 g1 (fun j j0 j1 => absurd j0 (by omega)) (by omega)⟩
theorem W8_writtenByte {Q : Int → St → Prop} {X : String → St → Prop} {st : St} {m a0 : Int} {W : Int → Int} (h : WC st m W) (hm : 0 ≤ m ∧ m ≤ 31) (h0 : inI a0) (hx : ¬ (0 ≤ a0 ∧ a0 < m) → X "java/lang/IndexOutOfBoundsException" st) (hq : 0 ≤ a0 ∧ a0 < m → Q (W a0) st) : f8_writtenByte Q X st a0 := by
  unfold f8_writtenByte f8_writtenByte_j18
  rw [h.1]
  refine ⟨h0, fun c => hx (by omega), fun c => ⟨h0, inI_s (by omega) (by omega), fun d => hx (by omega), fun d => ⟨h0, fun e => ⟨by omega, e, ?_⟩, fun e => hx (by omega)⟩⟩⟩
  rw [h.2 a0 (by omega) (by omega)]
  exact hq ⟨by omega, by omega⟩
theorem W9_writtenByte {Q : Int → St → Prop} {st : St} {m a0 : Int} {W : Int → Int} (h : WM st m W) (hm : 0 ≤ m ∧ m ≤ 31) (h0 : inI a0) (hx : ¬ (0 ≤ a0 ∧ a0 < m) → Q 0 (up st 9 6 0 0 1)) (hq : 0 ≤ a0 ∧ a0 < m → Q (W a0) (up st 9 6 0 0 0)) : f9_writtenByte Q st a0 := by
  have m6 := mlen6
  unfold f9_writtenByte
  rw [h.1]
  refine W9_isIn h0 inI_0 (inI_s (by omega) (by omega)) ?_
  by_cases c : 0 ≤ a0 ∧ a0 ≤ m - 1
  · rw [if_pos c]
    refine ⟨inI_1, fun e => absurd e (by omega), fun _ => ?_⟩
    unfold f9_writtenByte_j20
    refine gate (by omega) (by omega) (fun _ => ⟨by omega, by omega, ?_⟩) (fun e => absurd e (by omega))
    rw [up_ne (by omega), h.2 a0 (by omega) (by omega)]
    exact hq (by omega)
  · rw [if_neg c]
    refine ⟨inI_0, fun _ => ?_, fun e => absurd rfl e⟩
    unfold f9_writtenByte_j20
    exact gate (by omega) (by omega) (fun e => absurd e (by omega)) (fun _ => hx (by omega))
