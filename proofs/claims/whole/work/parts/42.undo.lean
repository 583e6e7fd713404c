/-! the whole state, the class's and the reference's; undo, save, restore -/
def VA (A : Int → Int) : Prop := VD A ∧ A 3 = A 2 - 2 ∧ ¬ DA A (-1) 0 = 0
/-- the class holds the beam A, the history B of n, the saved S where F says so -/
def CS (st : St) (A : Int → Int) (n : Int) (B : Int → Int → Int) (F : Int → Int) (S : Int → Int → Int) : Prop := VA A ∧ BH st 0 A ∧ LR st 0 A ∧ HC st n B ∧ (∀ k, 0 ≤ k → k < n → VA (B k)) ∧ ∀ i, 0 ≤ i → i < 2 → st 27 0 0 i = F i ∧ inI (F i) ∧ (¬ F i = 0 → BH st (3 + i) (S i) ∧ VA (S i))
/-- what a question or a change of the class may touch -/
def FC (st st' : St) : Prop := ∀ K s i j, ¬ (K = 1 ∨ K = 2 ∨ K = 3 ∨ K = 4 ∨ K = 12 ∨ K = 13 ∨ K = 14 ∨ K = 15 ∨ K = 16 ∨ K = 18 ∨ K = 20 ∨ K = 27 ∨ (K = 0 ∧ ¬ i = 2) ∨ ((K = 6 ∨ K = 10 ∨ K = 11) ∧ ¬ (8 ≤ i ∧ i < 12))) → st' K s i j = st K s i j
theorem FC.rf {st : St} : FC st st := fun _ _ _ _ _ => rfl
theorem FC.trans {a b c : St} (h : FC a b) (g : FC b c) : FC a c := fun K s i j hK => (g K s i j hK).trans (h K s i j hK)
theorem LR.fr {st st' : St} {lo : Int} {A : Int → Int} (h : LR st lo A) (hf : ∀ K s i j, (K = 3 ∧ i = lo) ∨ (K = 20 ∧ 5 * lo ≤ i ∧ i < 5 * lo + 5) → st' K s i j = st K s i j) (hC : VC A) : LR st' lo A := by
  have n5 := hC.2.2.2.1
  exact ⟨(hf 3 2 lo 0 (by omega)).trans h.1, (hf 3 3 lo 0 (by omega)).trans h.2.1, (hf 3 4 lo 0 (by omega)).trans h.2.2.1, fun i x a c d e => (hf 20 0 _ x (by omega)).trans (h.2.2.2 i x a c d e)⟩
theorem HC.fr {st st' : St} {n : Int} {B : Int → Int → Int} (h : HC st n B) (hf : ∀ K s i j, K = 16 ∨ K = 2 ∨ (K = 0 ∧ 5 ≤ i ∧ i ≤ 12) ∨ ((K = 6 ∨ K = 10 ∨ K = 11) ∧ 20 ≤ i ∧ i < 52) → st' K s i j = st K s i j) : HC st' n B := by
  obtain ⟨p1, p2, p3, p4, p5⟩ := h
  have e : ∀ k, st' 16 0 0 k = st 16 0 0 k := fun k => hf 16 0 0 k (by omega)
  refine ⟨fun k a b => by rw [e]; exact p1 k a b, fun j k a b c => by rw [e, e]; exact p2 j k a b c, (hf 2 1 0 0 (by omega)).trans p3, p4, fun k a b => ?_⟩
  have := p1 k a (by omega)
  rw [e]
  exact (p5 k a b).fr (fun K s i j hK => hf K s i j (by omega))
theorem VA.c {A : Int → Int} (h : VA A) : VC A := h.1.1.1
theorem CS.cr {st : St} {A : Int → Int} {n : Int} {B : Int → Int → Int} {F : Int → Int} {S : Int → Int → Int} (h : CS st A n B F S) : CR st A := ⟨h.1.1, h.2.1.bf h.1.2.1, h.2.2.1⟩
/-- a question leaves it -/
theorem CS.fr {st st' : St} {A : Int → Int} {n : Int} {B : Int → Int → Int} {F : Int → Int} {S : Int → Int → Int} (h : CS st A n B F S) (hf : ∀ K s i j, (K = 0 ∧ ¬ i = 1) ∨ K = 2 ∨ (K = 3 ∧ i = 0) ∨ ((K = 6 ∨ K = 10 ∨ K = 11) ∧ ¬ (4 ≤ i ∧ i < 8)) ∨ K = 16 ∨ (K = 20 ∧ i < 5) ∨ K = 27 → st' K s i j = st K s i j) : CS st' A n B F S := by
  obtain ⟨h1, h2, h3, h4, h5, h6⟩ := h
  refine ⟨h1, h2.fr (fun K s i j hK => hf K s i j (by omega)), h3.fr (fun K s i j hK => hf K s i j (by omega)) h1.c, h4.fr (fun K s i j hK => hf K s i j (by omega)), h5, fun i i0 i1 => ⟨(hf 27 0 0 i (by omega)).trans (h6 i i0 i1).1, (h6 i i0 i1).2.1, fun q => ⟨((h6 i i0 i1).2.2 q).1.fr (fun K s i j hK => hf K s i j (by omega)), ((h6 i i0 i1).2.2 q).2⟩⟩⟩
theorem CS.f1 {st st' : St} {A : Int → Int} {n : Int} {B : Int → Int → Int} {F : Int → Int} {S : Int → Int → Int} (h : CS st A n B F S) (hf : F1 0 st st') : CS st' A n B F S := h.fr (fun K s i j hK => hf K s i j (by omega))
theorem CS.f14 {st st' : St} {A : Int → Int} {n : Int} {B : Int → Int → Int} {F : Int → Int} {S : Int → Int → Int} (h : CS st A n B F S) (hf : F14 st st') : CS st' A n B F S := h.fr (fun K s i j hK => hf K s i j (by omega))
/-- the reference holds the same -/
def MS (st : St) (A : Int → Int) (n : Int) (B : Int → Int → Int) (F : Int → Int) (S : Int → Int → Int) : Prop := aM st = A ∧ VA A ∧ (∀ j, bL (st 37 0 0 j)) ∧ (∀ j, ¬ (0 ≤ j ∧ j < 47) → st 30 0 0 j = 0) ∧ st 9 5 0 0 = n ∧ (0 ≤ n ∧ n ≤ 8) ∧ (∀ k, 0 ≤ k → k < n → kA st 2 k = B k) ∧ ∀ i, 0 ≤ i → i < 2 → st 34 0 0 i = F i ∧ inI (F i) ∧ (¬ F i = 0 → kA st 3 i = S i)
theorem MS.mr {st : St} {A : Int → Int} {n : Int} {B : Int → Int → Int} {F : Int → Int} {S : Int → Int → Int} (h : MS st A n B F S) : MR st := by
  obtain ⟨h1, h2, h3, _⟩ := h
  rw [← h1] at h2
  exact ⟨h2.1, h2.2.2, h3⟩
theorem MS.fq {st st' : St} {A : Int → Int} {n : Int} {B : Int → Int → Int} {F : Int → Int} {S : Int → Int → Int} (h : MS st A n B F S) (hf : FQ st st') : MS st' A n B F S := by
  obtain ⟨h1, h2, h3, h4, h5, h6, h7, h8⟩ := h
  refine ⟨hf.aM.trans h1, h2, hf.2, fun j hj => (hf.1 30 0 0 j (by omega)).trans (h4 j hj), (hf.1 9 5 0 0 (by omega)).trans h5, h6, fun k a b => ?_, fun i a b => ⟨(hf.1 34 0 0 i (by omega)).trans (h8 i a b).1, (h8 i a b).2.1, fun q => ?_⟩⟩
  · rw [← h7 k a b]
    exact nA_ext (fun j _ _ => hf.1 30 0 2 _ (by omega))
  · rw [← (h8 i a b).2.2 q]
    exact nA_ext (fun j _ _ => hf.1 30 0 3 _ (by omega))
theorem W8_undo {A : Int → Int} {n : Int} {B : Int → Int → Int} {F : Int → Int} {S : Int → Int → Int} {Q : Int → St → Prop} {X : String → St → Prop} {st : St} (h : CS st A n B F S) (hx : n = 0 → X "java/lang/IllegalStateException" st) (hq : 0 < n → ∀ s, FC st s → CS s (B (n - 1)) (n - 1) B F S → Q (n - 1) s) : f8_undo Q X st := by
  obtain ⟨h1, h2, h3, ⟨p1, p2, p3, p4, p5⟩, h5, h6⟩ := h
  unfold f8_undo f2_takeBack
  rw [p3]
  refine ⟨inI_s (by omega) (by omega), fun c => ⟨inI_0, fun _ => hx (by omega), fun e => absurd rfl e⟩, fun c => ⟨inI_s (by omega) (by omega), fun c2 => ?_, fun c2 => absurd p4.2 c2⟩⟩
  rintro _ rfl
  have e2 : up st 2 1 0 0 (n - 1) 2 1 0 0 = n - 1 := by rw [up_eq, if_pos ⟨rfl, rfl, rfl, rfl⟩]
  rw [e2]
  refine ⟨by omega, by omega, ?_⟩
  rintro _ rfl
  have e16 : up st 2 1 0 0 (n - 1) 16 0 0 (n - 1) = st 16 0 0 (n - 1) := up_ne (by omega)
  rw [e16]
  have hp := p1 (n - 1) (by omega) (by omega)
  refine ⟨⟨by omega, by omega⟩, W0_copyFrom (A := B (n - 1)) (by omega) ((p5 (n - 1) (by omega) (by omega)).fr (fun K s i j hK => up_ne (by omega))) (fun s1 f1 b1 => ?_)⟩
  refine ⟨inI_1, fun e => absurd e (by omega), fun _ => ?_⟩
  have hv := h5 (n - 1) (by omega) (by omega)
  have g1 : ∀ K s i j, ¬ (K = 2 ∨ (K = 0 ∧ i = 0) ∨ ((K = 6 ∨ K = 10 ∨ K = 11) ∧ 0 ≤ i ∧ i < 4)) → s1 K s i j = st K s i j := fun K s i j hK => (f1 K s i j (by omega)).trans (up_ne (by omega))
  have n1 : s1 2 1 0 0 = n - 1 := (f1 2 1 0 0 (by omega)).trans e2
  refine W3_reckon (b1.bf hv.2.1).1 hv.c (fun s f z => absurd z hv.2.2) (fun s f _ l => ?_)
  have e3 : s 2 1 0 0 = n - 1 := (f 2 1 0 0 (by omega)).trans n1
  rw [e3]
  refine hq (by omega) s (fun K s2 i j hK => (f K s2 i j (by omega)).trans (g1 K s2 i j (by omega))) ⟨hv, b1.fr (fun K s2 i j hK => f K s2 i j (by omega)), l, ?_, fun k a b => h5 k a (by omega), fun i i0 i1 => ⟨(f 27 0 0 i (by omega)).trans ((g1 27 0 0 i (by omega)).trans (h6 i i0 i1).1), (h6 i i0 i1).2.1, fun q => ⟨((h6 i i0 i1).2.2 q).1.fr (fun K s2 i' j hK => (f K s2 i' j (by omega)).trans (g1 K s2 i' j (by omega))), ((h6 i i0 i1).2.2 q).2⟩⟩⟩
  have e : ∀ k, s 16 0 0 k = st 16 0 0 k := fun k => (f 16 0 0 k (by omega)).trans (g1 16 0 0 k (by omega))
  refine ⟨fun k a b => by rw [e]; exact p1 k a b, fun j k a b c => by rw [e, e]; exact p2 j k a b c, e3, by omega, fun k a b => ?_⟩
  have := p1 k a (by omega)
  rw [e]
  exact (p5 k a (by omega)).fr (fun K s2 i j hK => (f K s2 i j (by omega)).trans (g1 K s2 i j (by omega)))
/-- what a change of the reference may touch -/
def FD (st st' : St) : Prop := ∀ K s i j, ¬ (K = 34 ∨ K = 36 ∨ K = 37 ∨ (K = 30 ∧ (i = 0 ∨ i = 1 ∨ i = 2 ∨ i = 3 ∨ i = 5)) ∨ (K = 9 ∧ (s = 18 ∨ s = 6 ∨ s = 5))) → st' K s i j = st K s i j
theorem mlen3 : mlen 3 = 94 := by decide
theorem W9_undo {A : Int → Int} {n : Int} {B : Int → Int → Int} {F : Int → Int} {S : Int → Int → Int} {Q : Int → St → Prop} {st : St} (h : MS st A n B F S) (hB : ∀ k, 0 ≤ k → k < n → VA (B k)) (hx : n = 0 → ∀ s, FQ st s → s 9 6 0 0 = 1 → Q 0 s) (hq : 0 < n → ∀ s, FD st s → s 9 6 0 0 = 0 → MS s (B (n - 1)) (n - 1) B F S → Q (n - 1) s) : f9_undo Q st := by
  obtain ⟨h1, h2, h3, h4, h5, h6, h7, h8⟩ := h
  have m2 := mlen2
  have m0 := mlen0
  unfold f9_undo
  rw [h5]
  refine ⟨inI_s (by omega) (by omega), fun c => ?_, fun c => ?_⟩
  · unfold f9_undo_j13
    exact gate (by omega) (by omega) (fun e => absurd e (by omega)) (fun _ => hx c _ (FQ.up6 h3) (by rw [up_eq, if_pos ⟨rfl, rfl, rfl, rfl⟩]))
  · unfold f9_undo_j13
    refine gate (by omega) (by omega) (fun _ => ?_) (fun e => absurd e (by omega))
    have e5 : up st 9 6 0 0 0 9 5 0 0 = n := (up_ne (by omega)).trans h5
    rw [e5]
    rintro _ rfl
    have e5' : up (up st 9 6 0 0 0) 9 5 0 0 (n - 1) 9 5 0 0 = n - 1 := by rw [up_eq, if_pos ⟨rfl, rfl, rfl, rfl⟩]
    rw [e5']
    refine W9_copies (by omega) (by omega) (by omega) (by omega) (by omega) ?_
    generalize e3 : up (up st 9 6 0 0 0) 9 5 0 0 (n - 1) = s3
    have g : ∀ K s i j, ¬ (K = 9 ∧ (s = 6 ∨ s = 5)) → s3 K s i j = st K s i j := fun K s i j hK => by rw [← e3, up_ne (by omega), up_ne (by omega)]
    have g5 : s3 9 5 0 0 = n - 1 := by rw [← e3]; exact e5'
    have g6 : s3 9 6 0 0 = 0 := by rw [← e3, up_ne (by omega), up_eq, if_pos ⟨rfl, rfl, rfl, rfl⟩]
    have c5 : cpyN s3 0 0 2 (47 * (n - 1)) 47 9 5 0 0 = n - 1 := (cpyN_out (by omega)).trans g5
    rw [c5]
    have eA : aM (cpyN s3 0 0 2 (47 * (n - 1)) 47) = B (n - 1) := by
      rw [← h7 (n - 1) (by omega) (by omega)]
      funext j
      unfold kA nA
      by_cases q : 0 ≤ j ∧ j < 47
      · rw [if_pos q]
        have := cpyN_in (st := s3) (d := 0) (a := 0) (s := 2) (b := 47 * (n - 1)) q.1 q.2
        rw [Int.zero_add] at this
        exact this.trans (g 30 0 2 _ (by omega))
      · rw [if_neg q]
        refine (cpyN_out (by omega)).trans ((g 30 0 0 j (by omega)).trans (h4 j q))
    refine hq (by omega) _ (fun K s i j hK => (cpyN_out (by omega)).trans (g K s i j (by omega))) ((cpyN_out (by omega)).trans g6) ⟨eA, hB _ (by omega) (by omega), fun j => by rw [cpyN_out (by omega), g 37 0 0 j (by omega)]; exact h3 j, fun j hj => (cpyN_out (by omega)).trans ((g 30 0 0 j (by omega)).trans (h4 j hj)), c5, by omega, fun k a b => ?_, fun i a b => ⟨(cpyN_out (by omega)).trans ((g 34 0 0 i (by omega)).trans (h8 i a b).1), (h8 i a b).2.1, fun q => ?_⟩⟩
    · rw [← h7 k a (by omega)]
      exact nA_ext (fun j _ _ => (cpyN_out (by omega)).trans (g 30 0 2 _ (by omega)))
    · rw [← (h8 i a b).2.2 q]
      exact nA_ext (fun j _ _ => (cpyN_out (by omega)).trans (g 30 0 3 _ (by omega)))
