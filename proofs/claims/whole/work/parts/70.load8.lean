/-! load, the class's side -/
/-- the hinges' order, and a most of at least 1 -/
def HM (A : Int → Int) : Prop := HG A ∧ 1 ≤ A 1
def sLoad (T : Int → Int) (n : Int) (K : (Int → Int) → Prop) (E : Int → Int → Prop) : Prop := sText T n (fun A => (DA A (-1) 0 = 0 → E (-7) n) ∧ (¬ DA A (-1) 0 = 0 → K A)) E
theorem CS.fr2 {st st' : St} {A : Int → Int} {n : Int} {B : Int → Int → Int} {F : Int → Int} {S : Int → Int → Int} (h : CS st A n B F S) (hf : ∀ K s i j, (K = 0 ∧ ¬ (i = 1 ∨ i = 2)) ∨ K = 2 ∨ (K = 3 ∧ i = 0) ∨ ((K = 6 ∨ K = 10 ∨ K = 11) ∧ ¬ (4 ≤ i ∧ i < 12)) ∨ K = 16 ∨ (K = 20 ∧ i < 5) ∨ K = 27 → st' K s i j = st K s i j) : CS st' A n B F S := by
  obtain ⟨h1, h2, h3, h4, h5, h6⟩ := h
  refine ⟨h1, h2.fr (fun K s i j hK => hf K s i j (by omega)), h3.fr (fun K s i j hK => hf K s i j (by omega)) h1.c, h4.fr (fun K s i j hK => hf K s i j (by omega)), h5, fun i i0 i1 => ⟨(hf 27 0 0 i (by omega)).trans (h6 i i0 i1).1, (h6 i i0 i1).2.1, fun q => ⟨((h6 i i0 i1).2.2 q).1.fr (fun K s i j hK => hf K s i j (by omega)), ((h6 i i0 i1).2.2 q).2⟩⟩⟩
/-- what load of the class leaves: the drawing -/
def FLc (st st' : St) : Prop := ∀ K s i j, K = 28 ∨ (K = 8 ∧ s = 13) → st' K s i j = st K s i j
theorem W8_load {A : Int → Int} {n : Int} {B : Int → Int → Int} {F : Int → Int} {S : Int → Int → Int} {Q : Int → St → Prop} {st : St} {T : Int → Int} {len : Int} {K : (Int → Int) → Prop} {E : Int → Int → Prop} (h : CS st A n B F S) (hT : TXc st len T) (hn : 0 ≤ len) (hn2 : len ≤ 500) (hB : TB T len)
    (hk : ∀ A' s, K A' → HM A' → FLc st s → CS s A' (pushN n) (pushB n B A) F S → s 7 1 0 0 = 0 → s 8 1 0 0 = -1 → Q (A' 2) s) (he : ∀ c p s, E c p → FLc st s → CS s A n B F S → s 7 1 0 0 = 0 → s 8 1 0 0 = p → Q c s) (k : sLoad T len K E) : f8_load Q st := by
  unfold f8_load
  rw [hT.1]
  intro x1 ex1
  rw [ex1]
  refine W5_readText hT hn hn2 hB (fun A' s kA f bh hp h2 h3 => ?_) (fun c p s e f ec ep => ?_) k
  · rintro _ rfl
    refine ⟨inI_1, fun z => absurd z (by omega), fun _ => ?_⟩
    have g1 : ∀ K s' i j, ¬ (K = 5 ∨ (K = 0 ∧ i = 2) ∨ ((K = 6 ∨ K = 10 ∨ K = 11) ∧ 8 ≤ i ∧ i < 12) ∨ K = 22 ∨ K = 23 ∨ K = 24 ∨ K = 25 ∨ (K = 7 ∧ (s' = 6 ∨ s' = 1))) → up s 7 1 0 0 0 K s' i j = st K s' i j := fun K s' i j hK => (up_ne (by omega)).trans (f K s' i j (by omega))
    have e7 : up s 7 1 0 0 0 7 1 0 0 = 0 := by rw [up_eq, if_pos ⟨rfl, rfl, rfl, rfl⟩]
    have b1 : BH (up s 7 1 0 0 0) 2 A' := bh.fr (fun K s i j hK => up_ne (by omega))
    generalize up s 7 1 0 0 0 = s1 at g1 e7 b1
    refine W0_copyFrom (by omega) b1 (fun s2 f2 b2 => ?_)
    have a2 := hp.2.2.1
    refine W3_reckon (b2.bf h3).1 (hp.vc h2 h3) (fun s3 f3 z => ⟨inI_0', fun _ => ?_, fun e => absurd rfl e⟩) (fun s3 f3 z l => ⟨inI_1, fun e => absurd e (by omega), fun _ => ?_⟩)
    · rintro _ rfl
      have g : ∀ K s' i j, ¬ (K = 5 ∨ (K = 0 ∧ (i = 1 ∨ i = 2)) ∨ ((K = 6 ∨ K = 10 ∨ K = 11) ∧ 4 ≤ i ∧ i < 12) ∨ K = 22 ∨ K = 23 ∨ K = 24 ∨ K = 25 ∨ (K = 7 ∧ (s' = 6 ∨ s' = 1)) ∨ K = 18 ∨ (K = 3 ∧ i = 1) ∨ (K = 20 ∧ 5 ≤ i ∧ i < 10) ∨ (K = 8 ∧ s' = 1)) → up s3 8 1 0 0 len K s' i j = st K s' i j := fun K s' i j hK => (up_ne (by omega)).trans ((f3 K s' i j (by omega)).trans ((f2 K s' i j (by omega)).trans (g1 K s' i j (by omega))))
      refine he (-7) len _ (kA.1 z) (fun K s' i j hK => g K s' i j (by omega)) (h.fr2 (fun K s' i j hK => g K s' i j (by omega))) ?_ (by rw [up_eq, if_pos ⟨rfl, rfl, rfl, rfl⟩])
      rw [up_ne (by omega), f3 7 1 0 0 (by omega), f2 7 1 0 0 (by omega)]
      exact e7
    · rintro _ rfl
      have g : ∀ K s' i j, ¬ (K = 5 ∨ (K = 0 ∧ (i = 1 ∨ i = 2)) ∨ ((K = 6 ∨ K = 10 ∨ K = 11) ∧ 4 ≤ i ∧ i < 12) ∨ K = 22 ∨ K = 23 ∨ K = 24 ∨ K = 25 ∨ (K = 7 ∧ (s' = 6 ∨ s' = 1)) ∨ K = 18 ∨ (K = 3 ∧ i = 1) ∨ (K = 20 ∧ 5 ≤ i ∧ i < 10) ∨ (K = 8 ∧ s' = 1)) → up s3 8 1 0 0 (-1) K s' i j = st K s' i j := fun K s' i j hK => (up_ne (by omega)).trans ((f3 K s' i j (by omega)).trans ((f2 K s' i j (by omega)).trans (g1 K s' i j (by omega))))
      have e8 : up s3 8 1 0 0 (-1) 8 1 0 0 = -1 := by rw [up_eq, if_pos ⟨rfl, rfl, rfl, rfl⟩]
      have e7' : up s3 8 1 0 0 (-1) 7 1 0 0 = 0 := by rw [up_ne (by omega), f3 7 1 0 0 (by omega), f2 7 1 0 0 (by omega)]; exact e7
      have b4 : BH (up s3 8 1 0 0 (-1)) 1 A' := b2.fr (fun K s' i j hK => (up_ne (by omega)).trans (f3 K s' i j (by omega)))
      refine W8_takeTrial (h.fr2 (fun K s' i j hK => g K s' i j (by omega))) b4 (hp.va h2 h3 z) (fun s5 f5 cs => ?_)
      have e2 : s5 6 2 (4 * 0) 0 = A' 2 := cs.2.1.2.2.1.2.1
      rw [e2]
      exact hk A' s5 (kA.2 z) ⟨hp.2.2.2.2.2.2.2.2.1, hp.2.1.1⟩ (fun K s' i j hK => (f5 K s' i j (by omega)).trans (g K s' i j (by omega))) cs ((f5 7 1 0 0 (by omega)).trans e7') ((f5 8 1 0 0 (by omega)).trans e8)
  · rintro _ rfl
    refine ⟨inI_0', fun _ => ?_, fun z => absurd rfl z⟩
    have e4 : up s 7 1 0 0 0 5 4 0 0 = p := (up_ne (by omega)).trans ep
    rw [e4]
    rintro _ rfl
    have e3 : up (up s 7 1 0 0 0) 8 1 0 0 p 5 3 0 0 = c := by rw [up_ne (by omega), up_ne (by omega)]; exact ec
    rw [e3]
    have g : ∀ K s' i j, ¬ (K = 5 ∨ (K = 0 ∧ i = 2) ∨ ((K = 6 ∨ K = 10 ∨ K = 11) ∧ 8 ≤ i ∧ i < 12) ∨ K = 22 ∨ K = 23 ∨ K = 24 ∨ K = 25 ∨ (K = 7 ∧ (s' = 6 ∨ s' = 1)) ∨ (K = 8 ∧ s' = 1)) → up (up s 7 1 0 0 0) 8 1 0 0 p K s' i j = st K s' i j := fun K s' i j hK => by
      rw [up_ne (by omega), up_ne (by omega)]
      exact f K s' i j (by omega)
    exact he c p _ e (fun K s' i j hK => g K s' i j (by omega)) (h.fr2 (fun K s' i j hK => g K s' i j (by omega))) (by rw [up_ne (by omega), up_eq, if_pos ⟨rfl, rfl, rfl, rfl⟩]) (by rw [up_eq, if_pos ⟨rfl, rfl, rfl, rfl⟩])
