/-! the class splits the text -/
def FSp (st st' : St) : Prop := ∀ K s i j, ¬ (K = 22 ∨ K = 23 ∨ K = 24 ∨ K = 25 ∨ (K = 7 ∧ s = 6)) → st' K s i j = st K s i j
theorem FSp.trans {a b c : St} (h : FSp a b) (g : FSp b c) : FSp a c := fun K s i j hK => (g K s i j hK).trans (h K s i j hK)
theorem TXc.fr {st st' : St} {n : Int} {T : Int → Int} (h : TXc st n T) (hf : ∀ K s i j, K = 21 ∨ (K = 7 ∧ s = 1) → st' K s i j = st K s i j) : TXc st' n T := ⟨(hf 7 1 0 0 (by omega)).trans h.1, fun j a b => (hf 21 0 0 j (by omega)).trans (h.2 j a b)⟩
theorem TOK.fr {st st' : St} {T : Int → Int} {n : Int} {i : Nat} (h : TOK st T n i) (hf : ∀ K, K = 22 ∨ K = 23 ∨ K = 24 ∨ K = 25 → st' K 0 0 i = st K 0 0 i) : TOK st' T n i := ⟨h.1, (hf 22 (by omega)).trans h.2.1, (hf 23 (by omega)).trans h.2.2.1, (hf 24 (by omega)).trans h.2.2.2.1, fun k => (hf 25 (by omega)).trans (h.2.2.2.2 k)⟩
theorem mi7_b {x : Int} (h : 0 ≤ x) : 0 ≤ mi7 x ∧ mi7 x ≤ 10000000 := by
  unfold mi7 imin
  split <;> omega
theorem kdX_52 {b : Int} (h : kdX b = 2) : 48 ≤ b ∧ b ≤ 57 := of_decide_eq_true (kdX_D.2 h)
theorem W7_lengthen {Q : St → Prop} {st : St} {l p n : Int} {T : Int → Int} (hT : TXc st n T) (hn : 0 ≤ n) (hn2 : n ≤ 500) (hm : st 7 6 0 0 = l + 1) (l0 : 0 ≤ l) (l1 : l < 500) (p0 : 0 ≤ p) (p1 : p < n) (hk : inI (st 22 0 0 l)) (hv : st 22 0 0 l = 2 → (0 ≤ st 25 0 0 l ∧ st 25 0 0 l ≤ 10000000) ∧ 48 ≤ T p ∧ T p ≤ 57)
    (h : ∀ s, FSp st s → s 7 6 0 0 = l + 1 → (∀ K s' i j, ¬ ((K = 24 ∨ K = 25) ∧ s' = 0 ∧ i = 0 ∧ j = l) → s K s' i j = st K s' i j) → s 24 0 0 l = p + 1 → (st 22 0 0 l = 2 → s 25 0 0 l = mi7 (st 25 0 0 l * 10 + T p - 48)) → Q s) : f7_lengthenToken Q st p := by
  unfold f7_lengthenToken
  rw [hm, show l + 1 - 1 = l by omega]
  intro x1 ex1
  rw [ex1]
  refine W7_has hm (by omega) (by omega) l0 (by omega) (fun _ => ⟨inI_1, fun e => absurd e (by omega), fun _ => ⟨l0, l1, ?_⟩⟩) (fun e => absurd e (by omega))
  rintro _ rfl
  have e22 : up st 24 0 0 l (p + 1) 22 0 0 l = st 22 0 0 l := up_ne (by omega)
  have e25 : up st 24 0 0 l (p + 1) 25 0 0 l = st 25 0 0 l := up_ne (by omega)
  rw [e22, e25]
  refine ⟨l0, l1, hk, fun c => ⟨l0, l1, ?_⟩, fun c => ?_⟩
  · have v := hv c
    refine W7_byteAt (hT.fr (fun K s i j hK => up_ne (by omega))) hn hn2 p0 p1 ⟨inI_s (by omega) (by omega), l0, l1, ?_⟩
    rintro _ rfl
    refine h _ (fun K s i j hK => by rw [up_ne (by omega), up_ne (by omega)]) (by rw [up_ne (by omega), up_ne (by omega)]; exact hm) (fun K s i j hK => by rw [up_ne (by omega), up_ne (by omega)]) (by rw [up_ne (by omega), up_eq, if_pos ⟨rfl, rfl, rfl, rfl⟩]) (fun _ => by rw [up_eq, if_pos ⟨rfl, rfl, rfl, rfl⟩]; rfl)
  · exact h _ (fun K s i j hK => up_ne (by omega)) ((up_ne (by omega)).trans hm) (fun K s i j hK => up_ne (by omega)) (by rw [up_eq, if_pos ⟨rfl, rfl, rfl, rfl⟩]) (fun e => absurd e c)
theorem W7_start {Q : St → Prop} {st : St} {m k p : Int} (hm : st 7 6 0 0 = m) (m0 : 0 ≤ m) (m1 : m < 500)
    (h : ∀ s, FSp st s → s 7 6 0 0 = m + 1 → (∀ K s' i j, ¬ (((K = 22 ∨ K = 23 ∨ K = 25) ∧ s' = 0 ∧ i = 0 ∧ j = m) ∨ (K = 7 ∧ s' = 6)) → s K s' i j = st K s' i j) → s 22 0 0 m = k → s 23 0 0 m = p → s 25 0 0 m = 0 → Q s) : f7_startToken Q st k p := by
  unfold f7_startToken
  rw [hm]
  refine ⟨inI_s (by omega) (by omega), fun c => absurd c (by omega), fun _ => ⟨m0, m1, ?_⟩⟩
  rintro _ rfl
  have e1 : up st 22 0 0 m k 7 6 0 0 = m := (up_ne (by omega)).trans hm
  rw [e1]
  refine ⟨m0, m1, ?_⟩
  rintro _ rfl
  have e2 : up (up st 22 0 0 m k) 23 0 0 m p 7 6 0 0 = m := (up_ne (by omega)).trans e1
  rw [e2]
  refine ⟨m0, m1, ?_⟩
  rintro _ rfl
  have e3 : up (up (up st 22 0 0 m k) 23 0 0 m p) 25 0 0 m 0 7 6 0 0 = m := (up_ne (by omega)).trans e2
  rw [e3]
  rintro _ rfl
  refine h _ (fun K s i j hK => by rw [up_ne (by omega), up_ne (by omega), up_ne (by omega), up_ne (by omega)]) (by rw [up_eq, if_pos ⟨rfl, rfl, rfl, rfl⟩]) (fun K s i j hK => by rw [up_ne (by omega), up_ne (by omega), up_ne (by omega), up_ne (by omega)]) ?_ ?_ ?_
  · rw [up_ne (by omega), up_ne (by omega), up_ne (by omega), up_eq, if_pos ⟨rfl, rfl, rfl, rfl⟩]
  · rw [up_ne (by omega), up_ne (by omega), up_eq, if_pos ⟨rfl, rfl, rfl, rfl⟩]
  · rw [up_ne (by omega), up_eq, if_pos ⟨rfl, rfl, rfl, rfl⟩]
/-- p bytes are split, the last of kind kb -/
def SPI (s : St) (T : Int → Int) (n p kb : Int) (m : Nat) : Prop := s 7 6 0 0 = m ∧ (m : Int) ≤ p ∧ ((kb = 5 ∧ (∀ i, i < m → TOK s T n i) ∧ tkS T n m = sc cP T n p) ∨ ((1 ≤ kb ∧ kb ≤ 4) ∧ ∃ l : Nat, m = l + 1 ∧ (∀ i, i < l → TOK s T n i) ∧ tkS T n l < n ∧ s 22 0 0 l = kb ∧ kdX (T (tkS T n l)) = kb ∧ s 23 0 0 l = tkS T n l ∧ s 24 0 0 l = p ∧ tkE T n (tkS T n l) = ctE T n kb p ∧ (kb = 2 → vl T n (tkS T n l) 0 = vl T n p (s 25 0 0 l) ∧ 0 ≤ s 25 0 0 l ∧ s 25 0 0 l ≤ 10000000)))
theorem ctE_no {T : Int → Int} {n p kb : Int} (hc : ¬ (p < n ∧ kdX (T p) = kb ∧ (kb = 1 ∨ kb = 2))) : ctE T n kb p = p := by
  unfold ctE
  by_cases c1 : kb = 1
  · rw [if_pos c1, sc_no (fun q => hc ⟨q.1, (kdX_L.1 q.2).trans c1.symm, Or.inl c1⟩)]
  · rw [if_neg c1]
    by_cases c2 : kb = 2
    · rw [if_pos c2, sc_no (fun q => hc ⟨q.1, (kdX_D.1 q.2).trans c2.symm, Or.inr c2⟩)]
    · rw [if_neg c2]
theorem vl_no {T : Int → Int} {n p v : Int} (hc : ¬ (p < n ∧ kdX (T p) = 2)) : vl T n p v = v := by
  rw [vl_eq, if_neg (fun q => hc ⟨q.1, kdX_D.1 q.2⟩)]
theorem SPI.cl {s : St} {T : Int → Int} {n p kb : Int} {m : Nat} (h : SPI s T n p kb m) (hc : ¬ (p < n ∧ kdX (T p) = kb ∧ (kb = 1 ∨ kb = 2))) : (∀ i, i < m → TOK s T n i) ∧ tkS T n m = sc cP T n p := by
  obtain ⟨h1, h2, h3⟩ := h
  rcases h3 with ⟨_, a, b⟩ | ⟨hk, l, e, a, b1, b2, b3, b4, b5, b6, b7⟩
  · exact ⟨a, b⟩
  · rw [ctE_no hc] at b6
    subst e
    refine ⟨fun i hi => ?_, ?_⟩
    · by_cases d : i = l
      · subst d
        refine ⟨b1, b2.trans b3.symm, b4, b5.trans b6.symm, fun k => ?_⟩
        have k2 : kb = 2 := b3.symm.trans k
        have := (b7 k2).1
        rw [vl_no (fun q => hc ⟨q.1, q.2.trans k2.symm, Or.inr k2⟩)] at this
        exact this.symm
      · exact a i (by omega)
    · show sc cP T n (tkE T n (tkS T n l)) = sc cP T n p
      rw [b6]
theorem W7_split {Q : St → Prop} {st : St} {n : Int} {T : Int → Int} (hT : TXc st n T) (hn : 0 ≤ n) (hn2 : n ≤ 500) (hB : TB T n) (h : ∀ s m, FSp st s → TKS s T n m → Q s) : f7_split Q st := by
  have L : ∀ (f : Nat) (p kb : Int) (m : Nat) (s : St), 0 ≤ p → p ≤ n → FSp st s → SPI s T n p kb m → n - p < f → f7_split_l9 Q f s kb p := by
    intro f
    induction f with
    | zero => intro p kb m s a1 a2 a3 a4 a5; omega
    | succ f ih =>
      intro p kb m s a1 a2 a3 a4 a5
      have hTs := hT.fr (st' := s) (fun K s' i j hK => a3 K s' i j (by omega))
      have ikb : inI kb := by
        rcases a4.2.2 with z | z
        · exact inI_s (by omega) (by omega)
        · exact inI_s (by omega) (by omega)
      unfold f7_split_l9
      rw [hTs.1]
      refine ⟨inI_s (by omega) (by omega), inI_s (by omega) (by omega), fun c => ?_, fun c => ?_⟩
      · have e : p = n := by omega
        have k := a4.cl (fun q => by omega)
        refine h s m a3 ⟨a4.1, by have := a4.2.1; omega, ?_, k.1⟩
        rw [k.2, e]
        exact sc_no (fun q => by omega)
      · have pn : p < n := by omega
        have hb := hB p a1 pn
        have hkb := kdX_b (T p)
        refine W7_byteAt hTs hn hn2 a1 pn (W7_kindOfByte (inI_s (by omega) (by omega)) ⟨inI_s (by omega) (by omega), ikb, ?_⟩)
        generalize hk : kdX (T p) = k at hkb
        have ik : inI k := inI_s (by omega) (by omega)
        have go : k = kb → (kb = 1 ∨ kb = 2) → f7_split_j41 (fun st v1x9 v2x9 => f7_split_l9 Q f st v1x9 v2x9) Q s p k := fun e1 e2 => by
          unfold f7_split_j41 f7_split_j46
          refine ⟨inI_1, fun z => absurd z (by omega), fun _ => ?_⟩
          unfold f7_split_j64
          refine ⟨ik, fun z => absurd z (by omega), fun _ => ?_⟩
          obtain ⟨h1, h2, h3⟩ := a4
          rcases h3 with ⟨z, _, _⟩ | ⟨hk4, l, e, a, b1, b2, b3, b4, b5, b6, b7⟩
          · omega
          · subst e
            refine W7_lengthen (l := (l : Int)) hTs hn hn2 (by rw [h1]; omega) (by omega) (by omega) a1 pn (by rw [b2]; exact ikb) (fun z => ⟨(b7 (b2.symm.trans z)).2, kdX_52 (by rw [hk, e1, ← b2]; exact z)⟩) (fun s2 f2 g1 g2 g3 g4 => ?_)
            unfold f7_split_j74
            rintro _ rfl
            have ne : ∀ i : Nat, i < l → ∀ K, K = 22 ∨ K = 23 ∨ K = 24 ∨ K = 25 → s2 K 0 0 i = s K 0 0 i := fun i hi K hK => g2 K 0 0 i (by omega)
            refine ih (p + 1) k (l + 1) s2 (by omega) (by omega) (a3.trans f2) ⟨by rw [g1]; omega, by omega, Or.inr ⟨by omega, l, rfl, fun i hi => (a i hi).fr (ne i hi), b1, ?_, b3.trans e1.symm, ?_, g3, ?_, fun k2 => ?_⟩⟩ (by omega)
            · rw [g2 22 0 0 l (by omega), b2, e1]
            · rw [g2 23 0 0 l (by omega), b4]
            · rw [b6, e1]
              unfold ctE
              rcases e2 with e2 | e2
              · rw [if_pos e2, if_pos e2]
                exact sc_go pn (kdX_L.2 (by rw [hk, e1, e2]))
              · have n1 : ¬ kb = 1 := by omega
                rw [if_neg n1, if_pos e2, if_neg n1, if_pos e2]
                exact sc_go pn (kdX_D.2 (by rw [hk, e1, e2]))
            · have kb2 : kb = 2 := e1.symm.trans k2
              have y := b7 kb2
              have d := kdX_52 (hk.trans k2)
              rw [g4 (b2.trans kb2), y.1, vl_eq, if_pos ⟨pn, kdX_D.2 (hk.trans k2)⟩]
              have := mi7_b (show 0 ≤ s 25 0 0 l * 10 + T p - 48 by omega)
              exact ⟨rfl, this⟩
        have st0 : ¬ (k = kb ∧ (kb = 1 ∨ kb = 2)) → f7_split_j45 (fun st v1x9 v2x9 => f7_split_l9 Q f st v1x9 v2x9) Q s p k := fun ng => by
          have cl := a4.cl (fun q => ng ⟨hk.symm.trans q.2.1, q.2.2⟩)
          have m5 : (m : Int) ≤ p := a4.2.1
          unfold f7_split_j45 f7_split_j46
          refine ⟨inI_0', fun _ => ⟨ik, fun z => ?_, fun z => ?_⟩, fun z => absurd rfl z⟩
          · unfold f7_split_j64
            refine ⟨ik, fun _ => ?_, fun y => absurd z y⟩
            unfold f7_split_j74
            rintro _ rfl
            refine ih (p + 1) k m s (by omega) (by omega) a3 ⟨a4.1, by omega, Or.inl ⟨z, cl.1, ?_⟩⟩ (by omega)
            rw [cl.2]
            exact sc_go pn (kdX_P.2 (hk.trans z))
          · have es : tkS T n m = p := by
              rw [cl.2]
              exact sc_no (fun q => z (hk.symm.trans (kdX_P.1 q.2)))
            refine W7_start (m := (m : Int)) a4.1 (by omega) (by omega) (fun s2 f2 g1 g2 g3 g4 g5 => ?_)
            unfold f7_split_j64
            refine ⟨ik, fun y => absurd y z, fun _ => ?_⟩
            have hT2 := hTs.fr (st' := s2) (fun K s' i j hK => f2 K s' i j (by omega))
            refine W7_lengthen (l := (m : Int)) hT2 hn hn2 g1 (by omega) (by omega) a1 pn (by rw [g3]; exact ik) (fun y => ⟨by rw [g5]; omega, kdX_52 (by rw [hk, ← g3]; exact y)⟩) (fun s3 f3 q1 q2 q3 q4 => ?_)
            unfold f7_split_j74
            rintro _ rfl
            refine ih (p + 1) k (m + 1) s3 (by omega) (by omega) ((a3.trans f2).trans f3) ⟨by rw [q1]; omega, by omega, Or.inr ⟨by omega, m, rfl, fun i hi => (cl.1 i hi).fr (fun K hK => (q2 K 0 0 i (by omega)).trans (g2 K 0 0 i (by omega))), by omega, ?_, by rw [es]; exact hk, ?_, q3, ?_, fun k2 => ?_⟩⟩ (by omega)
            · rw [q2 22 0 0 m (by omega), g3]
            · rw [q2 23 0 0 m (by omega), g4, es]
            · rw [es]
              unfold tkE
              rw [if_neg (by omega), hk]
            · have d := kdX_52 (hk.trans k2)
              rw [q4 (g3.trans k2), g5, es, vl_eq, if_pos ⟨pn, kdX_D.2 (hk.trans k2)⟩]
              have := mi7_b (show 0 ≤ 0 * 10 + T p - 48 by omega)
              exact ⟨rfl, this⟩
        refine ⟨fun e => ⟨ik, fun e1 => go e (Or.inl (by omega)), fun e1 => ⟨ik, fun e2 => go e (Or.inr (by omega)), fun e2 => st0 (fun q => by omega)⟩⟩, fun e => st0 (fun q => e q.1)⟩
  unfold f7_split
  rintro _ rfl
  refine ⟨1000, L 1000 0 5 0 _ (by omega) hn (fun K s i j hK => up_ne (by omega)) ⟨by rw [up_eq, if_pos ⟨rfl, rfl, rfl, rfl⟩]; rfl, by omega, Or.inl ⟨rfl, fun i hi => absurd hi (by omega), rfl⟩⟩ (by omega)⟩
