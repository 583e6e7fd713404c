/-! the reference reads tokens -/
theorem imin_mi (x : Int) : imin 10000000 x = mi7 x := by
  unfold mi7 imin
  split <;> split <;> omega
def kd9 (k : Int) : Int := if k = 0 then 3 else if k = 1 then 0 else if k = 2 then 1 else 2
def FRm (st st' : St) : Prop := ∀ K s i j, ¬ (K = 36 ∨ (K = 30 ∧ s = 0 ∧ i = 0 ∧ 0 ≤ j ∧ j < 47) ∨ (K = 9 ∧ (s = 9 ∨ s = 10 ∨ s = 11 ∨ s = 12 ∨ s = 13 ∨ s = 14))) → st' K s i j = st K s i j
theorem FRm.trans {a b c : St} (h : FRm a b) (g : FRm b c) : FRm a c := fun K s i j hK => (g K s i j hK).trans (h K s i j hK)
theorem TXm.fr {st st' : St} {n : Int} {T : Int → Int} (h : TXm st n T) (hf : ∀ K s i j, (K = 30 ∧ i = 4) ∨ (K = 9 ∧ s = 8) → st' K s i j = st K s i j) : TXm st' n T := ⟨(hf 9 8 0 0 (by omega)).trans h.1, fun j a b => (hf 30 0 4 j (by omega)).trans (h.2 j a b)⟩
def RD (st0 s : St) (T : Int → Int) (n : Int) (t : Nat) (A : Int → Int) : Prop := FRm st0 s ∧ TXm s n T ∧ s 9 13 0 0 = 0 ∧ aM s = A ∧ s 9 9 0 0 = tkS T n t ∧ s 9 10 0 0 = tkE T n (tkS T n t) ∧ s 9 11 0 0 = kd9 (kdT T n t) ∧ (kdT T n t = 2 → s 9 12 0 0 = vaT T n t)
def RX (st0 s : St) (T : Int → Int) (n : Int) (c p : Int) : Prop := FRm st0 s ∧ TXm s n T ∧ s 9 13 0 0 = c ∧ ¬ c = 0 ∧ inI c ∧ s 9 14 0 0 = p ∧ (0 ≤ s 9 9 0 0 ∧ s 9 9 0 0 ≤ n) ∧ inI (s 9 11 0 0)
section R9
variable {st0 s : St} {T : Int → Int} {n : Int} {t : Nat} {A : Int → Int} {E : Int → Int → Prop}
theorem W9_see {Q : Int → St → Prop} {k : Int} (hT : TXm s n T) (hn : 0 ≤ n) (hn2 : n ≤ 500) (h0 : 0 ≤ k) (h1 : k ≤ 1000) (hy : k < n → Q (T k) s) (hz : n ≤ k → Q (-1) s) : f9_see Q s k := by
  have m4 := mlen4
  unfold f9_see
  rw [hT.1]
  refine ⟨inI_s (by omega) (by omega), inI_s (by omega) (by omega), fun c => hz c, fun c => ⟨h0, by omega, ?_⟩⟩
  rw [hT.2 k h0 (by omega)]
  exact hy (by omega)
theorem W9_isL {Q : Int → St → Prop} {k : Int} (hT : TXm s n T) (hB : TB T n) (hn : 0 ≤ n) (hn2 : n ≤ 500) (h0 : 0 ≤ k) (h1 : k ≤ 1000) (hy : k < n → kdX (T k) = 1 → Q 1 s) (hz : ¬ (k < n ∧ kdX (T k) = 1) → Q 0 s) : f9_isLetter Q s k := by
  unfold f9_isLetter
  refine W9_see hT hn hn2 h0 h1 (fun c => ?_) (fun c => ?_)
  · have hb := hB k h0 c
    refine W9_isIn (inI_s (by omega) (by omega)) (inI_s (by omega) (by omega)) (inI_s (by omega) (by omega)) ?_
    by_cases d : 97 ≤ T k ∧ T k ≤ 122
    · rw [if_pos d]
      exact ⟨Or.inr rfl, hy c (by unfold kdX; rw [if_pos d])⟩
    · rw [if_neg d]
      exact ⟨Or.inl rfl, hz (fun q => d (of_decide_eq_true (kdX_L.2 q.2)))⟩
  · refine W9_isIn (inI_s (by omega) (by omega)) (inI_s (by omega) (by omega)) (inI_s (by omega) (by omega)) ?_
    rw [if_neg (by omega)]
    exact ⟨Or.inl rfl, hz (fun q => by omega)⟩
theorem W9_isD {Q : Int → St → Prop} {k : Int} (hT : TXm s n T) (hB : TB T n) (hn : 0 ≤ n) (hn2 : n ≤ 500) (h0 : 0 ≤ k) (h1 : k ≤ 1000) (hy : k < n → kdX (T k) = 2 → Q 1 s) (hz : ¬ (k < n ∧ kdX (T k) = 2) → Q 0 s) : f9_isDigit Q s k := by
  unfold f9_isDigit
  refine W9_see hT hn hn2 h0 h1 (fun c => ?_) (fun c => ?_)
  · have hb := hB k h0 c
    refine W9_isIn (inI_s (by omega) (by omega)) (inI_s (by omega) (by omega)) (inI_s (by omega) (by omega)) ?_
    by_cases d : 48 ≤ T k ∧ T k ≤ 57
    · rw [if_pos d]
      exact ⟨Or.inr rfl, hy c (kdX_D.1 (by unfold cD; exact decide_eq_true d))⟩
    · rw [if_neg d]
      exact ⟨Or.inl rfl, hz (fun q => d (of_decide_eq_true (kdX_D.2 q.2)))⟩
  · refine W9_isIn (inI_s (by omega) (by omega)) (inI_s (by omega) (by omega)) (inI_s (by omega) (by omega)) ?_
    rw [if_neg (by omega)]
    exact ⟨Or.inl rfl, hz (fun q => by omega)⟩
def kdN (T : Int → Int) (n q : Int) : Int := if q < n then kdX (T q) else 0
/-- only the look at the text has changed -/
def FNx (st st' : St) : Prop := ∀ K s i j, ¬ (K = 9 ∧ (s = 9 ∨ s = 10 ∨ s = 11 ∨ s = 12)) → st' K s i j = st K s i j
theorem scn_stop (c : Int → Bool) (T : Int → Int) (n : Int) : ∀ (m : Nat) (p : Int), n - p ≤ m → ¬ (scn c T n m p < n ∧ c (T (scn c T n m p)) = true) := by
  intro m
  induction m with
  | zero =>
    intro p h z
    have : scn c T n 0 p = p := rfl
    rw [this] at z
    omega
  | succ m ih =>
    intro p h
    unfold scn
    by_cases d : p < n ∧ c (T p) = true
    · rw [if_pos d]; exact ih (p + 1) (by omega)
    · rw [if_neg d]; exact d
theorem sc_stop (c : Int → Bool) (T : Int → Int) (n p : Int) : ¬ (sc c T n p < n ∧ c (T (sc c T n p)) = true) := scn_stop c T n _ p (by omega)
theorem FNx.trans {a b c : St} (h : FNx a b) (g : FNx b c) : FNx a c := fun K s i j hK => (g K s i j hK).trans (h K s i j hK)
theorem next_l77 {Q : St → Prop} {q : Int} (hT : TXm st0 n T) (hB : TB T n) (hn : 0 ≤ n) (hn2 : n ≤ 500) (q0 : 0 ≤ q) (h : ∀ s', FNx st0 s' → s' 9 9 0 0 = q → s' 9 10 0 0 = tkE T n q → s' 9 11 0 0 = 0 → Q s') : ∀ (f : Nat) (r : Int) (s : St), q ≤ r → r ≤ n → FNx st0 s → s 9 9 0 0 = q → s 9 10 0 0 = r → sc cL T n r = tkE T n q → n - r < f → f9_next_l77 Q f s := by
  intro f
  induction f with
  | zero => intro r s a1 a2 a3 a4 a5 a6 a7; omega
  | succ f ih =>
    intro r s a1 a2 a3 a4 a5 a6 a7
    have hTs := hT.fr (st' := s) (fun K s' i j hK => a3 K s' i j (by omega))
    unfold f9_next_l77
    rw [a5]
    refine W9_isL hTs hB hn hn2 (by omega) (by omega) (fun c d => ⟨inI_1, fun z => absurd z (by omega), fun _ => ?_⟩) (fun c => ⟨inI_0', fun _ => ?_, fun z => absurd rfl z⟩)
    · rw [a5]
      rintro _ rfl
      refine ih (r + 1) _ (by omega) (by omega) (fun K s' i j hK => (up_ne (by omega)).trans (a3 K s' i j hK)) ((up_ne (by omega)).trans a4) (by rw [up_eq, if_pos ⟨rfl, rfl, rfl, rfl⟩]) ?_ (by omega)
      rw [← a6]
      exact (sc_go c (kdX_L.2 d)).symm
    · rintro _ rfl
      refine h _ (fun K s' i j hK => (up_ne (by omega)).trans (a3 K s' i j hK)) ((up_ne (by omega)).trans a4) ?_ (by rw [up_eq, if_pos ⟨rfl, rfl, rfl, rfl⟩])
      rw [up_ne (by omega), a5, ← a6]
      exact (sc_no (fun z => c ⟨z.1, kdX_L.1 z.2⟩)).symm
theorem next_l120 {Q : St → Prop} {q : Int} (hT : TXm st0 n T) (hB : TB T n) (hn : 0 ≤ n) (hn2 : n ≤ 500) (q0 : 0 ≤ q) (h : ∀ s', FNx st0 s' → s' 9 9 0 0 = q → s' 9 10 0 0 = tkE T n q → s' 9 11 0 0 = 1 → s' 9 12 0 0 = vl T n q 0 → Q s') : ∀ (f : Nat) (r v : Int) (s : St), q ≤ r → r ≤ n → FNx st0 s → s 9 9 0 0 = q → s 9 10 0 0 = r → s 9 12 0 0 = v → 0 ≤ v → v ≤ 10000000 → sc cD T n r = tkE T n q → vl T n r v = vl T n q 0 → n - r < f → f9_next_l120 Q f s := by
  intro f
  induction f with
  | zero => intro r v s a1 a2 a3 a4 a5 a6 a7 a8 a9 b1 b2; omega
  | succ f ih =>
    intro r v s a1 a2 a3 a4 a5 a6 a7 a8 a9 b1 b2
    have hTs := hT.fr (st' := s) (fun K s' i j hK => a3 K s' i j (by omega))
    unfold f9_next_l120
    rw [a5]
    refine W9_isD hTs hB hn hn2 (by omega) (by omega) (fun c d => ⟨inI_1, fun z => absurd z (by omega), fun _ => ?_⟩) (fun c => ⟨inI_0', fun _ => ?_, fun z => absurd rfl z⟩)
    · rw [a5]
      have dd := kdX_52 d
      refine W9_see hTs hn hn2 (by omega) (by omega) (fun _ => ?_) (fun z => absurd c (by omega))
      rw [a6]
      refine ⟨inI_s (by omega) (by omega), ?_⟩
      rw [imin_mi, show 10 * v + T r - 48 = v * 10 + T r - 48 by omega]
      rintro _ rfl
      have e10 : up s 9 12 0 0 (mi7 (v * 10 + T r - 48)) 9 10 0 0 = r := (up_ne (by omega)).trans a5
      rw [e10]
      rintro _ rfl
      have mb := mi7_b (show 0 ≤ v * 10 + T r - 48 by omega)
      refine ih (r + 1) (mi7 (v * 10 + T r - 48)) _ (by omega) (by omega) (fun K s' i j hK => by rw [up_ne (by omega), up_ne (by omega)]; exact a3 K s' i j hK) (by rw [up_ne (by omega), up_ne (by omega)]; exact a4) (by rw [up_eq, if_pos ⟨rfl, rfl, rfl, rfl⟩]) (by rw [up_ne (by omega), up_eq, if_pos ⟨rfl, rfl, rfl, rfl⟩]) mb.1 mb.2 ?_ ?_ (by omega)
      · rw [← a9]
        exact (sc_go c (kdX_D.2 d)).symm
      · rw [← b1, vl_eq T n r v, if_pos ⟨c, kdX_D.2 d⟩]
    · rintro _ rfl
      refine h _ (fun K s' i j hK => (up_ne (by omega)).trans (a3 K s' i j hK)) ((up_ne (by omega)).trans a4) ?_ (by rw [up_eq, if_pos ⟨rfl, rfl, rfl, rfl⟩]) ?_
      · rw [up_ne (by omega), a5, ← a9]
        exact (sc_no (fun z => c ⟨z.1, kdX_D.1 z.2⟩)).symm
      · rw [up_ne (by omega), a6, ← b1, vl_eq, if_neg (fun z => c ⟨z.1, kdX_D.1 z.2⟩)]
theorem W9_next {Q : St → Prop} {b : Int} (hT : TXm s n T) (hB : TB T n) (hn : 0 ≤ n) (hn2 : n ≤ 500) (hb : s 9 10 0 0 = b) (b0 : 0 ≤ b) (b1 : b ≤ n)
    (h : ∀ s', FNx s s' → s' 9 9 0 0 = sc cP T n b → s' 9 10 0 0 = tkE T n (sc cP T n b) → s' 9 11 0 0 = kd9 (kdN T n (sc cP T n b)) → (kdN T n (sc cP T n b) = 2 → s' 9 12 0 0 = vl T n (sc cP T n b) 0) → Q s') : f9_next Q s := by
  have sb := sc_b cP T n b
  have sb2 := sb.2 b1
  have hns := sc_stop cP T n b
  have L8 : ∀ (f : Nat) (p : Int) (s1 : St), b ≤ p → p ≤ n → sc cP T n p = sc cP T n b → FNx s s1 → s1 9 9 0 0 = p → n - p < f → f9_next_l8 Q f s1 := by
    intro f
    induction f with
    | zero => intro p s1 a1 a2 a3 a4 a5 a6; omega
    | succ f ih =>
      intro p s1 a1 a2 a3 a4 a5 a6
      have hTs := hT.fr (st' := s1) (fun K s' i j hK => a4 K s' i j (by omega))
      have stop : p = sc cP T n b → ∀ st6 : St, st6 = up s1 9 10 0 0 (s1 9 9 0 0) → ∀ st7 : St, st7 = up st6 9 12 0 0 0 → inI (st7 9 9 0 0) ∧ inI (st7 9 8 0 0) ∧ ((st7 9 9 0 0 < st7 9 8 0 0 → f9_isLetter (fun z11 st12 => inI z11 ∧ ((z11 = 0 → f9_isDigit (fun z15 st16 => inI z15 ∧ ((z15 = 0 → ∀ st19 : St, st19 = up st16 9 10 0 0 ((st16 9 10 0 0) + 1) → ∀ st20 : St, st20 = up st19 9 11 0 0 2 → Q st20) ∧ (¬ z15 = 0 → ∃ k, f9_next_l120 Q k st16))) st12 (st12 9 9 0 0)) ∧ (¬ z11 = 0 → ∃ k, f9_next_l77 Q k st12))) st7 (st7 9 9 0 0)) ∧ (¬ st7 9 9 0 0 < st7 9 8 0 0 → ∀ st21 : St, st21 = up st7 9 11 0 0 3 → Q st21)) := fun eq => by
        rw [a5]
        rintro _ rfl _ rfl
        rw [← eq] at h hns
        generalize e7 : up (up s1 9 10 0 0 p) 9 12 0 0 0 = s7
        have f7 : FNx s s7 := fun K s' i j hK => by rw [← e7, up_ne (by omega), up_ne (by omega)]; exact a4 K s' i j hK
        have q9 : s7 9 9 0 0 = p := by rw [← e7, up_ne (by omega), up_ne (by omega)]; exact a5
        have q10 : s7 9 10 0 0 = p := by rw [← e7, up_ne (by omega), up_eq, if_pos ⟨rfl, rfl, rfl, rfl⟩]
        have q12 : s7 9 12 0 0 = 0 := by rw [← e7, up_eq, if_pos ⟨rfl, rfl, rfl, rfl⟩]
        have hT7 := hT.fr (st' := s7) (fun K s' i j hK => f7 K s' i j (by omega))
        rw [q9, hT7.1]
        refine ⟨inI_s (by omega) (by omega), inI_s (by omega) (by omega), fun c => ?_, fun c => ?_⟩
        · have ek : kdN T n p = kdX (T p) := if_pos c
          have et : tkE T n p = ctE T n (kdX (T p)) (p + 1) := if_neg (by omega)
          refine W9_isL hT7 hB hn hn2 (by omega) (by omega) (fun _ d => ⟨inI_1, fun z => absurd z (by omega), fun _ => ?_⟩) (fun d => ⟨inI_0', fun _ => ?_, fun z => absurd rfl z⟩)
          · refine ⟨1000, next_l77 (st0 := s) hT hB hn hn2 (by omega) (fun s' g1 g2 g3 g4 => h s' g1 g2 g3 (by rw [g4, ek, d]; rfl) (fun z => by rw [ek, d] at z; omega)) 1000 p s7 (Int.le_refl _) a2 f7 q9 q10 ?_ (by omega)⟩
            rw [et, d, sc_go c (kdX_L.2 d)]
            rfl
          · rw [q9]
            refine W9_isD hT7 hB hn hn2 (by omega) (by omega) (fun _ e => ⟨inI_1, fun z => absurd z (by omega), fun _ => ?_⟩) (fun e => ⟨inI_0', fun _ => ?_, fun z => absurd rfl z⟩)
            · refine ⟨1000, next_l120 (st0 := s) hT hB hn hn2 (by omega) (fun s' g1 g2 g3 g4 g5 => h s' g1 g2 g3 (by rw [g4, ek, e]; rfl) (fun _ => g5)) 1000 p 0 s7 (Int.le_refl _) a2 f7 q9 q10 q12 (by omega) (by omega) ?_ rfl (by omega)⟩
              rw [et, e, sc_go c (kdX_D.2 e)]
              rfl
            · rw [q10]
              rintro _ rfl _ rfl
              have kb := kdX_b (T p)
              have n1 : ¬ kdX (T p) = 1 := fun z => d ⟨c, z⟩
              have n2 : ¬ kdX (T p) = 2 := fun z => e ⟨c, z⟩
              refine h _ (fun K s' i j hK => by rw [up_ne (by omega), up_ne (by omega)]; exact f7 K s' i j hK) (by rw [up_ne (by omega), up_ne (by omega)]; exact q9) ?_ ?_ (fun z => absurd (ek.symm.trans z) n2)
              · rw [up_ne (by omega), up_eq, if_pos ⟨rfl, rfl, rfl, rfl⟩, et]
                unfold ctE
                rw [if_neg n1, if_neg n2]
              · rw [up_eq, if_pos ⟨rfl, rfl, rfl, rfl⟩, ek]
                unfold kd9
                rw [if_neg (by omega), if_neg n1, if_neg n2]
        · rintro _ rfl
          have ek : kdN T n p = 0 := if_neg c
          refine h _ (fun K s' i j hK => (up_ne (by omega)).trans (f7 K s' i j hK)) ((up_ne (by omega)).trans q9) ?_ (by rw [up_eq, if_pos ⟨rfl, rfl, rfl, rfl⟩, ek]; rfl) (fun z => absurd (ek.symm.trans z) (by omega))
          rw [up_ne (by omega), q10]
          exact (if_pos (by omega)).symm
      unfold f9_next_l8
      rw [a5]
      refine W9_see hTs hn hn2 (by omega) (by omega) (fun c => ?_) (fun c => ?_)
      · have hb' := hB p (by omega) c
        refine ⟨inI_s (by omega) (by omega), fun d => ?_, fun d => ?_⟩
        · rw [a5]
          rintro _ rfl
          refine ih (p + 1) _ (by omega) (by omega) ?_ (fun K s' i j hK => (up_ne (by omega)).trans (a4 K s' i j hK)) (by rw [up_eq, if_pos ⟨rfl, rfl, rfl, rfl⟩]) (by omega)
          rw [← a3]
          exact (sc_go c (by unfold cP; exact decide_eq_true d)).symm
        · exact stop (by rw [← a3]; exact (sc_no (fun z => d (of_decide_eq_true z.2))).symm)
      · exact ⟨inI_s (by omega) (by omega), fun d => absurd d (by omega), fun _ => stop (by rw [← a3]; exact (sc_no (fun z => by omega)).symm)⟩
  unfold f9_next
  rw [hb]
  rintro _ rfl
  exact ⟨1000, L8 1000 b _ (Int.le_refl _) b1 rfl (fun K s' i j hK => up_ne (by omega)) (by rw [up_eq, if_pos ⟨rfl, rfl, rfl, rfl⟩]) (by omega)⟩
theorem RD.nx {Q : St → Prop} (hB : TB T n) (hn : 0 ≤ n) (hn2 : n ≤ 500) (h : RD st0 s T n t A) (hq : ∀ s', RD st0 s' T n (t + 1) A → Q s') : f9_next Q s := by
  obtain ⟨h1, h2, h3, h4, h5, h6, h7, h8⟩ := h
  have tb := tkS_b (T := T) hn t
  have te := tkE_b (T := T) tb.2
  refine W9_next h2 hB hn hn2 h6 (by omega) te.2.1 (fun s' f g1 g2 g3 g4 => hq s' ⟨fun K s2 i j hK => (f K s2 i j (by omega)).trans (h1 K s2 i j hK), h2.fr (fun K s2 i j hK => f K s2 i j (by omega)), (f 9 13 0 0 (by omega)).trans h3, ?_, g1, g2, g3, g4⟩)
  rw [← h4]
  funext j
  exact f 30 0 0 j (by omega)
theorem W9_fails {Q : St → Prop} {c : Int} (hc : ¬ c = 0) (ic : inI c) (hn : 0 ≤ n) (h : RD st0 s T n t A) (hq : ∀ s', RX st0 s' T n c (tkS T n t) → Q s') : f9_fails Q s c := by
  obtain ⟨h1, h2, h3, h4, h5, h6, h7, h8⟩ := h
  have tb := tkS_b (T := T) hn t
  unfold f9_fails
  rw [h3]
  refine ⟨inI_0', fun _ => ?_, fun z => absurd rfl z⟩
  rintro _ rfl
  have e9 : up s 9 13 0 0 c 9 9 0 0 = tkS T n t := (up_ne (by omega)).trans h5
  rw [e9]
  rintro _ rfl
  refine hq _ ⟨fun K s2 i j hK => by rw [up_ne (by omega), up_ne (by omega)]; exact h1 K s2 i j hK, h2.fr (fun K s2 i j hK => by rw [up_ne (by omega), up_ne (by omega)]), by rw [up_ne (by omega), up_eq, if_pos ⟨rfl, rfl, rfl, rfl⟩], hc, ic, by rw [up_eq, if_pos ⟨rfl, rfl, rfl, rfl⟩], ?_, ?_⟩
  · rw [up_ne (by omega), up_ne (by omega), h5]
    exact tb
  · rw [up_ne (by omega), up_ne (by omega), h7]
    unfold kd9
    repeat' split
    all_goals exact inI_s (by omega) (by omega)
end R9
section X9
variable {st0 s : St} {T : Int → Int} {n c p : Int}
theorem X_fails {Q : St → Prop} {a : Int} (h : RX st0 s T n c p) (hq : Q s) : f9_fails Q s a := by
  obtain ⟨h1, h2, h3, h4, h5, h6, h7, h8⟩ := h
  unfold f9_fails
  rw [h3]
  exact ⟨h5, fun z => absurd z h4, fun _ => hq⟩
theorem X_isWord {Q : Int → St → Prop} {w : Nat} (h : RX st0 s T n c p) (hq : Q 0 s) : f9_isWord w Q s := by
  obtain ⟨h1, h2, h3, h4, h5, h6, h7, h8⟩ := h
  unfold f9_isWord
  rw [h3]
  exact ⟨h5, fun z => absurd z h4, fun _ => hq⟩
theorem X_must {Q : St → Prop} {a : Int} (ha : inI a) (h : RX st0 s T n c p) (hq : Q s) : f9_must Q s a := by
  have J : f9_must_j10 Q s := by
    obtain ⟨h1, h2, h3, h4, h5, h6, h7, h8⟩ := h
    unfold f9_must_j10
    rw [h3]
    exact ⟨h5, fun z => absurd z h4, fun _ => hq⟩
  unfold f9_must
  exact ⟨ha, fun _ => X_fails h J, fun _ => J⟩
theorem X_stands {Q : Int → St → Prop} {a b : Int} (h : RX st0 s T n c p) (hq : Q 0 s) : f9_stands Q s a b := by
  obtain ⟨h1, h2, h3, h4, h5, h6, h7, h8⟩ := h
  unfold f9_stands f9_stands_j21 f9_stands_j46
  rw [h3]
  exact ⟨h5, fun z => absurd z h4, fun _ => ⟨h5, fun z => absurd z h4, fun _ => ⟨h5, fun z => absurd z h4, fun _ => hq⟩⟩⟩
theorem X_takes {Q : Int → St → Prop} {a b : Int} (h : RX st0 s T n c p) (hq : Q 0 s) : f9_takes Q s a b := by
  unfold f9_takes
  refine X_stands h ?_
  obtain ⟨h1, h2, h3, h4, h5, h6, h7, h8⟩ := h
  rw [h3]
  exact ⟨h5, fun z => absurd z h4, fun _ => hq⟩
theorem X_takesPlace {Q : Int → St → Prop} {a b : Int} (h : RX st0 s T n c p) (hq : Q 0 s) : f9_takesPlace Q s a b := by
  unfold f9_takesPlace
  refine X_stands h ?_
  obtain ⟨h1, h2, h3, h4, h5, h6, h7, h8⟩ := h
  unfold f9_takesPlace_j38
  rw [h3]
  exact ⟨h5, fun z => absurd z h4, fun _ => ⟨h5, fun z => absurd z h4, fun _ => hq⟩⟩
theorem X_mustEnd {Q : St → Prop} (hB : TB T n) (hn : 0 ≤ n) (hn2 : n ≤ 500) (h : RX st0 s T n c p) (hq : Q s) : f9_mustEnd Q s := by
  have j1 : f9_mustEnd_j27 Q s 1 := by unfold f9_mustEnd_j27; exact X_must inI_1 h hq
  have j0 : f9_mustEnd_j26 Q s := by unfold f9_mustEnd_j26 f9_mustEnd_j27; exact X_must inI_0' h hq
  obtain ⟨h1, h2, h3, h4, h5, h6, h7, h8⟩ := h
  unfold f9_mustEnd
  refine ⟨h8, fun _ => ?_, fun _ => j0⟩
  refine W9_see h2 hn hn2 h7.1 (by omega) (fun d => ?_) (fun d => ?_)
  · have hb := hB _ h7.1 d
    exact ⟨inI_s (by omega) (by omega), fun _ => j1, fun _ => j0⟩
  · exact ⟨inI_s (by omega) (by omega), fun _ => j1, fun _ => j0⟩
end X9
