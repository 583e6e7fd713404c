/-! adding, the reference's side -/
theorem W9_adds {A : Int → Int} {n : Int} {B : Int → Int → Int} {F : Int → Int} {S : Int → Int → Int} {Q : St → Prop} {st : St} {i c w p : Int} (h : MS st A n B F S) (hc : 4 ≤ c) (hc2 : c ≤ 5) (hi : 19 ≤ i) (h0 : 0 ≤ A c) (h1 : i + 2 * A c + 1 < 47) (hV : VA (addA A i c w p))
    (hq : ∀ s, (∀ K s2 i j, ¬ (K = 30 ∧ i = 0) → s K s2 i j = st K s2 i j) → MS s (addA A i c w p) n B F S → Q s) : f9_adds Q st i c w p := by
  have m0 := mlen0
  have e0 : st 30 0 0 c = A c := congrFun h.1 c
  unfold f9_adds
  rw [e0]
  refine ⟨by omega, by omega, by omega, by omega, ?_⟩
  rintro _ rfl
  have e1 : up st 30 0 0 (i + 2 * A c) w 30 0 0 c = A c := (up_ne (by omega)).trans e0
  rw [e1]
  refine ⟨by omega, by omega, by omega, by omega, ?_⟩
  rintro _ rfl
  have e2 : up (up st 30 0 0 (i + 2 * A c) w) 30 0 0 (i + 2 * A c + 1) p 30 0 0 c = A c := (up_ne (by omega)).trans e1
  rw [e2]
  refine ⟨by omega, by omega, by omega, by omega, ?_⟩
  rintro _ rfl
  refine hq _ (fun K s2 i' j hK => by rw [up_ne (by omega), up_ne (by omega), up_ne (by omega)]) (h.to (fun K s2 i' j hK => by rw [up_ne (by omega), up_ne (by omega), up_ne (by omega)]) ?_ hV)
  funext j
  have eA : st 30 0 0 j = A j := congrFun h.1 j
  show up (up (up st 30 0 0 (i + 2 * A c) w) 30 0 0 (i + 2 * A c + 1) p) 30 0 0 c (A c + 1) 30 0 0 j = addA A i c w p j
  rw [up_eq, up_eq, up_eq]
  unfold addA
  by_cases q1 : j = c
  · rw [if_pos ⟨rfl, rfl, rfl, q1⟩, if_pos q1]
  · rw [if_neg (fun z => q1 z.2.2.2), if_neg q1]
    by_cases q2 : j = i + 2 * A c + 1
    · rw [if_pos ⟨rfl, rfl, rfl, q2⟩, if_pos q2]
    · rw [if_neg (fun z => q2 z.2.2.2), if_neg q2]
      by_cases q3 : j = i + 2 * A c
      · rw [if_pos ⟨rfl, rfl, rfl, q3⟩, if_pos q3]
      · rw [if_neg (fun z => q3 z.2.2.2), if_neg q3]
        exact eA
theorem W9_addLoad {A : Int → Int} {n : Int} {B : Int → Int → Int} {F : Int → Int} {S : Int → Int → Int} {Q : Int → St → Prop} {st : St} {a0 a1 : Int} (h : MS st A n B F S) (h0 : inI a0) (h1 : inI a1) (hx : ¬ (0 ≤ a1 ∧ a1 ≤ A 0) → ∀ s, FQ st s → s 9 6 0 0 = 1 → Q 0 s) (hy : 0 ≤ a1 ∧ a1 ≤ A 0 → ¬ (1 ≤ a0 ∧ a0 ≤ 999) → ∀ s, FQ st s → s 9 6 0 0 = 2 → Q 0 s)
    (hf : 0 ≤ a1 ∧ a1 ≤ A 0 → 1 ≤ a0 ∧ a0 ≤ 999 → A 4 = 8 → ∀ s, FQ st s → s 9 6 0 0 = 0 → Q (-13) s)
    (hq : 0 ≤ a1 ∧ a1 ≤ A 0 → 1 ≤ a0 ∧ a0 ≤ 999 → A 4 < 8 → ∀ s, FD st s → s 9 6 0 0 = 0 → MS s (addA A 19 4 a0 a1) (pushN n) (pushB n B A) F S → Q (A 4) s) : f9_addLoad Q st a0 a1 := by
  have h3 := h.2.2.1
  have hC := h.mr.1.1.1
  have bnd := h.2.1.1.1.2.2.2.1
  have e0 : st 30 0 0 0 = A 0 := congrFun h.1 0
  have ec : st 30 0 0 4 = A 4 := congrFun h.1 4
  have bad : ∀ c : Int, 0 < c → c ≤ 3 → (∀ s, FQ st s → s 9 6 0 0 = c → Q 0 s) → f9_addLoad_j29 Q a0 a1 st c := fun c c0 c3 k => by
    unfold f9_addLoad_j29
    exact gate (by omega) c3 (fun e => absurd e (by omega)) (fun _ => k _ (FQ.up6 h3) (by rw [up_eq, if_pos ⟨rfl, rfl, rfl, rfl⟩]))
  have J : 0 ≤ a1 ∧ a1 ≤ A 0 → 1 ≤ a0 ∧ a0 ≤ 999 → f9_addLoad_j29 Q a0 a1 st 0 := fun p1 p0 => by
    unfold f9_addLoad_j29
    refine gate (by omega) (by omega) (fun _ => ?_) (fun e => absurd e (by omega))
    have e6 : up st 9 6 0 0 0 9 6 0 0 = 0 := by rw [up_eq, if_pos ⟨rfl, rfl, rfl, rfl⟩]
    have e4 : up st 9 6 0 0 0 30 0 0 4 = A 4 := (up_ne (by omega)).trans ec
    rw [e4]
    refine ⟨inI_s (by omega) (by omega), fun q => hf p1 p0 q _ (FQ.up6 h3) e6, fun q => ?_⟩
    have hV := loadA_V (A := A) (w := a0) (p := a1) h.2.1 (show A 4 < 8 by omega) p0.1 p0.2 p1.1 p1.2
    refine W9_keeps0 (h.fq (FQ.up6 h3)) (fun s f k => ?_)
    refine W9_adds k (by omega) (by omega) (by omega) (by omega) (by omega) hV (fun s' f' k' => ?_)
    have e9 : s' 30 0 0 4 - 1 = A 4 := by
      have : s' 30 0 0 4 = addA A 19 4 a0 a1 4 := congrFun k'.1 4
      rw [addA_c] at this
      omega
    rw [e9]
    exact hq p1 p0 (by omega) s' (fun K s2 i j hK => (f' K s2 i j (by omega)).trans ((f K s2 i j (by omega)).trans (up_ne (by omega)))) ((f' 9 6 0 0 (by omega)).trans ((f 9 6 0 0 (by omega)).trans e6)) k'
  unfold f9_addLoad
  refine W9_isPlace hC h1 ?_
  rw [e0]
  by_cases c : 0 ≤ a1 ∧ a1 ≤ A 0
  · rw [if_pos c]
    refine ⟨inI_1, fun e => absurd e (by omega), fun _ => W9_isIn h0 inI_1 (inI_s (by omega) (by omega)) ?_⟩
    by_cases d : 1 ≤ a0 ∧ a0 ≤ 999
    · rw [if_pos d]
      exact ⟨inI_1, fun e => absurd e (by omega), fun _ => J c d⟩
    · rw [if_neg d]
      exact ⟨inI_0, fun _ => bad 2 (by omega) (by omega) (hy c d), fun e => absurd rfl e⟩
  · rw [if_neg c]
    exact ⟨inI_0, fun _ => bad 1 (by omega) (by omega) (hx c), fun e => absurd rfl e⟩
theorem W9_addAxle {A : Int → Int} {n : Int} {B : Int → Int → Int} {F : Int → Int} {S : Int → Int → Int} {Q : Int → St → Prop} {st : St} {a0 a1 : Int} (h : MS st A n B F S) (h0 : inI a0) (h1 : inI a1) (hy : ¬ (0 ≤ a1 ∧ a1 ≤ 30 ∧ 1 ≤ a0 ∧ a0 ≤ 999) → ∀ s, FQ st s → s 9 6 0 0 = 1 → Q 0 s)
    (hf : 0 ≤ a1 ∧ a1 ≤ 30 → 1 ≤ a0 ∧ a0 ≤ 999 → A 5 = 6 → ∀ s, FQ st s → s 9 6 0 0 = 0 → Q (-14) s)
    (hq : 0 ≤ a1 ∧ a1 ≤ 30 → 1 ≤ a0 ∧ a0 ≤ 999 → A 5 < 6 → ∀ s, FD st s → s 9 6 0 0 = 0 → MS s (addA A 35 5 a0 a1) (pushN n) (pushB n B A) F S → Q (A 5) s) : f9_addAxle Q st a0 a1 := by
  have h3 := h.2.2.1
  have hC := h.mr.1.1.1
  have bnd := h.2.1.1.1.2.2.2.2.1
  have e0 : st 30 0 0 0 = A 0 := congrFun h.1 0
  have ec : st 30 0 0 5 = A 5 := congrFun h.1 5
  have bad : ∀ c : Int, 0 < c → c ≤ 3 → (∀ s, FQ st s → s 9 6 0 0 = c → Q 0 s) → f9_addAxle_j27 Q a0 a1 st c := fun c c0 c3 k => by
    unfold f9_addAxle_j27
    exact gate (by omega) c3 (fun e => absurd e (by omega)) (fun _ => k _ (FQ.up6 h3) (by rw [up_eq, if_pos ⟨rfl, rfl, rfl, rfl⟩]))
  have J : 0 ≤ a1 ∧ a1 ≤ 30 → 1 ≤ a0 ∧ a0 ≤ 999 → f9_addAxle_j27 Q a0 a1 st 0 := fun p1 p0 => by
    unfold f9_addAxle_j27
    refine gate (by omega) (by omega) (fun _ => ?_) (fun e => absurd e (by omega))
    have e6 : up st 9 6 0 0 0 9 6 0 0 = 0 := by rw [up_eq, if_pos ⟨rfl, rfl, rfl, rfl⟩]
    have e4 : up st 9 6 0 0 0 30 0 0 5 = A 5 := (up_ne (by omega)).trans ec
    rw [e4]
    refine ⟨inI_s (by omega) (by omega), fun q => hf p1 p0 q _ (FQ.up6 h3) e6, fun q => ?_⟩
    have hV := axleA_V (A := A) (w := a0) (p := a1) h.2.1 (show A 5 < 6 by omega) p0.1 p0.2 p1.1 p1.2
    refine W9_keeps0 (h.fq (FQ.up6 h3)) (fun s f k => ?_)
    refine W9_adds k (by omega) (by omega) (by omega) (by omega) (by omega) hV (fun s' f' k' => ?_)
    have e9 : s' 30 0 0 5 - 1 = A 5 := by
      have : s' 30 0 0 5 = addA A 35 5 a0 a1 5 := congrFun k'.1 5
      rw [addA_c] at this
      omega
    rw [e9]
    exact hq p1 p0 (by omega) s' (fun K s2 i j hK => (f' K s2 i j (by omega)).trans ((f K s2 i j (by omega)).trans (up_ne (by omega)))) ((f' 9 6 0 0 (by omega)).trans ((f 9 6 0 0 (by omega)).trans e6)) k'
  unfold f9_addAxle
  have bad1 : ¬ (0 ≤ a1 ∧ a1 ≤ 30 ∧ 1 ≤ a0 ∧ a0 ≤ 999) → f9_addAxle_j26 Q a0 a1 st := fun q => bad 1 (by omega) (by omega) (hy q)
  refine W9_isIn h0 inI_1 (inI_s (by omega) (by omega)) ?_
  by_cases d : 1 ≤ a0 ∧ a0 ≤ 999
  · rw [if_pos d]
    refine ⟨inI_1, fun e => absurd e (by omega), fun _ => W9_isIn h1 inI_0 (inI_s (by omega) (by omega)) ?_⟩
    by_cases c : 0 ≤ a1 ∧ a1 ≤ 30
    · rw [if_pos c]
      exact ⟨inI_1, fun e => absurd e (by omega), fun _ => J c d⟩
    · rw [if_neg c]
      exact ⟨inI_0, fun _ => bad1 (by omega), fun e => absurd rfl e⟩
  · rw [if_neg d]
    exact ⟨inI_0, fun _ => bad1 (by omega), fun e => absurd rfl e⟩
