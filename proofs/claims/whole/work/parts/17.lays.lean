/-! the model's reckons, common, lays -/
def lvA (A : Int → Int) (e x : Int) : Int := if e = 0 then 1 else if e = 1 then x else imax 0 (A (16 + e - 2) - x)
def plA (A : Int → Int) (sup x t : Int) : Int := if t = sup then x else A (6 + 2 * t)
def mxA (A : Int → Int) (sup x : Int) : Int → Int → Int := fun e t => if 0 ≤ e ∧ e < A 2 ∧ 0 ≤ t ∧ t < A 2 then lvA A e (plA A sup x t) else 0
def DA (A : Int → Int) (sup x : Int) : Int := dtn (mxA A sup x) (A 2)
/-- what the reckoning of forces asks of a beam -/
def VC (A : Int → Int) : Prop := 2 ≤ A 0 ∧ A 0 ≤ 30 ∧ 2 ≤ A 2 ∧ A 2 ≤ 5 ∧ (∀ t, 0 ≤ t → t < A 2 → 0 ≤ A (6 + 2 * t) ∧ A (6 + 2 * t) ≤ 30) ∧ ∀ h, 0 ≤ h → h < A 2 - 2 → 0 ≤ A (16 + h) ∧ A (16 + h) ≤ 30
theorem lvA_b {A : Int → Int} (hA : VC A) {e x : Int} (he : 0 ≤ e) (he2 : e < A 2) (hx : 0 ≤ x) (hx2 : x ≤ 30) : 0 ≤ lvA A e x ∧ lvA A e x ≤ 30 := by
  unfold lvA
  split
  · omega
  · split
    · omega
    · have := hA.2.2.2.2.2 (e - 2) (by omega) (by omega)
      rw [show 16 + (e - 2) = 16 + e - 2 by omega] at this
      unfold imax
      split <;> omega
theorem plA_b {A : Int → Int} (hA : VC A) {sup x t : Int} (hx : 0 ≤ x) (hx2 : x ≤ 30) (ht : 0 ≤ t) (ht2 : t < A 2) : 0 ≤ plA A sup x t ∧ plA A sup x t ≤ 30 := by
  unfold plA
  split
  · omega
  · exact hA.2.2.2.2.1 t ht ht2
theorem mxA_B {A : Int → Int} (hA : VC A) {sup x : Int} (hx : 0 ≤ x) (hx2 : x ≤ 30) : MB (mxA A sup x) := by
  intro i j
  unfold mxA
  split
  · rename_i h
    have h1 := plA_b hA (sup := sup) hx hx2 h.2.2.1 h.2.2.2
    have := lvA_b hA h.1 h.2.1 h1.1 h1.2
    omega
  · omega
theorem DA_b {A : Int → Int} (hA : VC A) {sup x : Int} (hx : 0 ≤ x) (hx2 : x ≤ 30) : -2916000000 ≤ DA A sup x ∧ DA A sup x ≤ 2916000000 := bdk_b4 (mxA_B hA hx hx2) _ _
abbrev aM (st : St) : Int → Int := fun j => st 30 0 0 j
theorem W9_lever {Q : Int → St → Prop} {st : St} {e x : Int} (hA : VC (aM st)) (he : 0 ≤ e) (he2 : e < st 30 0 0 2) (hx : 0 ≤ x) (hx2 : x ≤ 30) (h : Q (lvA (aM st) e x) st) : f9_lever Q st e x := by
  have hn := hA.2.2.2.1
  have hn : st 30 0 0 2 ≤ 5 := hn
  unfold f9_lever
  refine ⟨inI_s (by omega) (by omega), fun c => ?_, fun c => ⟨inI_s (by omega) (by omega), fun c2 => ⟨inI_s (by omega) (by omega), ?_⟩, fun c2 => ?_⟩⟩
  · unfold lvA at h; rwa [if_pos c] at h
  · unfold lvA at h; rwa [if_neg c, if_pos c2] at h
  · have hb := lvA_b hA he he2 hx hx2
    have hh := hA.2.2.2.2.2 (e - 2) (by omega) (by show e - 2 < st 30 0 0 2 - 2; omega)
    rw [show 16 + (e - 2) = 16 + e - 2 by omega] at hh
    have hh : 0 ≤ st 30 0 0 (16 + e - 2) ∧ st 30 0 0 (16 + e - 2) ≤ 30 := hh
    unfold lvA at h hb
    rw [if_neg c, if_neg c2] at h hb
    have hm : mlen 0 = 47 := by decide
    refine ⟨by omega, by omega, inI_s (by omega) (by omega), inI_s ?_ ?_, h⟩
    · exact Int.le_trans (by omega) hb.1
    · exact Int.le_trans hb.2 (by omega)
theorem mlen0 : mlen 0 = 47 := by decide
theorem W9_placeOf {Q : Int → St → Prop} {st : St} {t : Int} (h0 : 0 ≤ t) (h1 : t < 5) (h : Q (st 30 0 0 (6 + 2 * t)) st) : f9_placeOf Q st t := by
  unfold f9_placeOf
  have := mlen0
  exact ⟨by omega, by omega, h⟩
theorem W9_reckons {Q : Int → St → Prop} {st : St} {sup x : Int} (hA : VC (aM st)) (hs : -1 ≤ sup) (hs2 : sup < 5) (hx : 0 ≤ x) (hx2 : x ≤ 30) (h : ∀ s, F36 st s → Q (DA (aM st) sup x) s) : f9_reckons Q st sup x := by
  have hn2 : 2 ≤ st 30 0 0 2 := hA.2.2.1
  have hn5 : st 30 0 0 2 ≤ 5 := hA.2.2.2.1
  generalize hn : st 30 0 0 2 = n at hn2 hn5
  have hn : aM st 2 = n := hn
  -- the inner loop
  have In : ∀ (B10 : St → Int → Prop) (e : Int), 0 ≤ e → e < n → (∀ s, F36 st s → (∀ i j, 0 ≤ i → i < e + 1 → 0 ≤ j → j < n → sqM s n i j = mxA (aM st) sup x i j) → B10 s (e + 1)) →
      ∀ (m : Nat) (t : Int) (s : St), 0 ≤ t → t ≤ n → F36 st s → (∀ i j, 0 ≤ i → 0 ≤ j → j < n → (i < e ∨ (i = e ∧ j < t)) → sqM s n i j = mxA (aM st) sup x i j) → n - t < m → f9_reckons_l19 B10 Q sup x n e m s t := by
    intro B10 e he he2 hB m
    induction m with
    | zero => intro t s a1 a2 a3 a4 a5; omega
    | succ m ih =>
      intro t s a1 a2 a3 a4 a5
      have eA : aM s = aM st := by funext j; exact a3 30 0 0 j (by omega)
      have hAs : VC (aM s) := by rw [eA]; exact hA
      have en : s 30 0 0 2 = n := (congrFun eA 2).trans hn
      unfold f9_reckons_l19
      refine ⟨inI_s (by omega) (by omega), inI_s (by omega) (by omega), fun c => ?_, fun c => ⟨inI_s (by omega) (by omega), inI_s (by omega) (by omega), fun c2 => ?_, fun c2 => ?_⟩⟩
      · rintro _ rfl
        exact hB s a3 (fun i j i0 i1 j0 j1 => a4 i j i0 j0 j1 (by omega))
      · unfold f9_reckons_j55
        refine W9_lever hAs he (by omega) hx hx2 ?_
        have ib := ix_b hn2 hn5 he he2 a1 (show t < n by omega)
        refine ⟨ib.1, ib.2, ?_⟩
        rintro _ rfl _ rfl
        refine ih (t + 1) _ (by omega) (by omega) a3.up (fun i j i0 j0 j1 hc => ?_) (by omega)
        rw [sqM_up hn2 hn5 a1 (by omega) j0 j1]
        by_cases hij : i = e ∧ j = t
        · obtain ⟨rfl, rfl⟩ := hij
          rw [if_pos ⟨rfl, rfl⟩, eA]
          unfold mxA plA
          rw [hn, if_pos ⟨he, he2, a1, by omega⟩, if_pos c2]
        · rw [if_neg hij]
          exact a4 i j i0 j0 j1 (by omega)
      · refine W9_placeOf a1 (by omega) ?_
        unfold f9_reckons_j55
        have hp := hAs.2.2.2.2.1 t a1 (by show t < s 30 0 0 2; omega)
        refine W9_lever hAs he (by omega) hp.1 hp.2 ?_
        have ib := ix_b hn2 hn5 he he2 a1 (show t < n by omega)
        refine ⟨ib.1, ib.2, ?_⟩
        rintro _ rfl _ rfl
        refine ih (t + 1) _ (by omega) (by omega) a3.up (fun i j i0 j0 j1 hc => ?_) (by omega)
        rw [sqM_up hn2 hn5 a1 (by omega) j0 j1]
        by_cases hij : i = e ∧ j = t
        · obtain ⟨rfl, rfl⟩ := hij
          rw [if_pos ⟨rfl, rfl⟩]
          unfold mxA plA
          rw [hn, if_pos ⟨he, he2, a1, by omega⟩, if_neg c2]
          rw [eA]
          show lvA (aM st) i (aM s (6 + 2 * j)) = _
          rw [eA]
        · rw [if_neg hij]
          exact a4 i j i0 j0 j1 (by omega)
  have Out : ∀ (m : Nat) (e : Int) (s : St), 0 ≤ e → e ≤ n → F36 st s → (∀ i j, 0 ≤ i → i < e → 0 ≤ j → j < n → sqM s n i j = mxA (aM st) sup x i j) → n - e < m → f9_reckons_l10 Q sup x n m s e := by
    intro m
    induction m with
    | zero => intro e s a1 a2 a3 a4 a5; omega
    | succ m ih =>
      intro e s a1 a2 a3 a4 a5
      unfold f9_reckons_l10
      refine ⟨inI_s (by omega) (by omega), inI_s (by omega) (by omega), fun c => ?_, fun c => ?_⟩
      · have he : e = n := by omega
        subst he
        refine W9_determinant hn2 hn5 (mxA_B hA hx hx2 (sup := sup)) (fun i j i0 i1 j0 j1 => a4 i j i0 i1 j0 j1) (fun s' hs' => ?_)
        have := h s' (a3.trans hs')
        unfold DA at this
        rwa [hn] at this
      · exact ⟨100, In _ e a1 (by omega) (fun s' f1 f2 => ih (e + 1) s' (by omega) (by omega) f1 (fun i j i0 i1 j0 j1 => f2 i j i0 i1 j0 j1) (by omega)) 100 0 s (by omega) (by omega) a3 (fun i j i0 j0 j1 hc => a4 i j i0 (by omega) j0 j1) (by omega)⟩
  unfold f9_reckons
  rintro _ rfl
  have hn' : st 30 0 0 2 = n := hn
  rw [hn']
  exact ⟨100, Out 100 0 st (by omega) (by omega) F36.rf (fun i j i0 i1 j0 j1 => absurd i0 (by omega)) (by omega)⟩
