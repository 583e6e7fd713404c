/-! the law from its entry -/
theorem off9_lt (K : Nat) (i : Int) : off9 K i < 11 := by
  unfold off9
  repeat' split
  all_goals omega
theorem S_trans {A B : Nat → Prop} {H0 H H1 : Heap} {locs : List Loc} (h : va_S A H0 H []) (h1 : va_S B H H1 locs) (hBA : ∀ a, B a → A a) : va_S A H0 H1 locs :=
  ⟨Nat.le_trans h.1 h1.1, fun a l n => (h1.2.1 a (Nat.lt_of_lt_of_le l h.1) (fun z => n (hBA a z))).trans (h.2.1 a l n), fun x hx => hBA _ (h1.2.2 x hx)⟩
theorem noO_HPo {D : va_G} {q : Nat} {H : Heap} : HPo D q noO H := fun k e h => by
  have h : (none : Option va_E) = some e := h
  cases h
theorem SC_h16 {st : St} {a : Ab} (h : SC st a) : ∀ k, 0 ≤ k → k < 8 → 0 ≤ st 16 0 0 k ∧ st 16 0 0 k < 13 := fun k k0 k1 => by
  have h9 := h.1.2.2.2.1.1 k k0 k1
  omega
theorem flags_st {l : Launch} (h : l.flags = flags0) : l.stackTraces = false := by
  unfold Launch.stackTraces
  rw [h]
  decide +kernel
/-- both addresses: the class's from q on, the reference's from q9 on -/
def adW (q q9 : Nat) (K : Nat) (i : Int) : Nat := if K < 29 ∧ ¬ K = 9 then q + off8 K i else q9 + off9 K i
theorem adW_C {q q9 K : Nat} {i : Int} (v : vC K i) : adW q q9 K i = q + off8 K i := if_pos ⟨v.1, v.2.1⟩
theorem adW_M {q q9 K : Nat} {i : Int} (v : vM K i) : adW q q9 K i = q9 + off9 K i := if_neg (fun z => by have h := v.1; omega)
theorem adW_8 (q q9 : Nat) : adW q q9 8 0 = q := rfl
theorem adW_9 (q q9 : Nat) : adW q q9 9 0 = q9 := rfl
/-- all that the loop wants, out of what the start gives -/
theorem start_C {p : Program} {l : Launch} {s : State} {m : MethodId} {c : Code} {b L : Nat} {xs : Nat → Int32} {D : va_G} {ct : Nat → ClassId} {z : (Nat → Nat) × (Nat → Nat)} {q q9 : Nat} {cD : ClassId} {st8 : St} {H8 : Heap} {R8 : Nat → Prop}
    (hx : p.tables.exec = Jvm.exec) (hb : c.code = cL_law) (hml : c.maxLocals = 10) (hown : s.vm.findClass RL = some m.cls) (hts : ∀ w ∈ wsL_law, w.before #[Value.ref b] s = true) (hX : va_X b L xs s s.heap) (hbl : b < s.heap.size) (hL : L ≤ 3072) (hst : l.stackTraces = false) (hK : va_K D vwCl (tysW ct) s) (hXz : ∀ (D : va_G) (ct : Nat → ClassId) (ad : Nat → Int → Nat), XW (D, ct, ad, (fun a => s.heap.size ≤ a), z) s s.heap) (hNc : NcW s) (hTD : ArrOfT s cD .double)
    (h8 : s.heap.size ≤ H8.size) (hq9 : H8.size = q9) (hI8 : Iv vC (D, ct, (fun K i => q + off8 K i), R8, z) st8 H8) : LawC l p s m c b L xs (D, ct, adW q q9, (fun a => s.heap.size ≤ a), z) cD (q9 + 11) (q9 + 12) := by
  have lt8 : ∀ K i, vC K i → q + off8 K i < q9 := fun K i v => by rw [← hq9]; exact Iv_lt hI8 v
  have lt9 : ∀ K i, q9 + off9 K i < q9 + 11 := fun K i => Nat.add_lt_add_left (off9_lt K i) q9
  refine ⟨hx, hb, hml, hown, hts, hX, hbl, ⟨fun a h => h, hK, hXz _ _ _, hNc, hTD, ⟨?_, ?_, ?_⟩, fun K i v => ?_, fun K i K' i' v v' => ?_⟩, Nat.not_le.mpr hbl, hL, hst⟩
  · show s.heap.size ≤ q9 + 11
    omega
  · show s.heap.size ≤ q9 + 12
    omega
  · omega
  · show ¬ adW q q9 K i = q9 + 11 ∧ ¬ adW q q9 K i = q9 + 12
    rcases v with v | v
    · rw [adW_C v]
      have := lt8 K i v
      exact ⟨by omega, by omega⟩
    · rw [adW_M v]
      have := lt9 K i
      exact ⟨by omega, by omega⟩
  · show ¬ adW q q9 K i = adW q q9 K' i'
    rw [adW_C v, adW_M v']
    have := lt8 K i v
    omega
theorem HPo.down {D : va_G} {q k : Nat} {g : Nat → Option va_E} {e : va_E} {H : Heap} (h : HPo D q (upO g k e) H) (hk : g k = none) : HPo D q g H := fun j e' hj => h j e' (by
  unfold upO
  rw [if_neg (fun z => by rw [z, hk] at hj; cases hj)]
  exact hj)
theorem start_I {s : State} {D : va_G} {ct : Nat → ClassId} {z : (Nat → Nat) × (Nat → Nat)} {q q9 : Nat} {cD : ClassId} {st8 : St} {a : Ab} {H8 H : Heap} {R8 : Nat → Prop} {locs : List Loc}
    (h8 : SC st8 a) (hI8 : Iv vC (D, ct, (fun K i => q + off8 K i), R8, z) st8 H8) (hq : s.heap.size ≤ q) (hq9 : H8.size = q9) (hF : HPo D q9 (upO (upO (g_X9_init ct q9) 11 (.inl (ct 1, (1, .inr (.inl (fun _ => 0)))))) 12 (.inl (cD, (1, .inr (.inr (.inr (.inl (fun _ => 0)))))))) H) (hS8 : va_S (fun a => s.heap.size ≤ a) s.heap H8 []) (hS : va_S (fun a => q9 ≤ a) H8 H locs) : LI (D, ct, adW q q9, (fun a => s.heap.size ≤ a), z) cD (q9 + 11) (q9 + 12) s st8 i9 0 0 H locs := by
  have g9 : s.heap.size ≤ q9 := by rw [← hq9]; exact hS8.1
  have c8 := Iv_ad (ad' := adW q q9) hI8 (fun K i v => adW_C v) (SC_h16 h8)
  have f11 : HPo D q9 (upO (g_X9_init ct q9) 11 (.inl (ct 1, (1, .inr (.inl (fun _ => 0)))))) H := hF.down rfl
  have f9 : HPo D q9 (g_X9_init ct q9) H := f11.down rfl
  have h11 : va_at D vwCl (q9 + 11, .inl (ct 1, (1, .inr (.inl (fun _ => 0))))) H := hF 11 _ rfl
  have h12 : va_at D vwCl (q9 + 12, .inl (cD, (1, .inr (.inr (.inr (.inl (fun _ => 0))))))) H := hF 12 _ rfl
  refine ⟨Iv_move (fun a => s.heap.size ≤ a) c8 (fun K i v => ?_) (fun K i v => ?_), Iv9 (fun K i v => adW_M v) f9 (fun a h => Nat.le_trans g9 h), ⟨fun _ => 0, h11, rfl⟩, ⟨fun _ => 0, h12, rfl⟩, S_trans hS8 hS (fun a h => Nat.le_trans g9 h)⟩
  · have lt := Iv_lt c8 v
    exact hS.2.1 _ lt (fun h => by rw [hq9] at lt; exact absurd lt (Nat.not_lt.mpr h))
  · show s.heap.size ≤ adW q q9 K i
    rw [adW_C v]
    omega
