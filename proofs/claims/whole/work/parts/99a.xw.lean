/-! what doesn't change from the law's entry on -/
theorem eq_refs9 {args : Array Value} {s : State} {a b : Term} {y : Nat} (h : (Cond.eq a b).before args s = true) (ha : a.eval args s none [] s = some (.ref y)) : b.eval args s none [] s = some (.ref y) := by
  cases hb : b.eval args s none [] s with
  | none => simp [Cond.before, Cond.holds, Cond.value, ha, hb] at h
  | some x =>
    simp only [Cond.before, Cond.holds, Cond.value, ha, hb] at h
    cases x with
    | ref z =>
      have e : y = z := by simpa using h
      rw [e]
    | _ => simp at h
theorem law_strT {s : State} {args : Array Value} {adK : Nat → Nat} (hts : ∀ w ∈ lw_tbl, w.before args s = true) (hg : (Jvm.Cond.and given_1 narrow_1).before args s = true) (hev : ∀ i : Nat, i < 9 → (tmS i).eval args s none [] s = some (.ref (adK i))) : ∀ q ∈ strT, vk_R q.1 q.2.1 q.2.2.1 (adK q.2.2.2) s := by
  have hs := flat_of_before _ hg
  have hr : ∀ q ∈ strT, Cond.stringRef q.1 q.2.1 q.2.2.1 ∈ lw_tbl := by decide +kernel
  have hq : ∀ q ∈ strT, q.2.2.2 < 9 ∧ (Term.string q.1 q.2.1 = tmS q.2.2.2 ∨ Term.string q.1 q.2.1 = tmM q.2.2.2) := by decide +kernel
  have hm : ∀ i, i < 9 → Cond.eq (tmS i) (tmM i) ∈ flatC (Jvm.Cond.and given_1 narrow_1) := by decide +kernel
  intro q hq9
  obtain ⟨h9, h⟩ := hq q hq9
  refine vk_R.of (hts _ (hr q hq9)) (A := args) ?_
  rcases h with h | h
  · rw [h]
    exact hev _ h9
  · rw [h]
    exact eq_refs9 (hs _ (hm _ h9)) (hev _ h9)
theorem law_xw {s : State} {args : Array Value} (hts : ∀ w ∈ lw_tbl, w.before args s = true) (hg : (Jvm.Cond.and given_1 narrow_1).before args s = true) : ∃ z : (Nat → Nat) × (Nat → Nat), ∀ (D : va_G) (ct : Nat → ClassId) (ad : Nat → Int → Nat), XW (D, ct, ad, (fun q => s.heap.size ≤ q), z) s s.heap := by
  have hs := flat_of_before _ hg
  have hA : ∀ a : Nat, a < s.heap.size → ¬ (fun q => s.heap.size ≤ q) a := fun a ha => Nat.not_le.mpr ha
  obtain ⟨adK, adV, hS, hev⟩ := law_str hg
  have hd : ∀ C ∈ xDs, Cond.declares ⟨C, "<init>", "()V"⟩ ∈ lw_tbl := by decide +kernel
  have hc : ∀ C ∈ xCs, Cond.castable C C ∈ lw_tbl := by decide +kernel
  have t1 : va_Z "java/lang/String" "COMPACT_STRINGS" "Z" (.int 1) (fun q => s.heap.size ≤ q) s s.heap := va_Zof (hts (.laysStatic "java/lang/String" "COMPACT_STRINGS" "Z") (by decide +kernel)) (hts (.initialized "java/lang/String") (by decide +kernel)) (va_eqi (hs (.eq (.static "java/lang/String" "COMPACT_STRINGS" "Z") (.int 1)) (by decide +kernel))) hA
  have t2 : vx_Zq "java/lang/Throwable" "UNASSIGNED_STACK" "[Ljava/lang/StackTraceElement;" (fun q => s.heap.size ≤ q) s s.heap := vx_Zqof (hts (.laysStatic "java/lang/Throwable" "UNASSIGNED_STACK" "[Ljava/lang/StackTraceElement;") (by decide +kernel)) (hts (.initialized "java/lang/Throwable") (by decide +kernel)) (hs (.isRef (.static "java/lang/Throwable" "UNASSIGNED_STACK" "[Ljava/lang/StackTraceElement;")) (by decide +kernel)) hA
  have t3 : vx_Zq "java/lang/Throwable" "SUPPRESSED_SENTINEL" "Ljava/util/List;" (fun q => s.heap.size ≤ q) s s.heap := vx_Zqof (hts (.laysStatic "java/lang/Throwable" "SUPPRESSED_SENTINEL" "Ljava/util/List;") (by decide +kernel)) (hts (.initialized "java/lang/Throwable") (by decide +kernel)) (hs (.isRef (.static "java/lang/Throwable" "SUPPRESSED_SENTINEL" "Ljava/util/List;")) (by decide +kernel)) hA
  have t4 : va_Zq "jdk/internal/util/Preconditions" "SIOOBE_FORMATTER" "Ljava/util/function/BiFunction;" (fun q => s.heap.size ≤ q) s s.heap := va_Zqof (hts (.laysStatic "jdk/internal/util/Preconditions" "SIOOBE_FORMATTER" "Ljava/util/function/BiFunction;") (by decide +kernel)) (hts (.initialized "jdk/internal/util/Preconditions") (by decide +kernel)) (hs (.isRef (.static "jdk/internal/util/Preconditions" "SIOOBE_FORMATTER" "Ljava/util/function/BiFunction;")) (by decide +kernel)) hA
  exact ⟨(adK, adV), fun D ct ad => ⟨hS, t1, t2, t3, fun C hC => va_Nw.of rfl (hts _ (hd C hC)), fun C hC => va_Nw.of rfl (hts _ (hc C hC)), law_strT hts hg hev, t4⟩⟩
