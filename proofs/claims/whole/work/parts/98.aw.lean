theorem law_aw {args : Array Value} {s : State} (hts : ∀ w ∈ lw_tbl, w.before args s = true) : AW s := by
  have hn : ∀ q ∈ nestL, Cond.methodLinkNest q.1 q.2.1 q.2.2 "BeamLines" ∈ lw_tbl := by decide +kernel
  exact ⟨va_AO.of (hts (.arrayOver (.object "BeamLines$Beam")) (by decide +kernel)), va_AOA.of (hts (.arrayOver (.array .long)) (by decide +kernel)), fun q hq => va_Nw.of rfl (hts _ (hn q hq))⟩
theorem law_nc {args : Array Value} {s : State} (hg : (Jvm.Cond.and given_1 narrow_1).before args s = true) : NcW s := by
  have hs := flat_of_before _ hg
  exact ⟨va_Nc.of (hs (.not (.castable "java/lang/IllegalArgumentException" "java/lang/IndexOutOfBoundsException")) (by decide +kernel)), va_Nc.of (hs (.not (.castable "java/lang/IllegalStateException" "java/lang/IndexOutOfBoundsException")) (by decide +kernel))⟩
