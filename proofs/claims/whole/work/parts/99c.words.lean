/-! the start: the background -/
def gS0 (n b t : Nat) (ad : Nat → Nat × Nat) : Nat → Nat := fun k => if k < 1000000 then n + k else if k < 2000000 then (ad (k - 1000000)).1 else if k < 3000000 then (ad (k - 2000000)).2 else if k = 3000000 then t else b
theorem gS0_1 {n b t : Nat} {ad : Nat → Nat × Nat} {i : Nat} (hi : i < 1000) : gS0 n b t ad (1000000 + i) = (ad i).1 := by
  unfold gS0
  rw [if_neg (by omega), if_pos (by omega), show 1000000 + i - 1000000 = i by omega]
theorem gS0_2 {n b t : Nat} {ad : Nat → Nat × Nat} {i : Nat} (hi : i < 1000) : gS0 n b t ad (2000000 + i) = (ad i).2 := by
  unfold gS0
  rw [if_neg (by omega), if_neg (by omega), if_pos (by omega), show 2000000 + i - 2000000 = i by omega]
theorem gS0_3 {n b t : Nat} {ad : Nat → Nat × Nat} : gS0 n b t ad 3000000 = t := by
  unfold gS0
  rw [if_neg (by omega), if_neg (by omega), if_neg (by omega), if_pos rfl]
theorem gS0_4 {n b t : Nat} {ad : Nat → Nat × Nat} : gS0 n b t ad 4000000 = b := by
  unfold gS0
  rw [if_neg (by omega), if_neg (by omega), if_neg (by omega), if_neg (by omega)]
theorem jkT {w : Cond} (h : jkind w = true) : w.onTables = true := by
  unfold jkind at h
  split at h
  · rfl
  · rfl
  · rfl
  · cases h
theorem strR : ∀ q ∈ jstr, Cond.stringRef q.1 q.2.1 q.2.2 ∈ jNG := by decide +kernel
theorem jlen : jstr.length = 40 := by decide +kernel
theorem w_ls1 : Cond.laysStatic Bundle.tN "UNASSIGNED_STACK" Bundle.steD ∈ lw_tbl := by decide +kernel
theorem w_ls2 : Cond.laysStatic Bundle.tN "SUPPRESSED_SENTINEL" Bundle.listD ∈ lw_tbl := by decide +kernel
theorem w_ls3 : Cond.laysStatic "java/lang/String" "COMPACT_STRINGS" "Z" ∈ lw_tbl := by decide +kernel
theorem w_ls4 : Cond.laysStatic "jdk/internal/util/Preconditions" "SIOOBE_FORMATTER" "Ljava/util/function/BiFunction;" ∈ lw_tbl := by decide +kernel
theorem w_in1 : Cond.initialized Bundle.tN ∈ lw_tbl := by decide +kernel
theorem w_in3 : Cond.initialized "java/lang/String" ∈ lw_tbl := by decide +kernel
theorem w_in4 : Cond.initialized "jdk/internal/util/Preconditions" ∈ lw_tbl := by decide +kernel
theorem w_ao : Cond.arrayOver (.object "java/lang/String") ∈ lw_tbl := by decide +kernel
theorem n_1 : Cond.isRef (.static Bundle.tN "UNASSIGNED_STACK" Bundle.steD) ∈ nF := by decide +kernel
theorem n_2 : Cond.isRef (.static Bundle.tN "SUPPRESSED_SENTINEL" Bundle.listD) ∈ nF := by decide +kernel
theorem n_3 : Cond.eq (.static "java/lang/String" "COMPACT_STRINGS" "Z") (.int 1) ∈ nF := by decide +kernel
theorem n_4 : Cond.isRef (.static "jdk/internal/util/Preconditions" "SIOOBE_FORMATTER" "Ljava/util/function/BiFunction;") ∈ nF := by decide +kernel
theorem n_5 : Cond.not (.castable "java/lang/IllegalArgumentException" "java/util/NoSuchElementException") ∈ nF := by decide +kernel
