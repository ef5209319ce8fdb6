def xspec : List Cond := [.isRef (.static "java/lang/Throwable" "UNASSIGNED_STACK" "[Ljava/lang/StackTraceElement;"), .isRef (.static "java/lang/Throwable" "SUPPRESSED_SENTINEL" "Ljava/util/List;"), .laysStatic "java/lang/Throwable" "UNASSIGNED_STACK" "[Ljava/lang/StackTraceElement;", .laysStatic "java/lang/Throwable" "SUPPRESSED_SENTINEL" "Ljava/util/List;"]
theorem ow_gen {L : List Cond} (hL : ∀ w ∈ L, ((w ∈ lw_tbl) ∧ goodWord w = true) ∨ w ∈ xbad ∨ w ∈ xspec) : ∀ (args : Array Value) (s : State), (∀ x ∈ gT, x.before args s = true) → xb_ s → (∀ x ∈ xst, (Cond.isRef (.static "java/lang/Throwable" x.1 x.2)).before args s = true ∧ (Cond.laysStatic "java/lang/Throwable" x.1 x.2).before args s = true) → ∀ w ∈ L, w.before args s = true := by
  intro args s hG hB hX w hw
  rcases hL w hw with h | h | h
  · exact hG w (gT_mem h.1 h.2)
  · exact va_Nw.use ((by decide +kernel : ∀ w ∈ xbad, w.onTables = true) w h) (hB w h)
  · have h1 := hX ("UNASSIGNED_STACK", "[Ljava/lang/StackTraceElement;") (by simp [xst])
    have h2 := hX ("SUPPRESSED_SENTINEL", "Ljava/util/List;") (by simp [xst])
    simp only [xspec, List.mem_cons, List.not_mem_nil, or_false] at h
    rcases h with rfl | rfl | rfl | rfl
    · exact h1.1
    · exact h2.1
    · exact h1.2
    · exact h2.2
theorem ow_1_287 : ∀ (args : Array Value) (s : State), (∀ x ∈ gT, x.before args s = true) → xb_ s → (∀ x ∈ xst, (Cond.isRef (.static "java/lang/Throwable" x.1 x.2)).before args s = true ∧ (Cond.laysStatic "java/lang/Throwable" x.1 x.2).before args s = true) → ∀ w ∈ Bundle.ownAtoms "InodeDesk" 287 (exN 1) ["java/lang/RuntimeException", "java/lang/Exception"], w.before args s = true := ow_gen (by decide +kernel)
theorem ow_2_295 : ∀ (args : Array Value) (s : State), (∀ x ∈ gT, x.before args s = true) → xb_ s → (∀ x ∈ xst, (Cond.isRef (.static "java/lang/Throwable" x.1 x.2)).before args s = true ∧ (Cond.laysStatic "java/lang/Throwable" x.1 x.2).before args s = true) → ∀ w ∈ Bundle.ownAtoms "InodeDesk" 295 (exN 2) ["java/lang/RuntimeException", "java/lang/Exception"], w.before args s = true := ow_gen (by decide +kernel)
theorem ow_3_109 : ∀ (args : Array Value) (s : State), (∀ x ∈ gT, x.before args s = true) → xb_ s → (∀ x ∈ xst, (Cond.isRef (.static "java/lang/Throwable" x.1 x.2)).before args s = true ∧ (Cond.laysStatic "java/lang/Throwable" x.1 x.2).before args s = true) → ∀ w ∈ Bundle.ownAtoms "InodeDesk" 109 (exN 3) ["java/lang/RuntimeException", "java/lang/Exception"], w.before args s = true := ow_gen (by decide +kernel)
theorem ow_4_228 : ∀ (args : Array Value) (s : State), (∀ x ∈ gT, x.before args s = true) → xb_ s → (∀ x ∈ xst, (Cond.isRef (.static "java/lang/Throwable" x.1 x.2)).before args s = true ∧ (Cond.laysStatic "java/lang/Throwable" x.1 x.2).before args s = true) → ∀ w ∈ Bundle.ownAtoms "InodeDesk" 228 (exN 4) ["java/lang/RuntimeException", "java/lang/Exception"], w.before args s = true := ow_gen (by decide +kernel)
