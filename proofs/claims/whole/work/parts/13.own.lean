theorem own_B_1 {s : State} {args : Array Value} (hTS : ThS s) : ∀ a ∈ Bundle.ownAtoms "BankTimes" 70 (xn 1) ["java/lang/RuntimeException", "java/lang/Exception"], a.before args s = true := by
  intro a ha
  rcases (by decide +kernel : ∀ a ∈ Bundle.ownAtoms "BankTimes" 70 (xn 1) ["java/lang/RuntimeException", "java/lang/Exception"], (decide (a ∈ lw_tbl) && (a.onTables && a.keepsFace)) = true ∨ a = .laysStatic "java/lang/Throwable" "UNASSIGNED_STACK" Bundle.steD ∨ a = .laysStatic "java/lang/Throwable" "SUPPRESSED_SENTINEL" Bundle.listD ∨ a = .isRef (.static "java/lang/Throwable" "UNASSIGNED_STACK" Bundle.steD) ∨ a = .isRef (.static "java/lang/Throwable" "SUPPRESSED_SENTINEL" Bundle.listD)) a ha with h | rfl | rfl | rfl | rfl
  · have h1 := Bool.and_eq_true_iff.mp h
    have h2 : a ∈ tX := List.mem_filter.mpr ⟨of_decide_eq_true h1.1, h1.2⟩
    exact va_any (tX_on h2).1 (hTS.2.2.1 a h2)
  · exact ls_moved (Vm.Alike.refl _) (fun _ _ => rfl) hTS.2.2.2.1.1
  · exact ls_moved (Vm.Alike.refl _) (fun _ _ => rfl) hTS.2.2.2.1.2
  · exact zq_word hTS.1 args
  · exact zq_word hTS.2.1 args
theorem own_B_2 {s : State} {args : Array Value} (hTS : ThS s) : ∀ a ∈ Bundle.ownAtoms "BankTimes" 77 (xn 2) ["java/lang/RuntimeException", "java/lang/Exception"], a.before args s = true := by
  intro a ha
  rcases (by decide +kernel : ∀ a ∈ Bundle.ownAtoms "BankTimes" 77 (xn 2) ["java/lang/RuntimeException", "java/lang/Exception"], (decide (a ∈ lw_tbl) && (a.onTables && a.keepsFace)) = true ∨ a = .laysStatic "java/lang/Throwable" "UNASSIGNED_STACK" Bundle.steD ∨ a = .laysStatic "java/lang/Throwable" "SUPPRESSED_SENTINEL" Bundle.listD ∨ a = .isRef (.static "java/lang/Throwable" "UNASSIGNED_STACK" Bundle.steD) ∨ a = .isRef (.static "java/lang/Throwable" "SUPPRESSED_SENTINEL" Bundle.listD)) a ha with h | rfl | rfl | rfl | rfl
  · have h1 := Bool.and_eq_true_iff.mp h
    have h2 : a ∈ tX := List.mem_filter.mpr ⟨of_decide_eq_true h1.1, h1.2⟩
    exact va_any (tX_on h2).1 (hTS.2.2.1 a h2)
  · exact ls_moved (Vm.Alike.refl _) (fun _ _ => rfl) hTS.2.2.2.1.1
  · exact ls_moved (Vm.Alike.refl _) (fun _ _ => rfl) hTS.2.2.2.1.2
  · exact zq_word hTS.1 args
  · exact zq_word hTS.2.1 args
theorem own_B_3 {s : State} {args : Array Value} (hTS : ThS s) : ∀ a ∈ Bundle.ownAtoms "BankTimes" 92 (xn 3) ["java/lang/RuntimeException", "java/lang/Exception"], a.before args s = true := by
  intro a ha
  rcases (by decide +kernel : ∀ a ∈ Bundle.ownAtoms "BankTimes" 92 (xn 3) ["java/lang/RuntimeException", "java/lang/Exception"], (decide (a ∈ lw_tbl) && (a.onTables && a.keepsFace)) = true ∨ a = .laysStatic "java/lang/Throwable" "UNASSIGNED_STACK" Bundle.steD ∨ a = .laysStatic "java/lang/Throwable" "SUPPRESSED_SENTINEL" Bundle.listD ∨ a = .isRef (.static "java/lang/Throwable" "UNASSIGNED_STACK" Bundle.steD) ∨ a = .isRef (.static "java/lang/Throwable" "SUPPRESSED_SENTINEL" Bundle.listD)) a ha with h | rfl | rfl | rfl | rfl
  · have h1 := Bool.and_eq_true_iff.mp h
    have h2 : a ∈ tX := List.mem_filter.mpr ⟨of_decide_eq_true h1.1, h1.2⟩
    exact va_any (tX_on h2).1 (hTS.2.2.1 a h2)
  · exact ls_moved (Vm.Alike.refl _) (fun _ _ => rfl) hTS.2.2.2.1.1
  · exact ls_moved (Vm.Alike.refl _) (fun _ _ => rfl) hTS.2.2.2.1.2
  · exact zq_word hTS.1 args
  · exact zq_word hTS.2.1 args
theorem own_B_4 {s : State} {args : Array Value} (hTS : ThS s) : ∀ a ∈ Bundle.ownAtoms "BankTimes" 121 (xn 4) ["java/lang/RuntimeException", "java/lang/Exception"], a.before args s = true := by
  intro a ha
  rcases (by decide +kernel : ∀ a ∈ Bundle.ownAtoms "BankTimes" 121 (xn 4) ["java/lang/RuntimeException", "java/lang/Exception"], (decide (a ∈ lw_tbl) && (a.onTables && a.keepsFace)) = true ∨ a = .laysStatic "java/lang/Throwable" "UNASSIGNED_STACK" Bundle.steD ∨ a = .laysStatic "java/lang/Throwable" "SUPPRESSED_SENTINEL" Bundle.listD ∨ a = .isRef (.static "java/lang/Throwable" "UNASSIGNED_STACK" Bundle.steD) ∨ a = .isRef (.static "java/lang/Throwable" "SUPPRESSED_SENTINEL" Bundle.listD)) a ha with h | rfl | rfl | rfl | rfl
  · have h1 := Bool.and_eq_true_iff.mp h
    have h2 : a ∈ tX := List.mem_filter.mpr ⟨of_decide_eq_true h1.1, h1.2⟩
    exact va_any (tX_on h2).1 (hTS.2.2.1 a h2)
  · exact ls_moved (Vm.Alike.refl _) (fun _ _ => rfl) hTS.2.2.2.1.1
  · exact ls_moved (Vm.Alike.refl _) (fun _ _ => rfl) hTS.2.2.2.1.2
  · exact zq_word hTS.1 args
  · exact zq_word hTS.2.1 args
