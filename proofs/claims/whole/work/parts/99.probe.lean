theorem pr1 : goodWord (.native ⟨"a","b","c"⟩) = true := by decide
theorem pr2 : goodWord (.superclass "a" "b") = true := by decide
theorem pr3 : goodWord (.codeSync ⟨"a","b","c"⟩ ⟨#[]⟩ 1 none) = true := by decide
theorem pr4 : goodWord (.declares ⟨"a","b","c"⟩) = true := by decide
theorem pr5 : goodWord (.castable "a" "b") = true := by decide
theorem pr6 : goodWord (.laysStatic "a" "b" "c") = true := by decide
theorem pr7 : goodWord (.lays "a" "b" "c" "d") = true := by decide
theorem pr8 : goodWord (.instantiable "a" 1) = true := by decide
theorem pr9 : goodWord (.selects "a" ⟨"a","b","c"⟩ ⟨"a","b","c"⟩) = true := by decide
theorem pr10 : goodWord (.codeWith ⟨"a","b","c"⟩ ⟨#[]⟩ 1 none []) = true := by decide
theorem pr11 : goodWord (.classLink "a" 1 "b") = true := by decide
theorem pr12 : ∀ w ∈ Bundle.throwableAtoms ++ Bundle.throwableSAtoms, w ∈ lw_tbl := by decide +kernel
theorem pr13 : ∀ w ∈ Bundle.chainSAtoms "java/lang/IllegalArgumentException" ["java/lang/RuntimeException","java/lang/Exception"], w ∈ lw_tbl := by decide +kernel
theorem pr14 : ∀ w ∈ (Bundle.ownAtoms "LabelledCore" 74 "java/lang/IllegalArgumentException" ["java/lang/RuntimeException","java/lang/Exception"]).filter (fun w => match w with | .isRef _ => false | _ => true), w ∈ lw_tbl := by decide +kernel
theorem pr15 : ∀ w ∈ (Bundle.ownAtoms "LabelledCore" 127 "java/lang/IndexOutOfBoundsException" ["java/lang/RuntimeException","java/lang/Exception"]).filter (fun w => match w with | .isRef _ => false | _ => true), w ∈ lw_tbl := by decide +kernel
theorem pr16 {l : Launch} (p : Program) (e : Env) (h : l.admits e) (hf : l.flags = flags0) : e.platform.stackTraces = false := by
  trivial
