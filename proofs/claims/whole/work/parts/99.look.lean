theorem zz_a : SpO wV ⟨"a","b","c"⟩ cX0_init 1 none 0 [] (fun _ _ => 0) (none) := fun b hb => by cases hb
theorem zz_b : goodWord (Cond.methodLinkNest "a" 1 ⟨"a","b","c"⟩ "d") = false := by decide
theorem zz_c : lw_tbl.length = 1 := by decide +kernel
