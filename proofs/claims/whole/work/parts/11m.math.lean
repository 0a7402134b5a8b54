theorem pm_max_y : pm_y 292 = Lib.Math.max.name := by decide +kernel
theorem pm_max_code : Cond.code Lib.Math.max.name Lib.Math.max.code 2 (some .int) ∈ pm_ws := pm_mem (i := 665) (by decide +kernel) rfl
theorem pm_max_stat : Cond.static Lib.Math.max.name ∈ pm_ws := pm_mem (i := 664) (by decide +kernel) rfl
theorem pm_min_y : pm_y 294 = Lib.Math.min.name := by decide +kernel
theorem pm_min_code : Cond.code Lib.Math.min.name Lib.Math.min.code 2 (some .int) ∈ pm_ws := pm_mem (i := 510) (by decide +kernel) rfl
theorem pm_min_stat : Cond.static Lib.Math.min.name ∈ pm_ws := pm_mem (i := 509) (by decide +kernel) rfl
theorem pm_abs_y : pm_y 291 = Lib.Math.abs.name := by decide +kernel
theorem pm_abs_code : Cond.code Lib.Math.abs.name Lib.Math.abs.code 1 (some .int) ∈ pm_ws := pm_mem (i := 744) (by decide +kernel) rfl
theorem pm_abs_stat : Cond.static Lib.Math.abs.name ∈ pm_ws := pm_mem (i := 743) (by decide +kernel) rfl
theorem pm_maxl_y : pm_y 293 = Lib.MathLoose.max_long.x := by decide +kernel
theorem pm_maxl_code : Cond.code Lib.MathLoose.max_long.x Lib.MathLoose.max_long.code 4 (some .long) ∈ pm_ws := pm_mem (i := 567) (by decide +kernel) rfl
theorem pm_maxl_stat : Cond.static Lib.MathLoose.max_long.x ∈ pm_ws := pm_mem (i := 566) (by decide +kernel) rfl
theorem pm_minl_y : pm_y 295 = Lib.MathLoose.min_long.x := by decide +kernel
theorem pm_minl_code : Cond.code Lib.MathLoose.min_long.x Lib.MathLoose.min_long.code 4 (some .long) ∈ pm_ws := pm_mem (i := 539) (by decide +kernel) rfl
theorem pm_minl_stat : Cond.static Lib.MathLoose.min_long.x ∈ pm_ws := pm_mem (i := 538) (by decide +kernel) rfl
theorem pm_math_ini : Cond.initialized "java/lang/Math" ∈ pm_ws := pm_ini 12 (by decide)
theorem pm_sys_ini : Cond.initialized "java/lang/System" ∈ pm_ws := pm_ini 18 (by decide)
theorem pm_ML_at {r : Nat} {q : Nat × Nat × Nat × Nat × Nat} (hq : pm_ML[r]? = some q) (h0 : q.2.2.2.1 = 0) : Cond.methodLink (pm_cn q.1) q.2.1 (pm_y q.2.2.1) ∈ pm_ws ∧ q.2.2.1 < pm_nM := by
  have h := List.all_eq_true.mp pm_ML_ok q (List.mem_of_getElem? hq)
  unfold pm_MLc at h
  rw [h0] at h
  simp only [Bool.and_eq_true, decide_eq_true_eq, Nat.blt_eq] at h
  exact ⟨pm_mem h.2 rfl, h.1⟩
