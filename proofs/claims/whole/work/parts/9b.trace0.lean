/-! loadTrace with nothing loaded. -/
theorem p_2_N {IE : t_IE} : ps_2_N_N iv_N IE := by
  intro j s0 sR a1 hj hI
  obtain ⟨⟨⟨m, hm, c1, c2, c3⟩, c4, c5⟩, h2⟩ := hI
  have hI' : iv_N j s0 sR := ⟨⟨⟨m, hm, c1, c2, c3⟩, c4, c5⟩, h2⟩
  have r8 : (mo_i sR 2 0).1 8 = nI m := by rw [mo_i_1, if_neg (by decide)]; exact c2
  unfold f_X8_loadTrace_N f_X9_loadTrace f_X9_in f_X9_refuse
  rw [c1, r8]
  by_cases u : a1 < 0
  · simp only [if_pos u, if_true]
    exact .inr ⟨_, _, _, rfl, rfl, thr _ _, iv_N_ii hI'⟩
  · obtain ⟨k, hk, rfl⟩ := nI_of u
    have le : nI k ≤ nI m ↔ k ≤ m := nI_leI hk (by omega)
    have lt : nI m < nI k ↔ m < k := nI_ltI (by omega) hk
    simp only [if_neg u]
    by_cases v : k ≤ m
    · simp only [if_pos (le.mpr v), if_neg (fun h => absurd (lt.mp h) (by omega)), i32_10, if_false]
      unfold fc_X9_loadTrace_c1
      have ia : f_X9_isArray (mo_i (mo_i sR 2 0) 8 0) = some 0 := by
        have q0 : (mo_i (mo_i sR 2 0) 8 0).2.2.1 0 0 = 0 := h2.1 0 (by decide)
        unfold f_X9_isArray
        simp [nb_0_26, tc_0, q0]
      simp only [ia, if_true]
      refine .inl ⟨_, _, _, rfl, rfl, thr _ _, ⟨⟨0, by omega, ?_, ?_, fun k hk => absurd hk (by omega)⟩, ?_, ?_⟩, ?_⟩
      · rw [ci_1, if_pos ⟨rfl, rfl⟩]
        rfl
      · simp [mo_i_1]
        rfl
      · rw [ci_1, if_neg (by omega), c4]
        simp [mo_i_1]
      · rw [ci_1, if_neg (by omega), c5]
        simp [mo_i_1]
      · refine ⟨h2.1, h2.2.1, ?_⟩
        simp [mo_i_1]
        exact h2.2.2
    · simp only [if_neg (fun h => v (le.mp h)), if_pos (lt.mpr (by omega)), if_true]
      exact .inr ⟨_, _, _, rfl, rfl, thr _ _, iv_N_ii hI'⟩
