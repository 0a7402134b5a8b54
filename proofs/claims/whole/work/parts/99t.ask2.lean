/-! More questions, with an array loaded. -/
theorem p_26_E : ps_26_E_E iv_N iv_E := by
  intro j s0 s4 s5 s6 sR a1 a2 hj hI
  have hI' := hI
  obtain ⟨h1, D, S, T, m, n, N, ln, cnt, tk, f, p, A, L, W, F, ⟨⟨hP, hp, hs, hC, hR, hB, hF⟩, V, TR, ⟨z3, z11', zl, zd⟩, hu, fx⟩, hn, hN, h70⟩ := hI
  have hs' : (mo_i sR 2 0).2.2.1 0 = p := hs
  have hD := hp.2.2.2.2.1
  have hT := hp.2.2.2.2.2.2.2.2.1
  have hS := hp.2.2.2.2.2.2.1
  unfold f_X8_chosen_E f_X9_chosen f_X9_refuse
  rcases q_tenant hp hP hs' a1 with ⟨t, t1, t2, g1, g2⟩ | ⟨g1, g2⟩
  · rw [g1, g2, t2]
    simp only [i32_10, if_false]
    unfold f_X9_in
    rcases rg a2 (b := 3) (by omega) (by omega) with ⟨w, w1, w2, w3, w4, w5⟩ | w | ⟨w3, w4, w5⟩
    · have w6 : a2 < 3 := by
        rw [w2]
        exact (nI_ltI (b := 3) (by omega) (by decide)).mpr w1
      have w7 : ¬ (2 : Int32) < a2 := w5
      have ei : nI t * 3 + nI w = nI (t * 3 + w) := by rw [show nI t * 3 = nI (t * 3) from nI_mul t 3, nI_add]
      have nbq : pm_inb (nI (t * 3 + w)) 18 = true := nb_nI (by omega) (by decide)
      have clq : (nI (t * 3 + w)).toNatClampNeg = t * 3 + w := nI_clamp (by omega)
      have e4 : (4 : Int32) + nI w = nI (4 + w) := nI_add 4 w
      have r : vn (mo_i sR 2 0) 6 t (4 + w) = A.1 6 t (4 + w) := hR.2.2.2.2.2.2.2.2.1 t (4 + w) (by omega) (by omega)
      have k : s5.2.1 18 (t * 3 + w) = A.1 6 t (4 + w) := by
        have C := hC.2.2.2.2.1 t (by omega)
        rw [Nat.mul_comm]
        rcases (show w = 0 ∨ w = 1 ∨ w = 2 by omega) with rfl | rfl | rfl
        · exact C.2.2.2.2.1
        · exact C.2.2.2.2.2.1
        · exact C.2.2.2.2.2.2
      simp only [if_neg w3, if_pos w6, if_neg w7, i32_10, if_false]
      rw [w2]
      simp only [ei, nbq, clq, k, e4, ofTenant_w (mo_i sR 2 0) (show t < 6 by omega) (show 4 + w < 7 by omega), r]
      exact .inl ⟨_, _, rfl, rfl, thr _ _, iv_E_i hI'⟩
    · simp only [if_pos w, if_true]
      exact .inr (.inl ⟨_, _, trivial, rfl, thr _ _, iv_E_ii hI'⟩)
    · have w6 : ¬ a2 < 3 := fun h => by
        have h1 := Int32.lt_iff_toInt_lt.mp h
        have h2 : (3 : Int32).toInt ≤ a2.toInt := Int32.le_iff_toInt_le.mp w4
        omega
      have w7 : (2 : Int32) < a2 := w5
      simp only [if_neg w3, if_neg w6, if_pos w7, if_true]
      exact .inr (.inl ⟨_, _, trivial, rfl, thr _ _, iv_E_ii hI'⟩)
  · rw [g1, g2]
    simp only [if_true]
    exact .inr (.inr ⟨_, _, trivial, rfl, thr _ _, iv_E_ii hI'⟩)
theorem p_30_E : ps_30_E_E iv_N iv_E := by
  intro j s0 s4 s5 s6 sR a1 hj hI
  have hI' := hI
  obtain ⟨h1, D, S, T, m, n, N, ln, cnt, tk, f, p, A, L, W, F, ⟨⟨hP, hp, hs, hC, hR, hB, hF⟩, V, TR, ⟨z3, z11', zl, zd⟩, hu, fx⟩, hn, hN, h70⟩ := hI
  have hs' : (mo_i sR 2 0).2.2.1 0 = p := hs
  have hD := hp.2.2.2.2.1
  have hT := hp.2.2.2.2.2.2.2.2.1
  have hS := hp.2.2.2.2.2.2.1
  have hm := hB.2.2.2.2.2.1.1
  have mm := hB.2.2.2.2.2.1.2.1
  have cC : s5.1 19 0 = nI m := hC.1.2.2.1.trans mm
  have cR : (mo_i sR 2 0).2.2.1 3 2 = nI m := (hR.1 2 (by decide)).trans mm
  unfold f_X8_finishedAt_E f_X9_finishedAt f_X9_isRequest f_X9_refuse f_X9_in
  simp only [cC, cR, nb_2_18186, tc_2]
  by_cases u : a1 < 0
  · simp only [if_pos u, z11.2, if_true]
    exact .inr ⟨_, _, trivial, rfl, thr _ _, iv_E_ii hI'⟩
  · obtain ⟨r, hr, rfl⟩ := nI_of u
    simp only [if_neg u]
    by_cases v : r < m
    · have v1 : nI r < nI m := (nI_ltI (by omega) (by omega)).mpr v
      have v2 : ¬ nI m - 1 < nI r := by
        rw [show nI m - 1 = nI (m - 1) from nI_sub (b := 1) (by omega)]
        exact fun h => absurd ((nI_ltI (by omega) (by omega)).mp h) (by omega)
      have hc : nI r < A.1 0 0 2 := by rw [mm]; exact v1
      have rr : vn (mo_i sR 2 0) 5 r 4 = A.1 5 r 4 := hR.2.2.2.2.2.2.2.1 r 4 (by omega) hc (by decide)
      have kk := (hC.2.2.2.2.2.1 r (by omega) hc).2.2.2.2.1
      simp (disch := omega) only [if_pos v1, if_neg v2, z11.1, if_true, i32_10, if_false, nb_nI, nI_clamp, kk, ofRequest_4 (mo_i sR 2 0) (show r < 400 by omega), rr]
      exact .inl ⟨_, _, rfl, rfl, thr _ _, iv_E_i hI'⟩
    · have v1 : ¬ nI r < nI m := fun h => v ((nI_ltI hr (by omega)).mp h)
      have v2 : nI m - 1 < nI r := by
        by_cases z : m = 0
        · have e : nI m - 1 = -1 := by rw [z]; decide
          rw [e, Int32.lt_iff_toInt_lt, nI_toInt hr, show (-1 : Int32).toInt = -1 from rfl]
          omega
        · rw [show nI m - 1 = nI (m - 1) from nI_sub (b := 1) (by omega)]
          exact (nI_ltI (by omega) hr).mpr (by omega)
      simp only [if_neg v1, if_pos v2, z11.2, if_true]
      exact .inr ⟨_, _, trivial, rfl, thr _ _, iv_E_ii hI'⟩
theorem p_31_E : ps_31_E_E iv_N iv_E := by
  intro j s0 s4 s5 s6 sR a1 hj hI
  have hI' := hI
  obtain ⟨h1, D, S, T, m, n, N, ln, cnt, tk, f, p, A, L, W, F, ⟨⟨hP, hp, hs, hC, hR, hB, hF⟩, V, TR, ⟨z3, z11', zl, zd⟩, hu, fx⟩, hn, hN, h70⟩ := hI
  have hs' : (mo_i sR 2 0).2.2.1 0 = p := hs
  have hD := hp.2.2.2.2.1
  have hT := hp.2.2.2.2.2.2.2.2.1
  have hS := hp.2.2.2.2.2.2.1
  have hm := hB.2.2.2.2.2.1.1
  have mm := hB.2.2.2.2.2.1.2.1
  have cC : s5.1 19 0 = nI m := hC.1.2.2.1.trans mm
  have cR : (mo_i sR 2 0).2.2.1 3 2 = nI m := (hR.1 2 (by decide)).trans mm
  unfold f_X8_pending_E f_X9_pending f_X9_isRequest f_X9_refuse f_X9_in
  simp only [cC, cR, nb_2_18186, tc_2]
  by_cases u : a1 < 0
  · simp only [if_pos u, z11.2, if_true]
    exact .inr ⟨_, _, trivial, rfl, thr _ _, iv_E_ii hI'⟩
  · obtain ⟨r, hr, rfl⟩ := nI_of u
    simp only [if_neg u]
    by_cases v : r < m
    · have v1 : nI r < nI m := (nI_ltI (by omega) (by omega)).mpr v
      have v2 : ¬ nI m - 1 < nI r := by
        rw [show nI m - 1 = nI (m - 1) from nI_sub (b := 1) (by omega)]
        exact fun h => absurd ((nI_ltI (by omega) (by omega)).mp h) (by omega)
      have hc : nI r < A.1 0 0 2 := by rw [mm]; exact v1
      have rr : vn (mo_i sR 2 0) 5 r 3 = A.1 5 r 3 := hR.2.2.2.2.2.2.2.1 r 3 (by omega) hc (by decide)
      have kk := (hC.2.2.2.2.2.1 r (by omega) hc).2.2.2.1
      simp (disch := omega) only [if_pos v1, if_neg v2, z11.1, if_true, i32_10, if_false, nb_nI, nI_clamp, kk, ofRequest_3 (mo_i sR 2 0) (show r < 400 by omega), rr]
      exact .inl ⟨_, _, rfl, rfl, thr _ _, iv_E_i hI'⟩
    · have v1 : ¬ nI r < nI m := fun h => v ((nI_ltI hr (by omega)).mp h)
      have v2 : nI m - 1 < nI r := by
        by_cases z : m = 0
        · have e : nI m - 1 = -1 := by rw [z]; decide
          rw [e, Int32.lt_iff_toInt_lt, nI_toInt hr, show (-1 : Int32).toInt = -1 from rfl]
          omega
        · rw [show nI m - 1 = nI (m - 1) from nI_sub (b := 1) (by omega)]
          exact (nI_ltI (by omega) hr).mpr (by omega)
      simp only [if_neg v1, if_pos v2, z11.2, if_true]
      exact .inr ⟨_, _, trivial, rfl, thr _ _, iv_E_ii hI'⟩
theorem p_32_E : ps_32_E_E iv_N iv_E := by
  intro j s0 s4 s5 s6 sR a1 hj hI
  have hI' := hI
  obtain ⟨h1, D, S, T, m, n, N, ln, cnt, tk, f, p, A, L, W, F, ⟨⟨hP, hp, hs, hC, hR, hB, hF⟩, V, TR, ⟨z3, z11', zl, zd⟩, hu, fx⟩, hn, hN, h70⟩ := hI
  have hs' : (mo_i sR 2 0).2.2.1 0 = p := hs
  have hD := hp.2.2.2.2.1
  have hT := hp.2.2.2.2.2.2.2.2.1
  have hS := hp.2.2.2.2.2.2.1
  unfold f_X8_finished_E f_X9_finished f_X9_tellClient f_X9_refuse
  rcases q_client hp hP hs' a1 with ⟨t, t0, t1, t2, g1, g2⟩ | ⟨g1, g2⟩
  · have r : vn (mo_i sR 2 0) 6 t 0 = A.1 6 t 0 := hR.2.2.2.2.2.2.2.2.1 t 0 (by omega) (by omega)
    have k := (hC.2.2.2.2.1 t (by omega)).1
    have nbq : pm_inb (nI t) 6 = true := nb_nI (by omega) (by decide)
    have clq : (nI t).toNatClampNeg = t := nI_clamp (by omega)
    rw [g1, g2, t2]
    simp only [i32_10, if_false, nbq, clq, k, ofTenant_0 (mo_i sR 2 0) (show t < 6 by omega), r]
    exact .inl ⟨_, _, rfl, rfl, thr _ _, iv_E_i hI'⟩
  · rw [g1, g2]
    simp only [if_true]
    exact .inr ⟨_, _, trivial, rfl, thr _ _, iv_E_ii hI'⟩
theorem p_33_E : ps_33_E_E iv_N iv_E := by
  intro j s0 s4 s5 s6 sR a1 hj hI
  have hI' := hI
  obtain ⟨h1, D, S, T, m, n, N, ln, cnt, tk, f, p, A, L, W, F, ⟨⟨hP, hp, hs, hC, hR, hB, hF⟩, V, TR, ⟨z3, z11', zl, zd⟩, hu, fx⟩, hn, hN, h70⟩ := hI
  have hs' : (mo_i sR 2 0).2.2.1 0 = p := hs
  have hD := hp.2.2.2.2.1
  have hT := hp.2.2.2.2.2.2.2.2.1
  have hS := hp.2.2.2.2.2.2.1
  unfold f_X8_totalLatency_E f_X9_totalLatency f_X9_tellClient f_X9_refuse
  rcases q_client hp hP hs' a1 with ⟨t, t0, t1, t2, g1, g2⟩ | ⟨g1, g2⟩
  · have r : vn (mo_i sR 2 0) 6 t 1 = A.1 6 t 1 := hR.2.2.2.2.2.2.2.2.1 t 1 (by omega) (by omega)
    have k := (hC.2.2.2.2.1 t (by omega)).2.1
    have nbq : pm_inb (nI t) 6 = true := nb_nI (by omega) (by decide)
    have clq : (nI t).toNatClampNeg = t := nI_clamp (by omega)
    rw [g1, g2, t2]
    simp only [i32_10, if_false, nbq, clq, k, ofTenant_1 (mo_i sR 2 0) (show t < 6 by omega), r]
    exact .inl ⟨_, _, rfl, rfl, thr _ _, iv_E_i hI'⟩
  · rw [g1, g2]
    simp only [if_true]
    exact .inr ⟨_, _, trivial, rfl, thr _ _, iv_E_ii hI'⟩
theorem p_34_E : ps_34_E_E iv_N iv_E := by
  intro j s0 s4 s5 s6 sR a1 hj hI
  have hI' := hI
  obtain ⟨h1, D, S, T, m, n, N, ln, cnt, tk, f, p, A, L, W, F, ⟨⟨hP, hp, hs, hC, hR, hB, hF⟩, V, TR, ⟨z3, z11', zl, zd⟩, hu, fx⟩, hn, hN, h70⟩ := hI
  have hs' : (mo_i sR 2 0).2.2.1 0 = p := hs
  have hD := hp.2.2.2.2.1
  have hT := hp.2.2.2.2.2.2.2.2.1
  have hS := hp.2.2.2.2.2.2.1
  unfold f_X8_worstLatency_E f_X9_worstLatency f_X9_tellClient f_X9_refuse
  rcases q_client hp hP hs' a1 with ⟨t, t0, t1, t2, g1, g2⟩ | ⟨g1, g2⟩
  · have r : vn (mo_i sR 2 0) 6 t 2 = A.1 6 t 2 := hR.2.2.2.2.2.2.2.2.1 t 2 (by omega) (by omega)
    have k := (hC.2.2.2.2.1 t (by omega)).2.2.1
    have nbq : pm_inb (nI t) 6 = true := nb_nI (by omega) (by decide)
    have clq : (nI t).toNatClampNeg = t := nI_clamp (by omega)
    rw [g1, g2, t2]
    simp only [i32_10, if_false, nbq, clq, k, ofTenant_2 (mo_i sR 2 0) (show t < 6 by omega), r]
    exact .inl ⟨_, _, rfl, rfl, thr _ _, iv_E_i hI'⟩
  · rw [g1, g2]
    simp only [if_true]
    exact .inr ⟨_, _, trivial, rfl, thr _ _, iv_E_ii hI'⟩
theorem p_35_E : ps_35_E_E iv_N iv_E := by
  intro j s0 s4 s5 s6 sR a1 hj hI
  have hI' := hI
  obtain ⟨h1, D, S, T, m, n, N, ln, cnt, tk, f, p, A, L, W, F, ⟨⟨hP, hp, hs, hC, hR, hB, hF⟩, V, TR, ⟨z3, z11', zl, zd⟩, hu, fx⟩, hn, hN, h70⟩ := hI
  have hs' : (mo_i sR 2 0).2.2.1 0 = p := hs
  have hD := hp.2.2.2.2.1
  have hT := hp.2.2.2.2.2.2.2.2.1
  have hS := hp.2.2.2.2.2.2.1
  unfold f_X8_late_E f_X9_late f_X9_tellClient f_X9_refuse
  rcases q_client hp hP hs' a1 with ⟨t, t0, t1, t2, g1, g2⟩ | ⟨g1, g2⟩
  · have r : vn (mo_i sR 2 0) 6 t 3 = A.1 6 t 3 := hR.2.2.2.2.2.2.2.2.1 t 3 (by omega) (by omega)
    have k := (hC.2.2.2.2.1 t (by omega)).2.2.2.1
    have nbq : pm_inb (nI t) 6 = true := nb_nI (by omega) (by decide)
    have clq : (nI t).toNatClampNeg = t := nI_clamp (by omega)
    rw [g1, g2, t2]
    simp only [i32_10, if_false, nbq, clq, k, ofTenant_3 (mo_i sR 2 0) (show t < 6 by omega), r]
    exact .inl ⟨_, _, rfl, rfl, thr _ _, iv_E_i hI'⟩
  · rw [g1, g2]
    simp only [if_true]
    exact .inr ⟨_, _, trivial, rfl, thr _ _, iv_E_ii hI'⟩
theorem p_36_E : ps_36_E_E iv_N iv_E := by
  intro j s0 s4 s5 s6 sR a1 hj hI
  have hI' := hI
  obtain ⟨h1, D, S, T, m, n, N, ln, cnt, tk, f, p, A, L, W, F, ⟨⟨hP, hp, hs, hC, hR, hB, hF⟩, V, TR, ⟨z3, z11', zl, zd⟩, hu, fx⟩, hn, hN, h70⟩ := hI
  have hs' : (mo_i sR 2 0).2.2.1 0 = p := hs
  have hD := hp.2.2.2.2.1
  have hT := hp.2.2.2.2.2.2.2.2.1
  have hS := hp.2.2.2.2.2.2.1
  have fC : s5.1 31 0 = A.1 0 0 1 := hC.1.2.1
  have fR : (mo_i sR 2 0).2.2.1 3 1 = A.1 0 0 1 := hR.1 1 (by decide)
  unfold f_X8_stripeState_E f_X9_stripeState f_X9_refuse
  rcases q_stripe hp hP hs' a1 with ⟨k, k1, k2, g1, g2⟩ | ⟨g1, g2⟩
  · have r : vn (mo_i sR 2 0) 4 k 0 = A.1 4 k 0 := hR.2.2.2.2.2.2.1 k (by omega)
    have kk := (hC.2.2.2.2.2.2 k (by omega)).1
    have nbq : pm_inb (nI k) 64 = true := nb_nI (by omega) (by decide)
    have clq : (nI k).toNatClampNeg = k := nI_clamp (by omega)
    rw [g1, g2, k2]
    simp only [i32_10, if_false, fC, nb_1_18186, tc_1, fR]
    by_cases u : A.1 0 0 1 = -1
    · simp only [if_pos u]
      exact .inl ⟨_, _, rfl, rfl, thr _ _, iv_E_i hI'⟩
    · simp only [if_neg u, nbq, clq, kk, stateOf_w (mo_i sR 2 0) (show k < 64 by omega), r]
      exact .inl ⟨_, _, rfl, rfl, thr _ _, iv_E_i hI'⟩
  · rw [g1, g2]
    simp only [if_true]
    exact .inr ⟨_, _, trivial, rfl, thr _ _, iv_E_ii hI'⟩
theorem p_43_E : ps_43_E_E iv_N iv_E := by
  intro j s0 s4 s5 s6 sR a1 hj hI
  have hI' := hI
  obtain ⟨h1, D, S, T, m, n, N, ln, cnt, tk, f, p, A, L, W, F, ⟨⟨hP, hp, hs, hC, hR, hB, hF⟩, V, TR, ⟨z3, z11', zl, zd⟩, hu, fx⟩, hn, hN, h70⟩ := hI
  have hs' : (mo_i sR 2 0).2.2.1 0 = p := hs
  have hD := hp.2.2.2.2.1
  have hT := hp.2.2.2.2.2.2.2.2.1
  have hS := hp.2.2.2.2.2.2.1
  unfold f_X8_stripeDeadline_E f_X9_stripeDeadline f_X9_refuse
  rcases q_stripe hp hP hs' a1 with ⟨k, k1, k2, g1, g2⟩ | ⟨g1, g2⟩
  · have hR' : ab_R D A (mo_i sR 2 0) W F := hR
    rw [g1, g2, k2]
    simp only [i32_10, if_false, hP.2.1, ab_dl_C hp k hC, ab_dl_R hp hs' k hR']
    exact .inl ⟨_, _, rfl, rfl, thr _ _, iv_E_i hI'⟩
  · rw [g1, g2]
    simp only [if_true]
    exact .inr ⟨_, _, trivial, rfl, thr _ _, iv_E_ii hI'⟩
theorem p_11_E : ps_11_E_E iv_N iv_E := by
  intro j s0 s4 s5 s6 sR a1 a2 hj hI
  have hI' := hI
  obtain ⟨h1, D, S, T, m, n, N, ln, cnt, tk, f, p, A, L, W, F, ⟨⟨hP, hp, hs, hC, hR, hB, hF⟩, V, TR, ⟨z3, z11', zl, zd⟩, hu, fx⟩, hn, hN, h70⟩ := hI
  have hs' : (mo_i sR 2 0).2.2.1 0 = p := hs
  have hD := hp.2.2.2.2.1
  have hT := hp.2.2.2.2.2.2.2.2.1
  have hS := hp.2.2.2.2.2.2.1
  unfold f_X8_share_E f_X9_share f_X9_refuse
  rcases q_tenant hp hP hs' a1 with ⟨t, t1, t2, g1, g2⟩ | ⟨g1, g2⟩
  · rw [g1, g2, t2]
    simp only [i32_10, if_false]
    unfold f_X9_in
    have sh := hP.2.2.2.2.2.2.2.2 t (by omega)
    have nbq : pm_inb (nI t) 6 = true := nb_nI (by omega) (by decide)
    have clq : (nI t).toNatClampNeg = t := nI_clamp (by omega)
    rcases rg a2 (b := 3) (by omega) (by omega) with ⟨w, w1, w2, w3, w4, w5⟩ | w | ⟨w3, w4, w5⟩
    · have w7 : ¬ (2 : Int32) < a2 := w5
      have k01 : ¬ (1 : Int32) = 0 := by decide
      have k02 : ¬ (2 : Int32) = 0 := by decide
      have k12 : ¬ (2 : Int32) = 1 := by decide
      simp only [if_neg w3, if_neg w7, i32_10, if_false]
      rw [w2]
      rcases (show w = 0 ∨ w = 1 ∨ w = 2 by omega) with rfl | rfl | rfl
      · have e : nI 0 = 0 := rfl
        simp only [e, if_true, nbq, clq, sh.1, shareOf_0 (mo_i sR 2 0) (show t < 6 by omega), hs', Nat.add_zero]
        exact .inl ⟨_, _, rfl, rfl, thr _ _, iv_E_i hI'⟩
      · have e : nI 1 = 1 := rfl
        simp only [e, if_neg k01, if_true, nbq, clq, sh.2.1, shareOf_1 (mo_i sR 2 0) (show t < 6 by omega), hs']
        exact .inl ⟨_, _, rfl, rfl, thr _ _, iv_E_i hI'⟩
      · have e : nI 2 = 2 := rfl
        simp only [e, if_neg k02, if_neg k12, if_true, nbq, clq, sh.2.2, shareOf_2 (mo_i sR 2 0) (show t < 6 by omega), hs']
        exact .inl ⟨_, _, rfl, rfl, thr _ _, iv_E_i hI'⟩
    · have n0 : ¬ a2 = 0 := fun h => by rw [h] at w; exact absurd w (by decide)
      have n1 : ¬ a2 = 1 := fun h => by rw [h] at w; exact absurd w (by decide)
      have n2 : ¬ a2 = 2 := fun h => by rw [h] at w; exact absurd w (by decide)
      simp only [if_neg n0, if_neg n1, if_neg n2, if_pos w, if_true]
      exact .inr (.inl ⟨_, _, trivial, rfl, thr _ _, iv_E_ii hI'⟩)
    · have n0 : ¬ a2 = 0 := fun h => by rw [h] at w4; exact absurd w4 (by decide)
      have n1 : ¬ a2 = 1 := fun h => by rw [h] at w4; exact absurd w4 (by decide)
      have n2 : ¬ a2 = 2 := fun h => by rw [h] at w4; exact absurd w4 (by decide)
      have w7 : (2 : Int32) < a2 := w5
      simp only [if_neg n0, if_neg n1, if_neg n2, if_neg w3, if_pos w7, if_true]
      exact .inr (.inl ⟨_, _, trivial, rfl, thr _ _, iv_E_ii hI'⟩)
  · rw [g1, g2]
    simp only [if_true]
    exact .inr (.inr ⟨_, _, trivial, rfl, thr _ _, iv_E_ii hI'⟩)
