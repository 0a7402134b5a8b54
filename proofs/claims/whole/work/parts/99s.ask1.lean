/-! Questions, with an array loaded. -/
theorem p_17_E : ps_17_E_E iv_N iv_E := by
  intro j s0 s4 s5 s6 sR hj hI
  have hI' := hI
  obtain ⟨h1, D, S, T, m, n, N, ln, cnt, tk, f, p, A, L, W, F, ⟨⟨hP, hp, hs, hC, hR, hB, hF⟩, V, TR, ⟨z3, z11', zl, zd⟩, hu, fx⟩, hn, hN, h70⟩ := hI
  have r : sR.2.2.1 3 0 = A.1 0 0 0 := hR.1 0 (by decide)
  have k : s5.1 0 4 = A.1 0 0 0 := hC.1.1
  refine ⟨_, _, rfl, ?_, iv_E_i (v := 0) hI'⟩
  unfold f_X9_now f_X9_told
  simp only [nb_0_18186, tc_0, r, k]
theorem p_18_E : ps_18_E_E iv_N iv_E := by
  intro j s0 s4 s5 s6 sR hj hI
  have hI' := hI
  obtain ⟨h1, D, S, T, m, n, N, ln, cnt, tk, f, p, A, L, W, F, ⟨⟨hP, hp, hs, hC, hR, hB, hF⟩, V, TR, ⟨z3, z11', zl, zd⟩, hu, fx⟩, hn, hN, h70⟩ := hI
  have r : sR.2.2.1 3 1 = A.1 0 0 1 := hR.1 1 (by decide)
  have k : s5.1 31 0 = A.1 0 0 1 := hC.1.2.1
  refine ⟨_, _, rfl, ?_, iv_E_i (v := 0) hI'⟩
  unfold f_X9_failedDisk f_X9_told
  simp only [nb_1_18186, tc_1, r, k]
theorem p_27_E : ps_27_E_E iv_N iv_E := by
  intro j s0 s4 s5 s6 sR hj hI
  have hI' := hI
  obtain ⟨h1, D, S, T, m, n, N, ln, cnt, tk, f, p, A, L, W, F, ⟨⟨hP, hp, hs, hC, hR, hB, hF⟩, V, TR, ⟨z3, z11', zl, zd⟩, hu, fx⟩, hn, hN, h70⟩ := hI
  have r : sR.2.2.1 3 2 = A.1 0 0 2 := hR.1 2 (by decide)
  have k : s5.1 19 0 = A.1 0 0 2 := hC.1.2.2.1
  refine ⟨_, _, rfl, ?_, iv_E_i (v := 0) hI'⟩
  unfold f_X9_requestCount f_X9_told
  simp only [nb_2_18186, tc_2, r, k]
theorem p_28_E : ps_28_E_E iv_N iv_E := by
  intro j s0 s4 s5 s6 sR hj hI
  have hI' := hI
  obtain ⟨h1, D, S, T, m, n, N, ln, cnt, tk, f, p, A, L, W, F, ⟨⟨hP, hp, hs, hC, hR, hB, hF⟩, V, TR, ⟨z3, z11', zl, zd⟩, hu, fx⟩, hn, hN, h70⟩ := hI
  have r : sR.2.2.1 3 4 = A.1 0 0 4 := hR.1 4 (by decide)
  have k : s5.1 0 3 = A.1 0 0 4 := hC.1.2.2.2.2.1
  refine ⟨_, _, rfl, ?_, iv_E_i (v := 0) hI'⟩
  unfold f_X9_lostLines f_X9_told
  simp only [nb_4_18186, tc_4, r, k]
theorem p_40_E : ps_40_E_E iv_N iv_E := by
  intro j s0 s4 s5 s6 sR hj hI
  have hI' := hI
  obtain ⟨h1, D, S, T, m, n, N, ln, cnt, tk, f, p, A, L, W, F, ⟨⟨hP, hp, hs, hC, hR, hB, hF⟩, V, TR, ⟨z3, z11', zl, zd⟩, hu, fx⟩, hn, hN, h70⟩ := hI
  have r : sR.2.2.1 3 7 = A.1 0 0 7 := hR.1 7 (by decide)
  have k : s5.1 31 6 = A.1 0 0 7 := hC.1.2.2.2.2.2.2.2.1
  refine ⟨_, _, rfl, ?_, iv_E_i (v := 0) hI'⟩
  unfold f_X9_completedAt f_X9_told
  simp only [nb_7_18186, tc_7, r, k]
theorem p_41_E : ps_41_E_E iv_N iv_E := by
  intro j s0 s4 s5 s6 sR hj hI
  have hI' := hI
  obtain ⟨h1, D, S, T, m, n, N, ln, cnt, tk, f, p, A, L, W, F, ⟨⟨hP, hp, hs, hC, hR, hB, hF⟩, V, TR, ⟨z3, z11', zl, zd⟩, hu, fx⟩, hn, hN, h70⟩ := hI
  have r : sR.2.2.1 3 5 = A.1 0 0 5 := hR.1 5 (by decide)
  have k : s5.1 31 7 = A.1 0 0 5 := hC.1.2.2.2.2.2.1
  refine ⟨_, _, rfl, ?_, iv_E_i (v := 0) hI'⟩
  unfold f_X9_savedReads f_X9_told
  simp only [nb_5_18186, tc_5, r, k]
theorem p_42_E : ps_42_E_E iv_N iv_E := by
  intro j s0 s4 s5 s6 sR hj hI
  have hI' := hI
  obtain ⟨h1, D, S, T, m, n, N, ln, cnt, tk, f, p, A, L, W, F, ⟨⟨hP, hp, hs, hC, hR, hB, hF⟩, V, TR, ⟨z3, z11', zl, zd⟩, hu, fx⟩, hn, hN, h70⟩ := hI
  have r : sR.2.2.1 3 6 = A.1 0 0 6 := hR.1 6 (by decide)
  have k : s5.1 31 8 = A.1 0 0 6 := hC.1.2.2.2.2.2.2.1
  refine ⟨_, _, rfl, ?_, iv_E_i (v := 0) hI'⟩
  unfold f_X9_piggybackedReads f_X9_told
  simp only [nb_6_18186, tc_6, r, k]
theorem p_29_E : ps_29_E_E iv_N iv_E := by
  intro j s0 s4 s5 s6 sR hj hI
  have hI' := hI
  obtain ⟨h1, D, S, T, m, n, N, ln, cnt, tk, f, p, A, L, W, F, ⟨⟨hP, hp, hs, hC, hR, hB, hF⟩, V, TR, ⟨z3, z11', zl, zd⟩, hu, fx⟩, hn, hN, h70⟩ := hI
  have r : sR.2.2.1 3 3 = nI ln := (hR.1 3 (by decide)).trans z3
  have k : s5.1 0 2 = nI ln := by rw [hC.1.2.2.2.1, z3, z11', Int32.sub_zero]
  refine ⟨_, _, rfl, ?_, iv_E_i (v := 0) hI'⟩
  unfold f_X9_traceLines f_X9_told
  simp only [nb_3_18186, tc_3, r, k, TR.1.2.1, TR.1.2.2.1]
theorem p_38_E : ps_38_E_E iv_N iv_E := by
  intro j s0 s4 s5 s6 sR hj hI
  have hI' := hI
  obtain ⟨h1, D, S, T, m, n, N, ln, cnt, tk, f, p, A, L, W, F, ⟨⟨hP, hp, hs, hC, hR, hB, hF⟩, V, TR, ⟨z3, z11', zl, zd⟩, hu, fx⟩, hn, hN, h70⟩ := hI
  have hh : ∀ d k, d < 6 → k < 64 → A.1 3 d k = 1 → d < D := fun d k h1 h2 h3 => by
    cases f with
    | none => exact absurd h3 (V.1.2.2.1 d k h1 h2)
    | some f => exact (V.1.2.2.1 d k h1 h2 h3).1
  have k : s5.1 31 4 = nI (ab_cached A.1 S) := hC.2.1.2.1
  refine ⟨_, _, rfl, ?_, iv_E_i (v := 0) hI'⟩
  unfold f_X9_cachedUnits f_X9_told
  simp only [cached_w hp hs hh hR, k]
theorem p_39_E : ps_39_E_E iv_N iv_E := by
  intro j s0 s4 s5 s6 sR hj hI
  have hI' := hI
  obtain ⟨h1, D, S, T, m, n, N, ln, cnt, tk, f, p, A, L, W, F, ⟨⟨hP, hp, hs, hC, hR, hB, hF⟩, V, TR, ⟨z3, z11', zl, zd⟩, hu, fx⟩, hn, hN, h70⟩ := hI
  have hS := hp.2.2.2.2.2.2.1
  have hD := hp.2.2.2.2.1
  have hh : A.1 0 0 1 = -1 → ∀ k, k < S → A.1 4 k 0 ≠ 3 := fun h k hk => by
    cases f with
    | none => rw [V.1.2.1 k (by omega)]; decide
    | some f =>
      rw [V.1.1] at h
      exact absurd h (nI_nm (by have := V.1.2.1; omega))
  have k : s5.1 31 5 = nI (ab_rebuilt A.1 S) := hC.2.1.2.2
  refine ⟨_, _, rfl, ?_, iv_E_i (v := 0) hI'⟩
  unfold f_X9_rebuiltCount f_X9_told
  simp only [rebuilt_w hp hs hh hR, k]
theorem q_queue {s4 : cs_S} {s : mo_S} {p : Nat → Int32} {D S T : Nat} (hp : ab_pl p D S T) (hP : ab_P p s4) (hs : s.2.2.1 0 = p) (a b : Int32) : (∃ d t, d ≤ D ∧ t < T ∧ a = nI d ∧ b = nI t ∧ f_X2_hasQueue s4 a b = some 1 ∧ f_X9_isDisk s a = some 1 ∧ f_X9_isTenant s b = some 1) ∨ (f_X2_hasQueue s4 a b = some 0 ∧ (f_X9_isDisk s a = some 0 ∨ (f_X9_isDisk s a = some 1 ∧ f_X9_isTenant s b = some 0))) := by
  unfold f_X2_hasQueue
  rcases q_disk hp hP hs a with ⟨d, d1, d2, d3, d4⟩ | ⟨d3, d4⟩
  · rcases q_tenant hp hP hs b with ⟨t, t1, t2, t3, t4⟩ | ⟨t3, t4⟩
    · rw [d3, t3]
      simp only [i32_10, if_false]
      exact .inl ⟨d, t, d1, t1, d2, t2, trivial, d4, t4⟩
    · rw [d3, t3]
      simp only [i32_10, if_false, if_true]
      exact .inr ⟨trivial, .inr ⟨d4, t4⟩⟩
  · rw [d3]
    simp only [if_true]
    exact .inr ⟨trivial, .inl d4⟩
theorem p_19_E : ps_19_E_E iv_N iv_E := by
  intro j s0 s4 s5 s6 sR a1 a2 hj hI
  have hI' := hI
  obtain ⟨h1, D, S, T, m, n, N, ln, cnt, tk, f, p, A, L, W, F, ⟨⟨hP, hp, hs, hC, hR, hB, hF⟩, V, TR, ⟨z3, z11', zl, zd⟩, hu, fx⟩, hn, hN, h70⟩ := hI
  have hs' : (mo_i sR 2 0).2.2.1 0 = p := hs
  have hD := hp.2.2.2.2.1
  have hT := hp.2.2.2.2.2.2.2.2.1
  unfold f_X8_queueLength_E f_X9_queueLength f_X9_refuse
  rcases q_queue hp hP hs' a1 a2 with ⟨d, t, d1, t1, d2, t2, g1, g2, g3⟩ | ⟨g1, g2 | ⟨g2, g3⟩⟩
  · have hq : 6 * d + t < 42 := by omega
    have r : vn (mo_i sR 2 0) 2 (6 * d + t) 2 = nI (A.2.1 (6 * d + t)).length := (hR.2.2.2.1 _ hq).1
    have k : s5.2.1 4 (6 * d + t) = nI (A.2.1 (6 * d + t)).length := (hC.2.2.1 _ hq).1
    have nbq : pm_inb (nI (6 * d + t)) 42 = true := nb_nI hq (by decide)
    have clq : (nI (6 * d + t)).toNatClampNeg = 6 * d + t := nI_clamp (by omega)
    rw [g1, g2, g3, d2, t2]
    simp only [i32_10, if_false, numberOf_w, nbq, clq, queueOf_w, ofQueue_2 (mo_i sR 2 0) hq, r, k]
    exact .inl ⟨_, _, rfl, rfl, thr _ _, iv_E_i hI'⟩
  · rw [g1, g2]
    simp only [if_true]
    exact .inr ⟨_, _, trivial, rfl, thr _ _, iv_E_ii hI'⟩
  · rw [g1, g2, g3]
    simp only [if_true, i32_10, if_false]
    exact .inr ⟨_, _, trivial, rfl, thr _ _, iv_E_ii hI'⟩
theorem p_23_E : ps_23_E_E iv_N iv_E := by
  intro j s0 s4 s5 s6 sR a1 hj hI
  have hI' := hI
  obtain ⟨h1, D, S, T, m, n, N, ln, cnt, tk, f, p, A, L, W, F, ⟨⟨hP, hp, hs, hC, hR, hB, hF⟩, V, TR, ⟨z3, z11', zl, zd⟩, hu, fx⟩, hn, hN, h70⟩ := hI
  have hs' : (mo_i sR 2 0).2.2.1 0 = p := hs
  have hD := hp.2.2.2.2.1
  unfold f_X8_position_E f_X9_position f_X9_tellDisk f_X9_refuse
  rcases q_disk hp hP hs' a1 with ⟨d, d1, d2, g1, g2⟩ | ⟨g1, g2⟩
  · have Rd := (hR.2.2.2.2.1 d (by omega)).1 (V.2.2.2.2.1 d (by omega))
    have Cd := hC.2.2.2.1 d (by omega)
    have nbq : pm_inb (nI d) 7 = true := nb_nI (by omega) (by decide)
    have clq : (nI d).toNatClampNeg = d := nI_clamp (by omega)
    have r : vn (mo_i sR 2 0) 1 d 2 = A.1 1 d 2 := Rd.2.2.1
    rw [g1, g2, d2]
    simp only [i32_10, if_false, nbq, clq, ofDisk_2 (mo_i sR 2 0) (show d < 7 by omega), r, Cd.2.2.1]
    exact .inl ⟨_, _, rfl, rfl, thr _ _, iv_E_i hI'⟩
  · rw [g1, g2]
    simp only [if_true]
    exact .inr ⟨_, _, trivial, rfl, thr _ _, iv_E_ii hI'⟩
theorem p_24_E : ps_24_E_E iv_N iv_E := by
  intro j s0 s4 s5 s6 sR a1 hj hI
  have hI' := hI
  obtain ⟨h1, D, S, T, m, n, N, ln, cnt, tk, f, p, A, L, W, F, ⟨⟨hP, hp, hs, hC, hR, hB, hF⟩, V, TR, ⟨z3, z11', zl, zd⟩, hu, fx⟩, hn, hN, h70⟩ := hI
  have hs' : (mo_i sR 2 0).2.2.1 0 = p := hs
  have hD := hp.2.2.2.2.1
  unfold f_X8_busyTime_E f_X9_busyTime f_X9_tellDisk f_X9_refuse
  rcases q_disk hp hP hs' a1 with ⟨d, d1, d2, g1, g2⟩ | ⟨g1, g2⟩
  · have Rd := (hR.2.2.2.2.1 d (by omega)).1 (V.2.2.2.2.1 d (by omega))
    have Cd := hC.2.2.2.1 d (by omega)
    have nbq : pm_inb (nI d) 7 = true := nb_nI (by omega) (by decide)
    have clq : (nI d).toNatClampNeg = d := nI_clamp (by omega)
    have r : vn (mo_i sR 2 0) 1 d 3 = A.1 1 d 3 := Rd.2.2.2
    rw [g1, g2, d2]
    simp only [i32_10, if_false, nbq, clq, ofDisk_3 (mo_i sR 2 0) (show d < 7 by omega), r, Cd.2.2.2]
    exact .inl ⟨_, _, rfl, rfl, thr _ _, iv_E_i hI'⟩
  · rw [g1, g2]
    simp only [if_true]
    exact .inr ⟨_, _, trivial, rfl, thr _ _, iv_E_ii hI'⟩
theorem p_22_E : ps_22_E_E iv_N iv_E := by
  intro j s0 s4 s5 s6 sR a1 hj hI
  have hI' := hI
  obtain ⟨h1, D, S, T, m, n, N, ln, cnt, tk, f, p, A, L, W, F, ⟨⟨hP, hp, hs, hC, hR, hB, hF⟩, V, TR, ⟨z3, z11', zl, zd⟩, hu, fx⟩, hn, hN, h70⟩ := hI
  have hs' : (mo_i sR 2 0).2.2.1 0 = p := hs
  have hD := hp.2.2.2.2.1
  unfold f_X8_busyUntil_E f_X9_busyUntil f_X9_tellDisk f_X9_refuse
  rcases q_disk hp hP hs' a1 with ⟨d, d1, d2, g1, g2⟩ | ⟨g1, g2⟩
  · have Rd := (hR.2.2.2.2.1 d (by omega)).1 (V.2.2.2.2.1 d (by omega))
    have Cd := hC.2.2.2.1 d (by omega)
    have nbq : pm_inb (nI d) 7 = true := nb_nI (by omega) (by decide)
    have clq : (nI d).toNatClampNeg = d := nI_clamp (by omega)
    have r : vn (mo_i sR 2 0) 1 d 1 = A.1 1 d 1 := Rd.2.1
    have B8 := hB.2.2.2.2.2.2.2.1 d (by omega)
    rw [g1, g2, d2]
    simp only [i32_10, if_false, nbq, clq, ofDisk_1 (mo_i sR 2 0) (show d < 7 by omega), r, Cd.2.1, Cd.1]
    cases hsv : A.2.2.2 d with
    | none =>
      simp only [if_true, B8.1 hsv]
      exact .inl ⟨_, _, rfl, rfl, thr _ _, iv_E_i hI'⟩
    | some c =>
      have hc := hB.1.2.2.2.2.2.2 d c (by omega) hsv
      simp only [if_neg (nI_nm (show c < 2 ^ 31 by omega))]
      exact .inl ⟨_, _, rfl, rfl, thr _ _, iv_E_i hI'⟩
  · rw [g1, g2]
    simp only [if_true]
    exact .inr ⟨_, _, trivial, rfl, thr _ _, iv_E_ii hI'⟩
theorem p_21_E : ps_21_E_E iv_N iv_E := by
  intro j s0 s4 s5 s6 sR a1 hj hI
  have hI' := hI
  obtain ⟨h1, D, S, T, m, n, N, ln, cnt, tk, f, p, A, L, W, F, ⟨⟨hP, hp, hs, hC, hR, hB, hF⟩, V, TR, ⟨z3, z11', zl, zd⟩, hu, fx⟩, hn, hN, h70⟩ := hI
  have hs' : (mo_i sR 2 0).2.2.1 0 = p := hs
  have hD := hp.2.2.2.2.1
  unfold f_X8_serving_E f_X9_serving f_X9_refuse
  rcases q_disk hp hP hs' a1 with ⟨d, d1, d2, g1, g2⟩ | ⟨g1, g2⟩
  · have Rd := (hR.2.2.2.2.1 d (by omega)).1 (V.2.2.2.2.1 d (by omega))
    have Cd := hC.2.2.2.1 d (by omega)
    have nbq : pm_inb (nI d) 7 = true := nb_nI (by omega) (by decide)
    have clq : (nI d).toNatClampNeg = d := nI_clamp (by omega)
    have r : vn (mo_i sR 2 0) 1 d 0 = (match A.2.2.2 d with | none => -1 | some c => nI (W c)) := Rd.1
    rw [g1, g2, d2]
    simp only [i32_10, if_false, nbq, clq, ofDisk_0 (mo_i sR 2 0) (show d < 7 by omega), r, Cd.1]
    cases hsv : A.2.2.2 d with
    | none =>
      simp only [if_true]
      exact .inl ⟨_, _, rfl, rfl, thr _ _, iv_E_i hI'⟩
    | some c =>
      have hc := hB.1.2.2.2.2.2.2 d c (by omega) hsv
      have lc : ab_live A c := .inr ⟨d, by omega, hsv⟩
      have Lc := (hB.2.1 c).mpr lc
      have h5 := hB.2.2.2.2.1 c Lc
      have hm := hB.2.2.2.2.2.1.1
      have O := hR.2.2.2.2.2.2.2.2.2.1 c lc
      have o0 : vn (mo_i sR 2 0) 7 (W c) 0 = ab_ten A c := O.2.1
      have nW : ¬ nI (W c) = -1 := nI_nm (by have := O.1; omega)
      have tb : f_X5_tenantBehind s5 (nI c) = some (ab_ten A c) := by
        unfold f_X5_tenantBehind ab_ten
        rw [isOfRebuild_w hc]
        by_cases u : c < 448
        · simp only [if_pos u, i32_10, if_false]
        · have hcnt : nI (c / 7 - 64) < A.1 0 0 2 := by rw [hB.2.2.2.2.2.1.2.1]; exact (nI_ltI (by omega) (by omega)).mpr (by omega)
          have k20 := (hC.2.2.2.2.2.1 (c / 7 - 64) (by omega) hcnt).1
          simp (disch := omega) only [if_neg u, if_true, requestBehind_w hc (show 448 ≤ c by omega), nb_nI, nI_clamp, k20]
      simp only [if_neg (nI_nm (show c < 2 ^ 31 by omega)), if_neg nW, tb, of_0 (mo_i sR 2 0) O.1, o0]
      exact .inl ⟨_, _, rfl, rfl, thr _ _, iv_E_i hI'⟩
  · rw [g1, g2]
    simp only [if_true]
    exact .inr ⟨_, _, trivial, rfl, thr _ _, iv_E_ii hI'⟩
