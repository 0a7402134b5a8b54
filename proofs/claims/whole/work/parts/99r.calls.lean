/-! The calls that change the engine, with an array loaded. -/
theorem ab_R_cg {D : Nat} {A : ab_S} {s s' : mo_S} {W : Nat → Nat} {F : List Nat} (h3 : s'.2.2.1 3 = s.2.2.1 3) (h5 : s'.2.2.2 5 = s.2.2.2 5) (H : ab_R D A s W F) : ab_R D A s' W F := by
  have hv : ∀ g i w, vn s' g i w = vn s g i w := fun g i w => by unfold vn; rw [h3]
  have ht : ∀ i w, vt s' i w = vt s i w := fun i w => by unfold vt; rw [h5]
  have hq : ∀ i w, vq s' i w = vq s i w := fun i w => by unfold vq; rw [h5]
  refine ab_R_v H rfl (hv _ _ _) (fun _ _ => hv _ _ _) (fun _ _ => hv _ _ _) ht hq ?_ (fun _ _ => hv _ _ _) (fun _ _ => rfl) ?_ ?_ ?_ ?_ (fun c _ => ⟨rfl, rfl, rfl⟩)
  · intro w h
    rw [hv]
    rcases h with h | rfl | rfl
    · exact H.1 w h
    · exact H.2.1
    · exact H.2.2.1
  · intro d k h1 h2
    rw [hv]
    exact H.2.2.2.2.2.1 d k h1 h2
  · intro k h1
    rw [hv]
    exact H.2.2.2.2.2.2.1 k h1
  · intro r w h1 h2 h3
    rw [hv]
    exact H.2.2.2.2.2.2.2.1 r w h1 h2 h3
  · intro t w h1 h2
    rw [hv]
    exact H.2.2.2.2.2.2.2.2.1 t w h1 h2
theorem ab_Z.cg {D S T m n N ln cnt : Nat} {tk : Nat → Nat} {f : Option Nat} {p : Nat → Int32} {A : ab_S} {L : Nat → Bool} {W : Nat → Nat} {F : List Nat} {s4 s5 s6 : cs_S} {s s' : mo_S} (h0 : s'.2.2.1 0 = s.2.2.1 0) (h3 : s'.2.2.1 3 = s.2.2.1 3) (h17 : s'.2.2.1 17 = s.2.2.1 17) (h5 : s'.2.2.2 5 = s.2.2.2 5) (h19 : s'.1 19 = s.1 19) (Z : ab_Z D S T m n N ln cnt tk f p A L W F s4 s5 s6 s) : ab_Z D S T m n N ln cnt tk f p A L W F s4 s5 s6 s' := by
  obtain ⟨⟨hP, hp, hs, hC, hR, hB, hF⟩, V, TR, Z4⟩ := Z
  refine ⟨⟨hP, hp, by rw [h0]; exact hs, hC, ab_R_cg h3 h5 hR, hB, hF⟩, V, ?_, Z4⟩
  unfold ab_TR at TR ⊢
  rw [h17, h19]
  exact TR
theorem tx_F {s0 : cs_S} {s s' : mo_S} (f : rf_F s s') (h : tx_R s0 s) : tx_R s0 s' := by
  unfold tx_R at h ⊢
  rw [f.1, f.2.2.1 7 (by decide)]
  exact h
theorem p_0_E : ps_0_E_A iv_N iv_E := by
  intro j s0 s4 s5 s6 sR a1 a2 a3 a4 a5 hj hI
  obtain ⟨h1, D, S, T, m, n, N, ln, cnt, tk, f, p, A, L, W, F, Z, hn, hN, h70⟩ := hI
  have st : ∀ {z0 : cs_S} {sR1 : mo_S}, tx_R z0 sR1 → fr_T sR sR1 → iv_E (j + 1) z0 s4 s5 s6 sR1 := fun {z0 sR1} t fr => ⟨t, D, S, T, m, n, N, ln, cnt, tk, f, p, A, L, W, F, Z.cg (fr.2.2.1 0 (by decide)) (fr.2.2.1 3 (by decide)) (fr.2.2.1 17 (by decide)) (by rw [fr.2.2.2]) (fr.1 19 (by decide) (by decide)), hn, by omega, h70⟩
  rcases fd_all a1 a2 a3 a4 a5 h1 with ⟨r, z0, sR1, g1, g2, g3, g4, g5⟩ | ⟨b, z0, sR1, g1, g2, g3, g4, g5⟩
  · exact .inl ⟨r, z0, sR1, g1, g2, g3, st g4 g5⟩
  · exact .inr ⟨b, z0, sR1, g1, g2, g3, st g4 g5⟩
theorem p_3_E : ps_3_E_A iv_N iv_E := fun j s0 s4 s5 s6 sR hj hI => ⟨_, _, rfl, by rw [hI.1.2.1]; rfl, iv_E_i hI⟩
theorem p_4_E : ps_4_E_A iv_N iv_E := fun j s0 s4 s5 s6 sR hj hI => ⟨_, _, rfl, by rw [hI.1.2.2]; rfl, iv_E_i hI⟩
theorem p_5_E : ps_5_E_E iv_N iv_E := by
  intro j s0 s4 s5 s6 sR hj hI
  have hI' := hI
  obtain ⟨h1, D, S, T, m, n, N, ln, cnt, tk, f, p, A, L, W, F, ⟨⟨hP, hp, hs, hC, hR, hB, hF⟩, V, TR, Z4⟩, hn, hN, h70⟩ := hI
  refine ⟨_, _, rfl, ?_, iv_E_i (v := 0) hI'⟩
  unfold f_X9_diskCount f_X9_told
  rw [disks_w hs, hP.1]
theorem p_6_E : ps_6_E_E iv_N iv_E := by
  intro j s0 s4 s5 s6 sR hj hI
  have hI' := hI
  obtain ⟨h1, D, S, T, m, n, N, ln, cnt, tk, f, p, A, L, W, F, ⟨⟨hP, hp, hs, hC, hR, hB, hF⟩, V, TR, Z4⟩, hn, hN, h70⟩ := hI
  refine ⟨_, _, rfl, ?_, iv_E_i (v := 0) hI'⟩
  unfold f_X9_stripeCount f_X9_told
  simp only [nb_1_26, tc_1, hs, hP.2.1]
theorem p_7_E : ps_7_E_E iv_N iv_E := by
  intro j s0 s4 s5 s6 sR hj hI
  have hI' := hI
  obtain ⟨h1, D, S, T, m, n, N, ln, cnt, tk, f, p, A, L, W, F, ⟨⟨hP, hp, hs, hC, hR, hB, hF⟩, V, TR, Z4⟩, hn, hN, h70⟩ := hI
  refine ⟨_, _, rfl, ?_, iv_E_i (v := 0) hI'⟩
  unfold f_X9_tenantCount f_X9_told
  simp only [nb_6_26, tc_6, hs, hP.2.2.2.2.2.2.1]
theorem thr (s : mo_S) (v : Int32) : f_X9_thrown (mo_i s 2 v) = some v := by
  unfold f_X9_thrown
  rw [mo_i_1, if_pos rfl]
theorem p_8_E : ps_8_E_E iv_N iv_E := by
  intro j s0 s4 s5 s6 sR a1 hj hI
  have hI' := hI
  obtain ⟨h1, D, S, T, m, n, N, ln, cnt, tk, f, p, A, L, W, F, ⟨⟨hP, hp, hs, hC, hR, hB, hF⟩, V, TR, Z4⟩, hn, hN, h70⟩ := hI
  have hs' : (mo_i sR 2 0).2.2.1 0 = p := hs
  unfold f_X8_stripeOf_E f_X9_stripeOf f_X9_refuse
  rcases q_unit hp hP hs' a1 with ⟨u, u1, u2, u3, u4⟩ | ⟨u3, u4⟩
  · rw [u3, u4, u2]
    simp only [i32_10, if_false, (ab_geoC hp hP u1).1, (ab_geoR hp hs' u1).1]
    exact .inl ⟨_, _, rfl, rfl, thr _ _, iv_E_i hI'⟩
  · rw [u3, u4]
    simp only [if_true]
    exact .inr ⟨_, _, trivial, rfl, thr _ _, iv_E_ii hI'⟩
theorem p_9_E : ps_9_E_E iv_N iv_E := by
  intro j s0 s4 s5 s6 sR a1 hj hI
  have hI' := hI
  obtain ⟨h1, D, S, T, m, n, N, ln, cnt, tk, f, p, A, L, W, F, ⟨⟨hP, hp, hs, hC, hR, hB, hF⟩, V, TR, Z4⟩, hn, hN, h70⟩ := hI
  have hs' : (mo_i sR 2 0).2.2.1 0 = p := hs
  unfold f_X8_diskOf_E f_X9_diskOf f_X9_refuse
  rcases q_unit hp hP hs' a1 with ⟨u, u1, u2, u3, u4⟩ | ⟨u3, u4⟩
  · rw [u3, u4, u2]
    simp only [i32_10, if_false, (ab_geoC hp hP u1).2.1, (ab_geoR hp hs' u1).2.1]
    exact .inl ⟨_, _, rfl, rfl, thr _ _, iv_E_i hI'⟩
  · rw [u3, u4]
    simp only [if_true]
    exact .inr ⟨_, _, trivial, rfl, thr _ _, iv_E_ii hI'⟩
theorem p_10_E : ps_10_E_E iv_N iv_E := by
  intro j s0 s4 s5 s6 sR a1 hj hI
  have hI' := hI
  obtain ⟨h1, D, S, T, m, n, N, ln, cnt, tk, f, p, A, L, W, F, ⟨⟨hP, hp, hs, hC, hR, hB, hF⟩, V, TR, Z4⟩, hn, hN, h70⟩ := hI
  have hs' : (mo_i sR 2 0).2.2.1 0 = p := hs
  have u0 : 0 < S * (D - 1) := Nat.mul_pos (by have := hp.2.2.2.2.2.1; omega) (by have := hp.2.2.2.1; omega)
  have hS := hp.2.2.2.2.2.2.1
  unfold f_X8_parityDisk_E f_X9_parityDisk f_X9_refuse
  rcases q_stripe hp hP hs' a1 with ⟨u, u1, u2, u3, u4⟩ | ⟨u3, u4⟩
  · rw [u3, u4, u2]
    simp only [i32_10, if_false, (ab_geoC hp hP u0).2.2 u (by omega), (ab_geoR hp hs' u0).2.2 u (by omega)]
    exact .inl ⟨_, _, rfl, rfl, thr _ _, iv_E_i hI'⟩
  · rw [u3, u4]
    simp only [if_true]
    exact .inr ⟨_, _, trivial, rfl, thr _ _, iv_E_ii hI'⟩
theorem p_12_E : ps_12_E_E iv_N iv_E := by
  intro j s0 s4 s5 s6 sR a1 a2 a3 a4 hj hI
  have hI' := hI
  obtain ⟨h1, D, S, T, m, n, N, ln, cnt, tk, f, p, A, L, W, F, Z, hn, hN, h70⟩ := hI
  have Z1 := Z.i 0
  obtain ⟨J, V, TR, ⟨z3, z11', zl, zd⟩, hu, fx⟩ := Z1
  have hP := J.1
  have hp := J.2.1
  have hs := J.2.2.1
  have hB := J.2.2.2.2.2.1
  have hm := hB.2.2.2.2.2.1.1
  have nowC : s5.1 0 4 = nI n := J.2.2.2.1.1.1.trans hB.2.2.2.2.2.1.2.2.2
  have nowR : (mo_i sR 2 0).2.2.1 3 0 = nI n := (J.2.2.2.2.1.1 0 (by decide)).trans hB.2.2.2.2.2.1.2.2.2
  have cC : s5.1 19 0 = nI m := J.2.2.2.1.1.2.2.1.trans hB.2.2.2.2.2.1.2.1
  have cR : (mo_i sR 2 0).2.2.1 3 2 = nI m := (J.2.2.2.2.1.1 2 (by decide)).trans hB.2.2.2.2.2.1.2.1
  generalize hx : (if a3 = 0 then (0 : Int32) else 1) = x
  have hx01 : x = 0 ∨ x = 1 := by
    rw [← hx]
    split
    · exact .inl rfl
    · exact .inr rfl
  unfold f_X8_submit_E f_X9_submit f_X9_refuse
  rcases q_client hp hP hs a1 with ⟨t, t0, t1, t2, t3, t4⟩ | ⟨t3, t4⟩
  rotate_left
  · rw [t3, t4]
    simp only [if_true]
    exact .inr (.inr (.inr ⟨_, _, _, rfl, rfl, thr _ _, iv_E_ii hI'⟩))
  rw [t3, t4]
  simp only [i32_10, if_false]
  rcases q_unit hp hP hs a2 with ⟨u, u1, u2, u3, u4⟩ | ⟨u3, u4⟩
  rotate_left
  · rw [u3, u4]
    simp only [if_true]
    exact .inr (.inr (.inr ⟨_, _, _, rfl, rfl, thr _ _, iv_E_ii hI'⟩))
  rw [u3, u4]
  simp only [i32_10, if_false, nb_2_18186, nb_0_18186, tc_2, tc_0, cC, cR, nowC, nowR]
  have full : m < 400 ∨ (¬ nI m < 400 ∧ nI m = 400) := by
    by_cases w : m < 400
    · exact .inl w
    · have : m = 400 := by omega
      rw [this]
      exact .inr ⟨by decide, rfl⟩
  have core : m < 400 → ∃ z5 sR1, f_X1_accept s4 s5 a1 a2 x a4 = some (nI m, z5) ∧ (if x = 0 then (match f_X9_request (mo_i sR 2 0) a1 a2 0 a4 with | none => none | some (r, s') => some (r, s')) else (match f_X9_request (mo_i sR 2 0) a1 a2 1 a4 with | none => none | some (r, s') => some (r, s'))) = some (nI m, sR1) ∧ f_X9_thrown sR1 = some 0 ∧ iv_E (j + 1) s0 s4 z5 s6 sR1 := by
    intro w
    obtain ⟨s52, s2, W2, F2, A2, L2, c1, c2, c3, J2, V2, af⟩ := ab_acc (t := t) (u := u) (x := x) (due := a4) w t0 t1 u1 hx01 (by omega) J V
    refine ⟨s52, s2, by rw [t2, u2]; exact c1, ?_, ?_, tx_F c3 (tx_R_i h1), D, S, T, m + 1, n, N + 8, ln, cnt, tk, f, p, A2, L2, W2, F2, ⟨J2, V2, TR.fr c3, ⟨by rw [af.2.1 3 (by decide)]; exact z3, by rw [af.2.1 11 (by decide)]; exact z11', zl, zd⟩, fun d c h1 h2 => ?_, fun f' hf => ?_⟩, hn, by omega, fun h => by rw [af.2.1 7 (by decide)]; exact h70 h⟩
    · rw [t2, u2]
      rcases hx01 with h | h
      · rw [h] at c2
        rw [if_pos h, c2]
      · rw [h] at c2
        rw [if_neg (by rw [h]; decide), c2]
    · unfold f_X9_thrown
      rw [c3.1]
      exact thr sR 0
    · rw [af.1] at h2
      rw [af.2.2.1]
      exact hu d c h1 h2
    · have e : ab_started A2.1 S = ab_started A.1 S := by
        unfold ab_started
        simp only [af.2.2.2]
      rw [e]
      rcases fx f' hf with h | h
      · exact .inl (fun k hk => by rw [af.2.2.2]; exact h k hk)
      · exact .inr h
  by_cases d1 : a4 = -1
  · simp only [if_pos d1]
    rcases full with w | ⟨w1, w2⟩
    · have c4 : nI m < 400 := (nI_ltI (b := 400) (by omega) (by decide)).mpr w
      have r4 : ¬ nI m = 400 := fun h => absurd ((nI_eq (b := 400) (by omega) (by decide)).mp h) (by omega)
      obtain ⟨z5, sR1, g1, g2, g3, g4⟩ := core w
      simp only [if_pos c4, if_neg r4, g1]
      exact .inl ⟨_, _, _, rfl, g2, g3, g4⟩
    · simp only [if_neg w1, if_pos w2]
      exact .inr (.inl ⟨_, _, _, rfl, rfl, thr _ _, iv_E_ii hI'⟩)
  · simp only [if_neg d1]
    unfold f_X9_in
    by_cases d2 : a4 < nI n
    · simp only [if_pos d2, if_true]
      exact .inr (.inr (.inl ⟨_, _, _, rfl, rfl, thr _ _, iv_E_ii hI'⟩))
    · simp only [if_neg d2]
      by_cases d3 : a4 ≤ 99999
      · have d4 : ¬ (99999 : Int32) < a4 := fun h => by
          have h1 := Int32.lt_iff_toInt_lt.mp h
          have h2 := Int32.le_iff_toInt_le.mp d3
          omega
        simp only [if_pos d3, if_neg d4, i32_10, if_false]
        rcases full with w | ⟨w1, w2⟩
        · have c4 : nI m < 400 := (nI_ltI (b := 400) (by omega) (by decide)).mpr w
          have r4 : ¬ nI m = 400 := fun h => absurd ((nI_eq (b := 400) (by omega) (by decide)).mp h) (by omega)
          obtain ⟨z5, sR1, g1, g2, g3, g4⟩ := core w
          simp only [if_pos c4, if_neg r4, g1]
          exact .inl ⟨_, _, _, rfl, g2, g3, g4⟩
        · simp only [if_neg w1, if_pos w2]
          exact .inr (.inl ⟨_, _, _, rfl, rfl, thr _ _, iv_E_ii hI'⟩)
      · have d4 : (99999 : Int32) < a4 := Int32.lt_iff_toInt_lt.mpr (by
          have h2 : ¬ a4.toInt ≤ (99999 : Int32).toInt := fun h => d3 (Int32.le_iff_toInt_le.mpr h)
          omega)
        simp only [if_neg d3, if_pos d4, if_true]
        exact .inr (.inr (.inl ⟨_, _, _, rfl, rfl, thr _ _, iv_E_ii hI'⟩))
theorem p_13_E : ps_13_E_E iv_N iv_E := by
  intro j s0 s4 s5 s6 sR a1 hj hI
  have hI' := hI
  obtain ⟨h1, D, S, T, m, n, N, ln, cnt, tk, f, p, A, L, W, F, Z, hn, hN, h70⟩ := hI
  have Z1 := Z.i 0
  have hP := Z1.1.1
  have hp := Z1.1.2.1
  have hs := Z1.1.2.2.1
  have hD := hp.2.2.2.2.1
  have hD3 := hp.2.2.2.1
  obtain ⟨q1, q2, _⟩ := ab_p01 hp
  have ff : A.1 0 0 1 = ab_fw f := by
    cases f with
    | none => exact Z1.2.1.1.1
    | some f => exact Z1.2.1.1.1
  have fC : s5.1 31 0 = ab_fw f := Z1.1.2.2.2.1.1.2.1.trans ff
  have fR : (mo_i sR 2 0).2.2.1 3 1 = ab_fw f := (Z1.1.2.2.2.2.1.1 1 (by decide)).trans ff
  unfold f_X8_fail_E f_X9_fail f_X9_refuse f_X9_in
  rw [isArray_w hp hs, disks_w hs, hP.1]
  simp only [i32_10, if_false, q2]
  rcases rg a1 (b := D) (by omega) (by omega) with ⟨k, k1, k2, k3, k4, k5⟩ | k | ⟨k3, k4, k5⟩
  · have k6 : a1 < p 0 := by
      rw [q1, k2]
      exact (nI_ltI (by omega) (by omega)).mpr k1
    simp only [if_neg k3, if_pos k6, if_neg k5, i32_10, if_false, nb_1_18186, tc_1, fC, fR]
    cases f with
    | none =>
      obtain ⟨s5', s', W', F', A', L', x, g1, g2, g3, Z'⟩ := ab_fail k1 (by omega) Z1
      have e : ab_fw none = -1 := rfl
      rw [← k2] at g1 g2
      simp only [e, if_true, g1, g2]
      refine .inl ⟨_, _, _, rfl, rfl, ?_, tx_F g3 (tx_R_i h1), D, S, T, m, n, N + 200000, ln, cnt, tk, some k, p, A', L', W', F', Z', hn, by omega, (fun h => by cases h)⟩
      unfold f_X9_thrown
      rw [g3.1]
      exact thr sR 0
    | some f =>
      have nf : ¬ ab_fw (some f) = -1 := nI_nm (by have := Z1.2.1.1.2.1; omega)
      simp only [if_neg nf]
      exact .inr (.inl ⟨_, _, _, rfl, rfl, thr _ _, iv_E_ii hI'⟩)
  · simp only [if_pos k, if_true]
    exact .inr (.inr ⟨_, _, _, rfl, rfl, thr _ _, iv_E_ii hI'⟩)
  · have k6 : ¬ a1 < p 0 := fun h => by
      rw [q1] at h
      have h1 := Int32.lt_iff_toInt_lt.mp h
      have h2 := Int32.le_iff_toInt_le.mp k4
      omega
    simp only [if_neg k3, if_neg k6, if_pos k5, if_true]
    exact .inr (.inr ⟨_, _, _, rfl, rfl, thr _ _, iv_E_ii hI'⟩)
