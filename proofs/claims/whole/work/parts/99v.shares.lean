/-! promise and setShare, with an array loaded. -/
theorem ab_Z_pr {D S T m n N ln cnt : Nat} {tk : Nat → Nat} {f : Option Nat} {p : Nat → Int32} {A : ab_S} {L : Nat → Bool} {W : Nat → Nat} {F : List Nat} {s4 s5 s6 : cs_S} {s : mo_S} (x : Int32) (Z : ab_Z D S T m n N ln cnt tk f p A L W F s4 s5 s6 s) : rf_F s (us (us s 0 0 9 (nI n)) 0 0 10 x) ∧ ab_Z D S T m n N ln cnt tk f p (ab_v (ab_v A 0 0 10 x) 0 0 9 (nI n)) L W F s4 (cs_i (cs_i s5 31 9 x) 31 10 (nI n)) s6 (us (us s 0 0 9 (nI n)) 0 0 10 x) := by
  obtain ⟨⟨hP, hp, hs, hC, hR, hB, hF⟩, V, TR, ⟨z3, z11', zl, zd⟩, hu, fx⟩ := Z
  obtain ⟨s1, c1, F1, n1, t1, q1⟩ := rf_us s (nI n) (eb_0 (w := 9) (by decide))
  obtain ⟨s2, c2, F2, n2, t2, q2⟩ := rf_us s1 x (eb_0 (w := 10) (by decide))
  rw [c1, c2]
  have R2 := ab_R_0 (by decide) (by decide) n2 t2 q2 (ab_R_0 (by decide) (by decide) n1 t1 q1 hR)
  have ee : ab_v (ab_v A 0 0 9 (nI n)) 0 0 10 x = ab_v (ab_v A 0 0 10 x) 0 0 9 (nI n) := by
    refine ab_ext (fun g i w => ?_) rfl
    simp only [ab_v_1]
    by_cases u : g = 0 ∧ i = 0 ∧ w = 10
    · rw [if_pos u, if_neg (by omega), if_pos u]
    · rw [if_neg u]
      by_cases v : g = 0 ∧ i = 0 ∧ w = 9
      · rw [if_pos v, if_pos v]
      · rw [if_neg v, if_neg v, if_neg u]
  rw [ee] at R2
  have v1 : ∀ g i w, ¬ (g = 0 ∧ (w = 9 ∨ w = 10)) → (ab_v (ab_v A 0 0 10 x) 0 0 9 (nI n)).1 g i w = A.1 g i w := fun g i w h => by rw [ab_v_1, if_neg (by omega), ab_v_1, if_neg (by omega)]
  refine ⟨F1.trans F2, ⟨hP, hp, by rw [(F1.trans F2).2.2.1 0 (by decide)]; exact hs, ab_C_0 (w := 9) (by omega) (ab_C_0 (w := 10) (by omega) hC), R2, ab_B_0 (by decide) (by decide) (ab_B_0 (by decide) (by decide) hB), hF⟩, ab_V_0 (by decide) (ab_V_0 (by decide) V), TR.fr (F1.trans F2), ⟨by rw [v1 _ _ _ (by omega)]; exact z3, by rw [v1 _ _ _ (by omega)]; exact z11', zl, zd⟩, fun d c h1 h2 => by rw [v1 _ _ _ (by omega)]; exact hu d c h1 h2, fun f' hf => ?_⟩
  rw [(ab_cnts (A := A) (A' := ab_v (ab_v A 0 0 10 x) 0 0 9 (nI n)) (fun i w => v1 _ _ _ (by omega)) (fun i w => v1 _ _ _ (by omega)) S).1]
  rcases fx f' hf with h | h
  · exact .inl (fun k hk => by rw [v1 _ _ _ (by omega)]; exact h k hk)
  · exact .inr h
theorem p_15_E : ps_15_E_E iv_N iv_E := by
  intro j s0 s4 s5 s6 sR a1 hj hI
  have hI' := hI
  obtain ⟨h1, D, S, T, m, n, N, ln, cnt, tk, f, p, A, L, W, F, Z, hn, hN, h70⟩ := hI
  have Z1 := Z.i 0
  have hp := Z1.1.2.1
  have hs := Z1.1.2.2.1
  have hB := Z1.1.2.2.2.2.2.1
  have nowC : s5.1 0 4 = nI n := Z1.1.2.2.2.1.1.1.trans hB.2.2.2.2.2.1.2.2.2
  have nowR : (mo_i sR 2 0).2.2.1 3 0 = nI n := (Z1.1.2.2.2.2.1.1 0 (by decide)).trans hB.2.2.2.2.2.1.2.2.2
  have c9 : s5.1 31 9 = A.1 0 0 10 := Z1.1.2.2.2.1.1.2.2.2.2.2.2.2.2.2
  have r10 : (mo_i sR 2 0).2.2.1 3 10 = A.1 0 0 10 := Z1.1.2.2.2.2.1.2.2.1
  obtain ⟨Fz, Z'⟩ := ab_Z_pr a1 Z1
  have i4 : (cs_i s5 31 9 a1).1 0 4 = nI n := by rw [ci_1, if_neg (by omega)]; exact nowC
  have es : mo_a (mo_a (mo_i sR 2 0) 3 9 (nI n)) 3 10 a1 = us (us (mo_i sR 2 0) 0 0 9 (nI n)) 0 0 10 a1 := rfl
  have fin : ∃ (r : Int32) (z5 : cs_S) (sR1 : mo_S), (some (.inl (A.1 0 0 10), cs_i (cs_i s5 31 9 a1) 31 10 (nI n)) : Option ((Int32 ⊕ Nat) × cs_S)) = some (.inl r, z5) ∧ some (A.1 0 0 10, mo_a (mo_a (mo_i sR 2 0) 3 9 (nI n)) 3 10 a1) = some (r, sR1) ∧ f_X9_thrown sR1 = some 0 ∧ iv_E (j + 1) s0 s4 z5 s6 sR1 := by
    refine ⟨_, _, _, rfl, rfl, ?_, ?_⟩
    · rw [es]
      unfold f_X9_thrown
      rw [Fz.1]
      exact thr sR 0
    · rw [es]
      exact ⟨tx_F Fz (tx_R_i h1), D, S, T, m, n, N, ln, cnt, tk, f, p, _, L, W, F, Z', hn, by omega, fun h => by rw [ab_v_1, if_neg (by omega), ab_v_1, if_neg (by omega)]; exact h70 h⟩
  unfold f_X8_promise_E f_X8_now_E fc_X8_promise_E_c1 f_X9_promise f_X9_refuse f_X9_in
  simp only [nb_0_18186, nb_9_18186, nb_10_18186, tc_0, tc_9, tc_10, nowC, nowR, isArray_w hp hs, c9, r10, i4, i32_10, if_false]
  by_cases u : a1 = -1
  · simp only [if_pos u]
    exact .inl fin
  · simp only [if_neg u, nI_1]
    by_cases v : a1 ≤ nI n
    · have v' : a1 < nI (n + 1) := by
        have h2 := Int32.le_iff_toInt_le.mp v
        rw [nI_toInt (by omega)] at h2
        refine Int32.lt_iff_toInt_lt.mpr ?_
        rw [nI_toInt (by omega)]
        omega
      simp only [if_pos v, if_pos v', if_true]
      exact .inr ⟨_, _, _, rfl, rfl, thr _ _, iv_E_ii hI'⟩
    · have v' : ¬ a1 < nI (n + 1) := fun h => v (by
        have h2 := Int32.lt_iff_toInt_lt.mp h
        rw [nI_toInt (by omega)] at h2
        refine Int32.le_iff_toInt_le.mpr ?_
        rw [nI_toInt (by omega)]
        omega)
      simp only [if_neg v, if_neg v']
      by_cases d3 : a1 ≤ 99999
      · have d4 : ¬ (99999 : Int32) < a1 := fun h => by
          have h1 := Int32.lt_iff_toInt_lt.mp h
          have h2 := Int32.le_iff_toInt_le.mp d3
          omega
        simp only [if_pos d3, if_neg d4, i32_10, if_false]
        exact .inl fin
      · have d4 : (99999 : Int32) < a1 := Int32.lt_iff_toInt_lt.mpr (by
          have h2 : ¬ a1.toInt ≤ (99999 : Int32).toInt := fun h => d3 (Int32.le_iff_toInt_le.mpr h)
          omega)
        simp only [if_neg d3, if_pos d4, if_true]
        exact .inr ⟨_, _, _, rfl, rfl, thr _ _, iv_E_ii hI'⟩
/-- other shares: nothing of the engine's state speaks of them -/
theorem ab_Z_sh {D S T m n N ln cnt t : Nat} {tk : Nat → Nat} {f : Option Nat} {p p' : Nat → Int32} {A : ab_S} {L : Nat → Bool} {W : Nat → Nat} {F : List Nat} {s4 s4' s5 s6 : cs_S} {s s' : mo_S} (hP' : ab_P p' s4') (hp' : ab_pl p' D S T) (h4 : p' 4 = p 4) (hs' : s'.2.2.1 0 = p') (h3 : s'.2.2.1 3 = s.2.2.1 3) (h17 : s'.2.2.1 17 = s.2.2.1 17) (h5 : s'.2.2.2 5 = s.2.2.2 5) (h19 : s'.1 19 = s.1 19) (Z : ab_Z D S T m n N ln cnt tk f p A L W F s4 s5 s6 s) : ab_Z D S T m n N ln cnt tk f p' A L W F s4' s5 s6 s' := by
  obtain ⟨⟨hP, hp, hs, hC, hR, hB, hF⟩, V, TR, Z4, hu, fx⟩ := Z
  refine ⟨⟨hP', hp', hs', hC, ab_R_cg h3 h5 hR, hB, hF⟩, V, ?_, Z4, hu, fun f' hf => by rw [h4]; exact fx f' hf⟩
  unfold ab_TR at TR ⊢
  rw [h17, h19]
  exact TR
theorem i32_nI {a : Int32} {lo hi : Nat} (h1 : ¬ a < nI lo) (h2 : ¬ nI hi < a) (hl : lo < 2 ^ 31) (hh : hi < 2 ^ 31) : ∃ k, lo ≤ k ∧ k ≤ hi ∧ a = nI k := by
  have n0 : ¬ a < 0 := fun h => h1 (by
    have := Int32.lt_iff_toInt_lt.mp h
    refine Int32.lt_iff_toInt_lt.mpr ?_
    rw [show (0 : Int32).toInt = 0 from rfl] at this
    rw [nI_toInt hl]
    omega)
  obtain ⟨k, hk, rfl⟩ := nI_of n0
  refine ⟨k, ?_, ?_, rfl⟩
  · apply Classical.byContradiction
    intro h
    exact h1 ((nI_ltI hk hl).mpr (by omega))
  · apply Classical.byContradiction
    intro h
    exact h2 ((nI_ltI hh hk).mpr (by omega))
theorem p_16_E : ps_16_E_E iv_N iv_E := by
  intro j s0 s4 s5 s6 sR a1 a2 a3 a4 hj hI
  have hI' := hI
  obtain ⟨h1, D, S, T, m, n, N, ln, cnt, tk, f, p, A, L, W, F, Z, hn, hN, h70⟩ := hI
  have Z1 := Z.i 0
  have hP := Z1.1.1
  have hp := Z1.1.2.1
  have hs := Z1.1.2.2.1
  have hT := hp.2.2.2.2.2.2.2.2.1
  unfold f_X8_setShare_E f_X9_setShare f_X9_refuse
  rcases q_tenant hp hP hs a1 with ⟨t, t1, t2, g1, g2⟩ | ⟨g1, g2⟩
  rotate_left
  · rw [g1, g2]
    simp only [if_true]
    exact .inr (.inr ⟨_, _, _, rfl, rfl, thr _ _, iv_E_ii hI'⟩)
  rw [g1, g2, t2]
  simp only [i32_10, if_false]
  unfold f_X2_isShare f_X9_in f_X9_isLimit
  by_cases u1 : a2 < 0
  · simp only [if_pos u1, if_true]
    exact .inr (.inl ⟨_, _, _, rfl, rfl, thr _ _, iv_E_ii hI'⟩)
  by_cases u2 : 1000 < a2
  · simp only [if_neg u1, if_pos u2, if_true]
    exact .inr (.inl ⟨_, _, _, rfl, rfl, thr _ _, iv_E_ii hI'⟩)
  by_cases u3 : a3 < 1
  · simp only [if_neg u1, if_neg u2, if_pos u3, if_true, i32_10, if_false]
    exact .inr (.inl ⟨_, _, _, rfl, rfl, thr _ _, iv_E_ii hI'⟩)
  by_cases u4 : 100 < a3
  · simp only [if_neg u1, if_neg u2, if_neg u3, if_pos u4, if_true, i32_10, if_false]
    exact .inr (.inl ⟨_, _, _, rfl, rfl, thr _ _, iv_E_ii hI'⟩)
  simp only [if_neg u1, if_neg u2, if_neg u3, if_neg u4, i32_10, if_false]
  obtain ⟨k2, _, b2, e2⟩ := i32_nI (lo := 0) (hi := 1000) u1 u2 (by decide) (by decide)
  obtain ⟨k3, c3, b3, e3⟩ := i32_nI (lo := 1) (hi := 100) u3 u4 (by decide) (by decide)
  have ok : (a4 = 0 ∨ (¬ a4 = 0 ∧ ¬ a4 < a2 ∧ ¬ 1000 < a4)) → ∃ (r : Int32) (z4 : cs_S) (sR1 : mo_S), fc_X8_setShare_E_c1 s0 (cs_a s4 1 (nI t) a2) s5 (nI t) a2 a3 a4 (s4.2.1 1 t) a3 (nI t) = some (.inl r, z4) ∧ fc_X9_setShare_c1 (mo_i sR 2 0) (nI t) a2 a3 a4 (p (8 + 3 * t)) (8 + 3 * nI t) a2 (8 + 3 * nI t + 0) = some (r, sR1) ∧ f_X9_thrown sR1 = some 0 ∧ iv_E (j + 1) s0 z4 s5 s6 sR1 := by
    intro h4
    obtain ⟨k4, b4, e4⟩ : ∃ k4, k4 ≤ 1000 ∧ a4 = nI k4 := by
      rcases h4 with h | ⟨_, h', h''⟩
      · exact ⟨0, by omega, h⟩
      · obtain ⟨k, _, q1, q2⟩ := i32_nI (lo := 0) (hi := 1000) (fun hh => h' (by
          have x1 := Int32.lt_iff_toInt_lt.mp hh
          refine Int32.lt_iff_toInt_lt.mpr ?_
          rw [e2, nI_toInt (by omega)]
          rw [nI_toInt (by decide)] at x1
          omega)) h'' (by decide) (by decide)
        exact ⟨k, q1, q2⟩
    have i0 : (8 : Int32) + 3 * nI t + 0 = nI (8 + 3 * t) := by
      have := ix_of 8 3 t 0
      exact this
    have i1 : (8 : Int32) + 3 * nI t + 1 = nI (8 + 3 * t + 1) := ix_of 8 3 t 1
    have i2 : (8 : Int32) + 3 * nI t + 2 = nI (8 + 3 * t + 2) := ix_of 8 3 t 2
    unfold fc_X8_setShare_E_c1 fc_X8_setShare_E_c2 fc_X9_setShare_c1 fc_X9_setShare_c2 fc_X9_setShare_c3
    simp (disch := omega) only [i0, i1, i2, nb_nI]
    have rs : ∀ k, (mo_a (mo_a (mo_a (mo_i sR 2 0) 0 (nI (8 + 3 * t)) a2) 0 (nI (8 + 3 * t + 1)) a3) 0 (nI (8 + 3 * t + 2)) a4).2.2.1 0 k = if k = 8 + 3 * t + 2 then a4 else if k = 8 + 3 * t + 1 then a3 else if k = 8 + 3 * t then a2 else p k := by
      intro k
      rw [mo_a_3, mo_a_3, mo_a_3, nI_clamp (by omega), nI_clamp (by omega), nI_clamp (by omega), hs]
      simp only [true_and]
    have oth : ∀ q, q ≠ 0 → (mo_a (mo_a (mo_a (mo_i sR 2 0) 0 (nI (8 + 3 * t)) a2) 0 (nI (8 + 3 * t + 1)) a3) 0 (nI (8 + 3 * t + 2)) a4).2.2.1 q = sR.2.2.1 q := by
      intro q hq
      funext k
      rw [mo_a_3, if_neg (by omega), mo_a_3, if_neg (by omega), mo_a_3, if_neg (by omega)]
      rfl
    have sh := hP.2.2.2.2.2.2.2.2 t (by omega)
    have cs : ∀ P k, (cs_a (cs_a (cs_a s4 1 (nI t) a2) 2 (nI t) a3) 3 (nI t) a4).2.1 P k = if P = 3 ∧ k = t then a4 else if P = 2 ∧ k = t then a3 else if P = 1 ∧ k = t then a2 else s4.2.1 P k := by
      intro P k
      rw [ca_2 (by omega), ca_2 (by omega), ca_2 (by omega)]
    obtain ⟨p', pe⟩ : ∃ p' : Nat → Int32, ∀ k, p' k = if k = 8 + 3 * t + 2 then a4 else if k = 8 + 3 * t + 1 then a3 else if k = 8 + 3 * t then a2 else p k := ⟨_, fun _ => rfl⟩
    have key : ab_Z D S T m n N ln cnt tk f p' A L W F (cs_a (cs_a (cs_a s4 1 (nI t) a2) 2 (nI t) a3) 3 (nI t) a4) s5 s6 (mo_a (mo_a (mo_a (mo_i sR 2 0) 0 (nI (8 + 3 * t)) a2) 0 (nI (8 + 3 * t + 1)) a3) 0 (nI (8 + 3 * t + 2)) a4) := by
      have lo : ∀ k, k < 8 → p' k = p k := fun k hk => by rw [pe, if_neg (by omega), if_neg (by omega), if_neg (by omega)]
      refine ab_Z_sh (t := t) (p := p) (s := mo_i sR 2 0) ?_ ?_ (lo 4 (by omega)) (funext fun k => (rs k).trans (pe k).symm) (oth 3 (by decide)) (oth 17 (by decide)) rfl rfl Z1
      · refine ⟨by rw [lo 0 (by omega)]; exact hP.1, by rw [lo 1 (by omega)]; exact hP.2.1, by rw [lo 2 (by omega)]; exact hP.2.2.1, by rw [lo 3 (by omega)]; exact hP.2.2.2.1, by rw [lo 4 (by omega)]; exact hP.2.2.2.2.1, by rw [lo 5 (by omega)]; exact hP.2.2.2.2.2.1, by rw [lo 6 (by omega)]; exact hP.2.2.2.2.2.2.1, by rw [lo 7 (by omega)]; exact hP.2.2.2.2.2.2.2.1, fun t' ht' => ?_⟩
        have sh' := hP.2.2.2.2.2.2.2.2 t' ht'
        by_cases z : t' = t
        · subst z
          refine ⟨?_, ?_, ?_⟩
          · rw [cs, if_neg (by omega), if_neg (by omega), if_pos ⟨rfl, rfl⟩, pe, if_neg (by omega), if_neg (by omega), if_pos rfl]
          · rw [cs, if_neg (by omega), if_pos ⟨rfl, rfl⟩, pe, if_neg (by omega), if_pos rfl]
          · rw [cs, if_pos ⟨rfl, rfl⟩, pe, if_pos rfl]
        · refine ⟨?_, ?_, ?_⟩ <;> rw [cs, if_neg (by omega), if_neg (by omega), if_neg (by omega), pe, if_neg (by omega), if_neg (by omega), if_neg (by omega)]
          · exact sh'.1
          · exact sh'.2.1
          · exact sh'.2.2
      · obtain ⟨x0, x1, x2, x3, x4, x5, x6, x7, x8, x9, x10, x11, x12, x13, x14⟩ := hp
        refine ⟨by rw [lo 0 (by omega)]; exact x0, by rw [lo 1 (by omega)]; exact x1, by rw [lo 6 (by omega)]; exact x2, x3, x4, x5, x6, x7, x8, by rw [lo 2 (by omega)]; exact x9, by rw [lo 3 (by omega)]; exact x10, by rw [lo 4 (by omega)]; exact x11, by rw [lo 5 (by omega)]; exact x12, by rw [lo 7 (by omega)]; exact x13, fun t' ht' => ?_⟩
        by_cases z : t' = t
        · subst z
          refine ⟨⟨k2, b2, ?_⟩, ⟨k3, c3, b3, ?_⟩, ⟨k4, b4, ?_⟩⟩
          · rw [pe, if_neg (by omega), if_neg (by omega), if_pos rfl, e2]
          · rw [pe, if_neg (by omega), if_pos rfl, e3]
          · rw [pe, if_pos rfl, e4]
        · have o0 : ∀ w, w < 3 → p' (8 + 3 * t' + w) = p (8 + 3 * t' + w) := fun w hw => by rw [pe, if_neg (by omega), if_neg (by omega), if_neg (by omega)]
          have oz := o0 0 (by omega)
          rw [Nat.add_zero] at oz
          rw [oz, o0 1 (by omega), o0 2 (by omega)]
          exact x14 t' ht'
    refine ⟨s4.2.1 1 t, _, mo_a (mo_a (mo_a (mo_i sR 2 0) 0 (nI (8 + 3 * t)) a2) 0 (nI (8 + 3 * t + 1)) a3) 0 (nI (8 + 3 * t + 2)) a4, rfl, by rw [sh.1], thr sR 0, ?_, D, S, T, m, n, N, ln, cnt, tk, f, p', A, L, W, F, key, hn, by omega, h70⟩
    have tx := tx_R_i (v := 0) h1
    unfold tx_R at tx ⊢
    rw [oth 7 (by decide)]
    exact tx
  have nbt : pm_inb (nI t) 6 = true := nb_nI (by omega) (by decide)
  have clt : (nI t).toNatClampNeg = t := nI_clamp (by omega)
  have s0' : f_X9_shareOf (mo_i sR 2 0) (nI t) 0 = some (p (8 + 3 * t)) := by rw [shareOf_0 (mo_i sR 2 0) (show t < 6 by omega), hs, Nat.add_zero]
  by_cases u5 : a4 = 0
  · have n0 : ¬ a4 < 0 := by rw [u5]; decide
    simp only [if_pos u5, if_neg n0, i32_10, if_false, nbt, clt, s0']
    exact .inl (ok (.inl u5))
  · simp only [if_neg u5]
    by_cases u6 : a4 < a2
    · simp only [if_pos u6, if_true]
      by_cases n0 : a4 < 0
      · simp only [if_pos n0]
        exact .inr (.inl ⟨_, _, _, rfl, rfl, thr _ _, iv_E_ii hI'⟩)
      · simp only [if_neg n0]
        exact .inr (.inl ⟨_, _, _, rfl, rfl, thr _ _, iv_E_ii hI'⟩)
    · have n0 : ¬ a4 < 0 := fun h => u6 (by
        have x1 := Int32.lt_iff_toInt_lt.mp h
        refine Int32.lt_iff_toInt_lt.mpr ?_
        rw [e2, nI_toInt (by omega)]
        rw [show (0 : Int32).toInt = 0 from rfl] at x1
        omega)
      simp only [if_neg u6, if_neg n0]
      by_cases u7 : 1000 < a4
      · simp only [if_pos u7, if_true]
        exact .inr (.inl ⟨_, _, _, rfl, rfl, thr _ _, iv_E_ii hI'⟩)
      · simp only [if_neg u7, i32_10, if_false, nbt, clt, s0']
        exact .inl (ok (.inr ⟨u5, u6, u7⟩))
