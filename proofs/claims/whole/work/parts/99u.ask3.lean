/-! isHeld, tag, promise, advance, setShare, with an array loaded. -/
theorem mo_i_22 (s : mo_S) (v : Int32) : (mo_i s 2 v).1 2 = v := by rw [mo_i_1, if_pos rfl]
theorem p_37_E : ps_37_E_E iv_N iv_E := by
  intro j s0 s4 s5 s6 sR a1 a2 hj hI
  have hI' := hI
  obtain ⟨h1, D, S, T, m, n, N, ln, cnt, tk, f, p, A, L, W, F, ⟨⟨hP, hp, hs, hC, hR, hB, hF⟩, V, TR, ⟨z3, z11', zl, zd⟩, hu, fx⟩, hn, hN, h70⟩ := hI
  have hD := hp.2.2.2.2.1
  have hD3 := hp.2.2.2.1
  have hS := hp.2.2.2.2.2.2.1
  obtain ⟨q1, q2, _⟩ := ab_p01 hp
  unfold f_X8_isHeld_E f_X9_isHeld f_X9_in
  rw [isArray_w hp hs, disks_w hs, hP.1]
  have q2' : nI D - 1 = nI (D - 1) := by rw [← q1, q2]
  simp only [i32_10, if_false, mo_i_22, q1, q2', if_true]
  rcases rg a1 (b := D) (by omega) (by omega) with ⟨d, k1, k2, k3, k4, k5⟩ | k | ⟨k3, k4, k5⟩
  · simp only [if_neg k3, if_neg k4, if_neg k5, i32_10, if_false]
    rcases q_stripe hp hP hs a2 with ⟨k, s1, s2, g1, g2⟩ | ⟨g1, g2⟩
    · have hR' : vn (mo_i sR 2 0) 3 d k = A.1 3 d k := hR.2.2.2.2.2.1 d k (by omega) (by omega)
      rw [g1, g2, k2, s2]
      simp only [i32_10, if_false, ab_holds_C (show d < 6 by omega) (show k < 64 by omega) hC, isHeldOn_w (mo_i sR 2 0) (show d < 6 by omega) (show k < 64 by omega), hR']
      by_cases u : A.1 3 d k = 1
      · simp only [if_pos u, z11.1, if_true, i32_10, if_false]
        exact .inl ⟨_, _, rfl, rfl, thr _ _, iv_E_i hI'⟩
      · simp only [if_neg u, z11.2, if_true]
        exact .inl ⟨_, _, rfl, rfl, thr _ _, iv_E_i hI'⟩
    · rw [g1, g2]
      simp only [if_true]
      exact .inr ⟨_, _, trivial, rfl, thr _ _, iv_E_i hI'⟩
  · simp only [if_pos k, if_true]
    exact .inr ⟨_, _, trivial, rfl, thr _ _, iv_E_i hI'⟩
  · simp only [if_neg k3, if_pos k4, if_pos k5, if_true]
    exact .inr ⟨_, _, trivial, rfl, thr _ _, iv_E_i hI'⟩
theorem p_20_E : ps_20_E_E iv_N iv_E := by
  intro j s0 s4 s5 s6 sR a1 a2 a3 hj hI
  have hI' := hI
  obtain ⟨h1, D, S, T, m, n, N, ln, cnt, tk, f, p, A, L, W, F, ⟨⟨hP, hp, hs, hC, hR, hB, hF⟩, V, TR, ⟨z3, z11', zl, zd⟩, hu, fx⟩, hn, hN, h70⟩ := hI
  have hD := hp.2.2.2.2.1
  have hT := hp.2.2.2.2.2.2.2.2.1
  have k10 : ¬ (1 : Int32) = 0 := by decide
  have k20 : ¬ (2 : Int32) = 0 := by decide
  have k21 : ¬ (2 : Int32) = 1 := by decide
  unfold f_X8_tag_E f_X9_tag f_X9_firstOf
  rcases q_queue hp hP hs a1 a2 with ⟨d, t, d1, t1, d2, t2, g1, g2, g3⟩ | ⟨g1, g2 | ⟨g2, g3⟩⟩
  · have hq : 6 * d + t < 42 := by omega
    have Q := hC.2.2.1 _ hq
    have QR := hR.2.2.2.1 _ hq
    have nbq : pm_inb (nI (6 * d + t)) 42 = true := nb_nI hq (by decide)
    have clq : (nI (6 * d + t)).toNatClampNeg = 6 * d + t := nI_clamp (by omega)
    rw [g1, g2, g3, d2, t2]
    simp only [i32_10, if_false, numberOf_w, nbq, clq, queueOf_w, ofQueue_0 sR hq, Q.1, mo_i_22, if_neg k20]
    cases hl : A.2.1 (6 * d + t) with
    | nil =>
      have q2 := QR.2.1
      rw [hl] at q2
      have e0 : nI ([] : List ab_O).length = 0 := rfl
      simp only [e0, if_true, q2.1]
      exact .inr (.inr ⟨_, _, trivial, rfl, thr _ _, iv_E_i hI'⟩)
    | cons a l =>
      have q2 := QR.2.1
      rw [hl] at q2
      have ma : a ∈ A.2.1 (6 * d + t) := by rw [hl]; exact List.mem_cons_self
      have ha := hB.1.2.2.1 _ a hq ma
      have U4 := hB.1.2.2.2.1 _ hq
      rw [hl] at U4
      have nz : ¬ nI (a :: l).length = 0 := nI_ne0 (by rw [List.length_cons]; omega) (by omega)
      have O := hR.2.2.2.2.2.2.2.2.2.1 a.1 (.inl ⟨_, hq, a, ma, rfl⟩)
      have nW : ¬ nI (W a.1) = -1 := nI_nm (by have := O.1; omega)
      have hd0 := (Q.2.1 a l hl).1
      obtain ⟨c1, c2, c3, c4⟩ := Q.2.2.2.1 a ma
      obtain ⟨r1, r2, r3, r4, r5⟩ := QR.2.2.2.1 a ma
      have nbo : pm_inb (nI a.1) 3248 = true := nb_nI ha (by decide)
      have clo : (nI a.1).toNatClampNeg = a.1 := nI_clamp (by omega)
      have nt := (hB.2.2.2.2.2.2.2.2.1.nt hB.2.2.2.2.2.2.2.2.2.2.2.2 _ hq).1 a ma
      simp only [if_neg nz, q2.1, if_neg nW, hd0, nbo, clo]
      unfold f_X3_hasTagR f_X9_in
      simp only [nbo, clo, c2, c3, c4, lgc_eq]
      rcases rg a3 (b := 3) (by omega) (by omega) with ⟨w, w1, w2, w3, w4, w5⟩ | w | ⟨w3, w4, w5⟩
      · have w7 : ¬ (2 : Int32) < a3 := w5
        simp only [if_neg w3, if_neg w7, i32_10, if_false]
        rw [w2]
        have s0' : ∀ {i : Nat}, i < 2200 → f_X9_of (mo_i sR 2 0) (nI i) 6 = some (vn sR 7 i 6) := fun h => of_6 (mo_i sR 2 0) h
        rcases (show w = 0 ∨ w = 1 ∨ w = 2 by omega) with rfl | rfl | rfl
        · have e : nI 0 = 0 := rfl
          have tg : f_X9_tagOf (mo_i sR 2 0) (nI (W a.1)) 0 = some (vt sR (W a.1) 0) := tagOf_0 (mo_i sR 2 0) O.1
          simp only [e, if_true, s0' O.1, r2, tg, r3]
          cases hr : a.2.2.1 with
          | none =>
            simp only [Option.getD_none, Option.isSome_none, Bool.false_eq_true, if_false, if_true]
            rw [if_pos (show ab_no = -1152921504606846976 from rfl)]
            simp only [if_true]
            exact .inl ⟨_, _, rfl, rfl, thr _ _, iv_E_i hI'⟩
          | some y =>
            have ny : ¬ y = -1152921504606846976 := fun h => nt (by rw [hr, h]; rfl)
            simp only [Option.getD_some, Option.isSome_some, if_true, if_neg ny, i32_10, if_false]
            exact .inl ⟨_, _, rfl, rfl, thr _ _, iv_E_i hI'⟩
        · have e : nI 1 = 1 := rfl
          have tg : f_X9_tagOf (mo_i sR 2 0) (nI (W a.1)) 1 = some (vt sR (W a.1) 1) := tagOf_1 (mo_i sR 2 0) O.1
          simp only [e, if_neg k10, if_true, tg, r4]
          exact .inl ⟨_, _, rfl, rfl, thr _ _, iv_E_i hI'⟩
        · have e : nI 2 = 2 := rfl
          have tg : f_X9_tagOf (mo_i sR 2 0) (nI (W a.1)) 2 = some (vt sR (W a.1) 2) := tagOf_2 (mo_i sR 2 0) O.1
          simp only [e, if_neg k20, if_neg k21, if_true, tg, r5]
          exact .inl ⟨_, _, rfl, rfl, thr _ _, iv_E_i hI'⟩
      · have n0 : ¬ a3 = 0 := fun h => by rw [h] at w; exact absurd w (by decide)
        have n1 : ¬ a3 = 1 := fun h => by rw [h] at w; exact absurd w (by decide)
        have n2 : ¬ a3 = 2 := fun h => by rw [h] at w; exact absurd w (by decide)
        simp only [if_neg n0, if_neg n1, if_neg n2, if_pos w, if_true]
        exact .inr (.inl ⟨_, _, trivial, rfl, thr _ _, iv_E_i hI'⟩)
      · have n0 : ¬ a3 = 0 := fun h => by rw [h] at w4; exact absurd w4 (by decide)
        have n1 : ¬ a3 = 1 := fun h => by rw [h] at w4; exact absurd w4 (by decide)
        have n2 : ¬ a3 = 2 := fun h => by rw [h] at w4; exact absurd w4 (by decide)
        have w7 : (2 : Int32) < a3 := w5
        simp only [if_neg n0, if_neg n1, if_neg n2, if_neg w3, if_pos w7, if_true]
        exact .inr (.inl ⟨_, _, trivial, rfl, thr _ _, iv_E_i hI'⟩)
  · rw [g1, g2]
    simp only [if_true, mo_i_22, i32_10, if_false]
    exact .inr (.inr ⟨_, _, trivial, rfl, thr _ _, iv_E_i hI'⟩)
  · rw [g1, g2, g3]
    simp only [if_true, i32_10, if_false, mo_i_22]
    exact .inr (.inr ⟨_, _, trivial, rfl, thr _ _, iv_E_i hI'⟩)
/-- the reference's loop of advance -/
theorem adv_R {k : Nat} (hk : k < 2 ^ 31) : ∀ (j i fu n : Nat) (s s' : mo_S), i + j = k → j < fu → rt false j n s = some s' → pm_loop fu lb_X9_advance_50 (s, nI k, nI i) = some (s'.2.2.1 3 0, s')
  | 0, i, fu, n, s, s', hi, hf, h => by
    cases fu with
    | zero => omega
    | succ fu =>
      have e : s = s' := by
        rw [rt_0] at h
        split at h
        · exact Option.some.inj h
        · cases h
      have le : nI k ≤ nI i := by rw [show i = k by omega]; exact Int32.le_refl _
      refine lp_inr ?_
      unfold lb_X9_advance_50
      simp only [if_pos le, nb_0_18186, tc_0, e]
  | j + 1, i, fu, n, s, s', hi, hf, h => by
    cases fu with
    | zero => omega
    | succ fu =>
      have le : ¬ nI k ≤ nI i := fun h => absurd ((nI_leI (by omega) (by omega)).mp h) (by omega)
      rw [rt_s] at h
      split at h
      rotate_left
      · cases h
      rw [if_neg (fun h => by cases h.1)] at h
      cases hp : f_X9_passTick s with
      | none =>
        rw [hp] at h
        cases h
      | some s1 =>
        rw [hp] at h
        have b : lb_X9_advance_50 (s, nI k, nI i) = some (.inl (s1, nI k, nI (i + 1))) := by
          unfold lb_X9_advance_50
          simp only [if_neg le, hp, nI_1]
        rw [lp_inl b]
        exact adv_R hk j (i + 1) fu (n + 1) s1 s' (by omega) (by omega) h
theorem p_14_E : ps_14_E_E iv_N iv_E := by
  intro j s0 s4 s5 s6 sR a1 hj hI
  have hI' := hI
  obtain ⟨h1, D, S, T, m, n, N, ln, cnt, tk, f, p, A, L, W, F, Z, hn, hN, h70⟩ := hI
  have Z1 := Z.i 0
  have hp := Z1.1.2.1
  have hs := Z1.1.2.2.1
  have hB := Z1.1.2.2.2.2.2.1
  have nowC : s5.1 0 4 = nI n := Z1.1.2.2.2.1.1.1.trans hB.2.2.2.2.2.1.2.2.2
  have nowR : (mo_i sR 2 0).2.2.1 3 0 = nI n := (Z1.1.2.2.2.2.1.1 0 (by decide)).trans hB.2.2.2.2.2.1.2.2.2
  unfold f_X8_advance_E f_X8_now_E f_X9_advance f_X9_refuse f_X9_in
  simp only [nb_0_18186, tc_0, nowC, nowR, isArray_w hp hs]
  by_cases u1 : a1 < 1
  · simp only [if_pos u1, if_true]
    exact .inr ⟨_, _, _, rfl, rfl, thr _ _, iv_E_ii hI'⟩
  simp only [if_neg u1]
  by_cases u2 : 2000 < a1
  · simp only [if_pos u2, if_true]
    exact .inr ⟨_, _, _, rfl, rfl, thr _ _, iv_E_ii hI'⟩
  simp only [if_neg u2, i32_10, if_false]
  obtain ⟨k, k1, k2, rfl⟩ : ∃ k, 1 ≤ k ∧ k ≤ 2000 ∧ a1 = nI k := by
    have n0 : ¬ a1 < 0 := fun h => u1 (by
      have := Int32.lt_iff_toInt_lt.mp h
      refine Int32.lt_iff_toInt_lt.mpr ?_
      rw [show (0 : Int32).toInt = 0 from rfl] at this
      rw [show (1 : Int32).toInt = 1 from rfl]
      omega)
    obtain ⟨k, hk, rfl⟩ := nI_of n0
    refine ⟨k, ?_, ?_, rfl⟩
    · apply Classical.byContradiction
      intro h
      have : k = 0 := by omega
      rw [this] at u1
      exact u1 (by decide)
    · apply Classical.byContradiction
      intro h
      exact u2 ((nI_ltI (a := 2000) (by decide) hk).mpr (by omega))
  have e9 : (99999 : Int32) - nI n = nI (99999 - n) := nI_sub (a := 99999) hn
  have c1 : nI k ≤ 99999 - nI n ↔ n + k ≤ 99999 := by
    rw [e9, nI_leI (by omega) (by omega)]
    omega
  have c2 : nI n + nI k ≤ 99999 ↔ n + k ≤ 99999 := by
    rw [nI_add]
    exact nI_leI (b := 99999) (by omega) (by decide)
  by_cases u3 : n + k ≤ 99999
  · simp only [if_pos (c1.mpr u3), if_pos (c2.mpr u3)]
    have hN2 : N + 2000 * k ≤ 1000000000000 := by
      have := Nat.mul_le_mul_left 2000 k2
      omega
    obtain ⟨s5', s', W', F', A', L', m', ln', n', g1, g2, g3, Z', g4, _, _, _, g8, g9⟩ := ab_run (tg := n + k) false u3 k n m N ln 0 pm_fu A L W F s5 (mo_i sR 2 0) rfl (by unfold pm_fu; omega) (by omega) hN2 Z1
    have en : n' = n + k := g4 rfl
    subst en
    have hB' := Z'.1.2.2.2.2.2.1
    have now1 : s5'.1 0 4 = nI (n + k) := Z'.1.2.2.2.1.1.1.trans hB'.2.2.2.2.2.1.2.2.2
    have now2 : s'.2.2.1 3 0 = nI (n + k) := (Z'.1.2.2.2.2.1.1 0 (by decide)).trans hB'.2.2.2.2.2.1.2.2.2
    have ru : f_X1_runTo s4 s5 s6 (nI n + nI k) 0 = some s5' := by
      unfold f_X1_runTo
      rw [nI_add]
      exact g1
    have ar := adv_R (k := k) (by omega) k 0 pm_fu n (mo_i sR 2 0) s' (by omega) (by unfold pm_fu; omega) g2
    have ar' : pm_loop pm_fu lb_X9_advance_50 (mo_i sR 2 0, nI k, 0) = some (s'.2.2.1 3 0, s') := ar
    simp only [ru, ar', now1, now2]
    refine .inl ⟨_, _, _, rfl, rfl, ?_, tx_F g3 (tx_R_i h1), D, S, T, m', n + k, N + 2000 * k, ln', cnt, tk, f, p, A', L', W', F', Z', u3, ?_, fun h => (g9 h).trans (h70 h)⟩
    · unfold f_X9_thrown
      rw [g3.1]
      exact thr sR 0
    · have := Nat.mul_le_mul_left 2000 k2
      omega
  · simp only [if_neg (fun h => u3 (c1.mp h)), if_neg (fun h => u3 (c2.mp h))]
    exact .inr ⟨_, _, _, rfl, rfl, thr _ _, iv_E_ii hI'⟩
