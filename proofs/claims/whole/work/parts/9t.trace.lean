/-! loadTrace. -/
theorem ab_ln0 {D S T m n N : Nat} {p : Nat → Int32} {A : ab_S} {L : Nat → Bool} {W : Nat → Nat} {F : List Nat} {s4 s5 : cs_S} {s : mo_S} (h11 : A.1 0 0 11 = 0) (H : ab_J D S T m n N p A L W F s4 s5 s) : rf_F s (us s 0 0 3 0) ∧ ab_J D S T m n N p (ab_v A 0 0 3 0) L W F s4 (cs_i s5 0 2 0) (us s 0 0 3 0) := by
  obtain ⟨hP, hp, hs, hC, hR, hB, hF⟩ := H
  obtain ⟨s1, c1, F1, n1, t1, q1⟩ := rf_us s 0 (eb_0 (w := 3) (by decide))
  rw [c1]
  refine ⟨F1, hP, hp, by rw [F1.2.2.1 0 (by decide)]; exact hs, ?_, ab_R_0 (by decide) (by decide) n1 t1 q1 hR, ab_B_0 (by decide) (by decide) hB, hF⟩
  obtain ⟨H1, H2, H3, H4, H5, H6, H7⟩ := hC
  have v1 : ∀ g i w', ¬ (g = 0 ∧ w' = 3) → (ab_v A 0 0 3 0).1 g i w' = A.1 g i w' := fun g i w' h => by rw [ab_v_1, if_neg (by omega)]
  have w3 : (ab_v A 0 0 3 0).1 0 0 3 = 0 := by rw [ab_v_1, if_pos ⟨rfl, rfl, rfl⟩]
  have cn := ab_cnts (A := A) (A' := ab_v A 0 0 3 0) (fun i w' => v1 3 i w' (by omega)) (fun i w' => v1 4 i w' (by omega)) S
  have i1 : ∀ P j, ¬ (P = 0 ∧ j = 2) → (cs_i s5 0 2 0).1 P j = s5.1 P j := fun P j h => by rw [ci_1, if_neg h]
  refine ⟨?_, by rw [cn.1, cn.2.1, cn.2.2, i1 _ _ (by omega), i1 _ _ (by omega), i1 _ _ (by omega)]; exact H2, fun q hq => ab_Cq_fr (A := A) (s := s5) rfl (fun w => rfl) (fun P k h => rfl) rfl (H3 q hq), fun d hd => ab_Cd_fr (A := A) (s := s5) rfl (fun w => v1 1 d w (by omega)) (fun P h => rfl) (H4 d hd), fun t ht => ab_Ct_fr (A := A) (s := s5) (fun w => v1 6 t w (by omega)) (fun P k h => rfl) (H5 t ht), fun r hr hr' => ab_Cr_fr (A := A) (s := s5) (fun w => v1 5 r w (by omega)) (fun P h1 h2 => rfl) (H6 r hr (by rw [v1 0 0 2 (by omega)] at hr'; exact hr')), fun k hk => ab_Ch_fr (A := A) (s := s5) (v1 4 k 0 (by omega)) (fun d' => v1 3 d' k (by omega)) (fun P h => rfl) (H7 k hk)⟩
  rw [w3, v1 0 0 11 (by omega), h11, i1 0 4 (by omega), i1 31 0 (by omega), i1 19 0 (by omega), i1 0 3 (by omega), i1 31 7 (by omega), i1 31 8 (by omega), i1 31 6 (by omega), i1 31 10 (by omega), i1 31 9 (by omega), ci_1, if_pos ⟨rfl, rfl⟩, v1 0 0 0 (by omega), v1 0 0 1 (by omega), v1 0 0 2 (by omega), v1 0 0 4 (by omega), v1 0 0 5 (by omega), v1 0 0 6 (by omega), v1 0 0 7 (by omega), v1 0 0 9 (by omega), v1 0 0 10 (by omega)]
  exact ⟨H1.1, H1.2.1, H1.2.2.1, rfl, H1.2.2.2.2⟩
/-- the trace that was read is taken over -/
theorem lt_cp {cnt : Nat} (s : mo_S) (l1 : Int32) (hc : cnt ≤ 100) (h20 : s.1 20 = nI cnt) : ∃ e : Int32 × mo_S, pm_loop pm_fu lb_X9_loadTrace_61 (s, l1, 0) = some e ∧ e.1 = nI cnt ∧ ∃ y : mo_S, e.2 = us (mo_i y 19 (nI cnt)) 0 0 3 0 ∧ y.1 = s.1 ∧ (∀ p, p ≠ 17 → y.2.2.1 p = s.2.2.1 p) ∧ y.2.2.2 = s.2.2.2 ∧ ∀ k, k < 5 * cnt → y.2.2.1 17 k = s.2.2.1 18 k := by
  refine lp_for (5 * cnt) (fun i y => y.2 = (l1, nI i) ∧ y.1.1 = s.1 ∧ (∀ p, p ≠ 17 → y.1.2.2.1 p = s.2.2.1 p) ∧ y.1.2.2.2 = s.2.2.2 ∧ ∀ k, k < i → y.1.2.2.1 17 k = s.2.2.1 18 k) (by show 5 * cnt < 1000000; omega) ?_ ?_ ⟨rfl, rfl, fun _ _ => rfl, rfl, fun k hk => absurd hk (by omega)⟩
  · rintro i ⟨y, l⟩ hi ⟨y1, y2, y3, y4, y5⟩
    have y1' : l = (l1, nI i) := y1
    subst y1'
    have y20 : y.1 20 = nI cnt := (congrFun y2 20).trans h20
    have m5 : 5 * nI cnt = nI (5 * cnt) := nI_mul 5 cnt
    refine ⟨(mo_a y 17 (nI i) (y.2.2.1 18 i), l1, nI i + 1), ?_, by rw [nI_1], y2, fun p hp => ?_, y4, fun k hk => ?_⟩
    · unfold lb_X9_loadTrace_61
      simp only [nb_nI (show i < 500 by omega) (by decide), nI_clamp (show i < 2 ^ 31 by omega), y20, m5]
      rw [if_neg (fun h => absurd ((nI_leI (by omega) (by omega)).mp h) (by omega))]
    · show (mo_a y 17 (nI i) (y.2.2.1 18 i)).2.2.1 p = _
      refine (funext fun k => ?_ : (mo_a y 17 (nI i) (y.2.2.1 18 i)).2.2.1 p = y.2.2.1 p).trans (y3 p hp)
      rw [mo_a_3, if_neg (fun h => hp h.1)]
    · show (mo_a y 17 (nI i) (y.2.2.1 18 i)).2.2.1 17 k = _
      rw [mo_a_3, nI_clamp (by omega)]
      by_cases z : k = i
      · rw [if_pos ⟨rfl, z⟩, z]
        exact congrFun (y3 18 (by decide)) i
      · rw [if_neg (fun h => z h.2)]
        exact y5 k (by omega)
  · rintro ⟨y, l⟩ ⟨y1, y2, y3, y4, y5⟩
    have y1' : l = (l1, nI (5 * cnt)) := y1
    subst y1'
    have y20 : y.1 20 = nI cnt := (congrFun y2 20).trans h20
    have m5 : 5 * nI cnt = nI (5 * cnt) := nI_mul 5 cnt
    have b3 : pm_inb 3 18186 = true := by decide
    refine ⟨(nI cnt, us (mo_i y 19 (nI cnt)) 0 0 3 0), ?_, rfl, y, rfl, y2, y3, y4, y5⟩
    unfold lb_X9_loadTrace_61
    simp only [y20, m5, b3]
    rw [if_pos ((nI_leI (by omega) (by omega)).mpr (by omega))]
    rfl
theorem lt_no {s : mo_S} {a : Int32} {m : Nat} (h8 : s.1 8 = nI m) (h : a < 0 ∨ ¬ a ≤ nI m) : f_X9_loadTrace s a = some (0, mo_i (mo_i s 2 0) 2 1) := by
  have h8' : (mo_i s 2 0).1 8 = nI m := by rw [mo_i_1, if_neg (by decide)]; exact h8
  unfold f_X9_loadTrace f_X9_refuse
  rw [in_v, h8']
  rcases h with h | h
  · rw [if_pos h]
    simp only [if_true]
  · rw [if_pos (Int32.not_le.mp h)]
    simp only [ite_self, if_true]
/-- loadTrace, when its text is read -/
theorem lt_all {j : Nat} {s0 s4 s5 s6 : cs_S} {sR : mo_S} {m k : Nat} (s8 : cs_S) (hI : iv_E j s0 s4 s5 s6 sR) (hm : m ≤ 800) (hk : k ≤ m) (h1 : s0.1 1 1 = nI m) (h8 : sR.1 8 = nI m) (hb : ∀ k, k < m → ∃ x : Nat, x < 256 ∧ sR.2.2.1 7 k = nI x ∧ s0.2.1 2 k = (nI x).toInt8.toInt32) :
    ∃ a0 a1 a8, f_X6_begin s0 (nI k) = some a0 ∧ f_X7_readFrom a0 s4 s8 (s5.1 0 4) = some (a1, a8) ∧
      ((a1.1 1 6 = 0 ∧ ∃ s', f_X9_loadTrace sR (nI k) = some (a8.1 0 0, s') ∧ s'.1 2 = 0 ∧ iv_E (j + 1) (cs_i a1 1 1 0) s4 (cs_i s5 0 2 0) a8 s') ∨
       (a1.1 1 6 ≠ 0 ∧ ∃ s', f_X9_loadTrace sR (nI k) = some (0, s') ∧ s'.1 2 = 2 ∧ iv_E (j + 1) (cs_i a1 1 1 0) s4 s5 s6 s')) := by
  obtain ⟨_, D, S, T, m', n, N, ln, cnt, tk, f, p, A, L, W, F, Z, hn, hN, h70⟩ := hI
  obtain ⟨⟨hP, hp, hs, hC, hR, hB, hF⟩, V, TR, ⟨z3, z11, zl, zd⟩, hu, fx⟩ := id Z
  have r0 : sR.2.2.1 3 0 = nI n := (hR.1 0 (by decide)).trans hB.2.2.2.2.2.1.2.2.2
  have k4 : s5.1 0 4 = nI n := hC.1.1.trans hB.2.2.2.2.2.1.2.2.2
  have h8' : (mo_i sR 2 0).1 8 = nI m := by rw [mo_i_1, if_neg (by decide)]; exact h8
  have n1 : ¬ nI k < 0 := nI_pos (by omega)
  have n2 : ¬ nI m < nI k := fun h => absurd ((nI_ltI (by omega) (by omega)).mp h) (by omega)
  have ia : f_X9_isArray (mo_i (mo_i sR 2 0) 8 0) = some 1 := isArray_w hp hs
  obtain ⟨x, a0, b0, e1, e2, J, w2, w1, c2⟩ := j_beg (s := mo_i (mo_i sR 2 0) 8 0) hm hk h1 hb
  have w2' : b0.2 = sR.2 := w2
  obtain ⟨a1, a8, b1, r, e3, e4, t1, F1, G⟩ := tr_all (D := D) (S := S) (T := T) (n := n) (p := p) (s4 := s4) (nI n) hP hp 101 0 (n + 1) 999999 999999 a0 (cs_i s8 0 0 0) (mo_i b0 20 0) rfl (by decide) (by decide) (by decide) (by omega) (by omega) (jt.i (by decide) J) (by show b0.2.2.1 0 = p; rw [w2']; exact hs) (by show b0.2.2.1 3 0 = nI n; rw [w2']; exact r0) (.inl ⟨rfl, rfl⟩) ⟨by rw [ci_1, if_pos ⟨rfl, rfl⟩]; rfl, by rw [mo_i_1, if_pos rfl]; rfl, fun _ => 0, fun _ _ _ h => absurd h (by omega), fun _ h => absurd h (by omega)⟩
  have e3' : f_X7_readFrom a0 s4 s8 (s5.1 0 4) = some (a1, a8) := by
    unfold f_X7_readFrom
    rw [k4, nI_1]
    exact e3
  have e4' : f_X9_readTrace b0 = some (r, b1) := e4
  have i_ : ∀ k, k ∉ [9, 10, 11, 12, 13, 14, 15, 20] → b1.1 k = (mo_i (mo_i sR 2 0) 8 0).1 k := by
    intro k hk
    simp only [List.mem_cons, List.not_mem_nil, or_false, not_or] at hk
    rw [F1.1 k (by simp only [List.mem_cons, List.not_mem_nil, or_false, not_or]; exact ⟨hk.1, hk.2.2.1, hk.2.2.2.1, hk.2.2.2.2.1, hk.2.2.2.2.2.1, hk.2.2.2.2.2.2.1, hk.2.2.2.2.2.2.2⟩), mo_i_1, if_neg hk.2.2.2.2.2.2.2, w1 k (by simp only [List.mem_cons, List.not_mem_nil, or_false, not_or]; exact ⟨hk.1, hk.2.1, hk.2.2.1, hk.2.2.2.2.2.1, hk.2.2.2.2.2.2.1⟩)]
  have i2 : b1.1 2 = 0 := by rw [i_ 2 (by decide), mo_i_1, if_neg (by decide), mo_i_1, if_pos rfl]
  have i8 : b1.1 8 = 0 := by rw [i_ 8 (by decide), mo_i_1, if_pos rfl]
  have i19 : b1.1 19 = sR.1 19 := by rw [i_ 19 (by decide), mo_i_1, if_neg (by decide), mo_i_1, if_neg (by decide)]
  have ar : ∀ q, q ≠ 18 → b1.2.2.1 q = sR.2.2.1 q := fun q hq => by
    rw [F1.2.1 q hq]
    show b0.2.2.1 q = _
    rw [w2']
  have lo : b1.2.2.2 = sR.2.2.2 := by
    rw [F1.2.2]
    show b0.2.2.2 = _
    rw [w2']
  refine ⟨a0, a1, a8, e1, e3', ?_⟩
  rcases G with ⟨rfl, z, c, w, hc, g8, g20, tk', mono, lines⟩ | ⟨rfl, z⟩
  · refine .inl ⟨z.1, ?_⟩
    obtain ⟨⟨r, s'⟩, q1, q2, y, q3, q4, q5, q6, q7⟩ := lt_cp b1 (nI k) hc g20
    have q2' : r = a8.1 0 0 := by
      rw [g8]
      exact q2
    have q3' : s' = us (mo_i y 19 (nI c)) 0 0 3 0 := q3
    have J0 : ab_J D S T m' n N p A L W F s4 s5 (mo_i y 19 (nI c)) := by
      refine ⟨hP, hp, ?_, hC, ?_, hB, hF⟩
      · show y.2.2.1 0 = p
        rw [q5 0 (by decide), ar 0 (by decide)]; exact hs
      · refine ab_R_cg (s := sR) ?_ ?_ hR
        · show y.2.2.1 3 = _
          rw [q5 3 (by decide), ar 3 (by decide)]
        · show y.2.2.2 5 = _
          rw [q6, lo]
    obtain ⟨FF, J1⟩ := ab_ln0 z11 J0
    rw [← q3'] at FF J1
    have v1 : ∀ g i w', ¬ (g = 0 ∧ w' = 3) → (ab_v A 0 0 3 0).1 g i w' = A.1 g i w' := fun g i w' h => by rw [ab_v_1, if_neg (by omega)]
    have sI : ∀ k, k ≠ 19 → s'.1 k = b1.1 k := fun k hk => by
      rw [FF.1, mo_i_1, if_neg hk]
      exact congrFun q4 k
    have s19 : s'.1 19 = nI c := by rw [FF.1, mo_i_1, if_pos rfl]
    have s17 : s'.2.2.1 17 = y.2.2.1 17 := FF.2.2.1 17 (by decide)
    refine ⟨s', ?_, ?_, ⟨⟨0, by omega, ?_, ?_, fun k hk => absurd hk (by omega)⟩, ?_, ?_⟩, D, S, T, m', n, N, 0, c, tk', f, p, ab_v A 0 0 3 0, L, W, F, ⟨J1, ab_V_0 (by decide) V, ⟨⟨hc, g8, s19, mono⟩, fun i hi => ?_⟩, ⟨?_, ?_, Nat.zero_le c, fun i _ hi => (lines i hi).1⟩, fun d c' hd h => ?_, ?_⟩, hn, by omega, fun h => ?_⟩
    · unfold f_X9_loadTrace fc_X9_loadTrace_c1
      rw [in_v, h8', if_neg n1, if_neg n2]
      simp only [i32_10, if_false, ia, e2, e4']
      rw [q1, q2']
    · rw [sI 2 (by decide)]; exact i2
    · rw [ci_1, if_pos ⟨rfl, rfl⟩]; rfl
    · rw [sI 8 (by decide)]; exact i8
    · rw [ci_1, if_neg (by decide), sI 14 (by decide), z.1, z.2.1]
    · rw [ci_1, if_neg (by decide), sI 15 (by decide), z.2.2.1, z.2.2.2]
    · have L1 := (lines i hi).2.2
      have L2 : tl_1 D S T (tk' i) i a8 (s'.2.2.1 17) := L1.cg (fun _ => rfl) (fun k h1 h2 => by rw [s17]; exact q7 k (by omega))
      exact L2
    · rw [ab_v_1, if_pos ⟨rfl, rfl, rfl⟩]; rfl
    · rw [v1 _ _ _ (by omega)]; exact z11
    · rw [v1 _ _ _ (by omega)]
      exact hu d c' hd h
    · intro f' hf'
      have cn := ab_cnts (A := A) (A' := ab_v A 0 0 3 0) (fun i w' => v1 3 i w' (by omega)) (fun i w' => v1 4 i w' (by omega)) S
      rw [cn.1]
      rcases fx f' hf' with h | h
      · exact .inl (fun k hk => by rw [v1 _ _ _ (by omega)]; exact h k hk)
      · exact .inr h
    · rw [v1 _ _ _ (by omega)]; exact h70 h
  · refine .inr ⟨z.2.1, mo_i b1 2 2, ?_, ?_, ⟨⟨0, by omega, ?_, ?_, fun k hk => absurd hk (by omega)⟩, ?_, ?_⟩, D, S, T, m', n, N, ln, cnt, tk, f, p, A, L, W, F, Z.cg (ar 0 (by decide)) (ar 3 (by decide)) (ar 17 (by decide)) (by show b1.2.2.2 5 = _; rw [lo]) (by rw [mo_i_1, if_neg (by decide)]; exact i19), hn, by omega, h70⟩
    · unfold f_X9_loadTrace fc_X9_loadTrace_c1 f_X9_refuse
      rw [in_v, h8', if_neg n1, if_neg n2]
      simp only [i32_10, if_false, ia, e2, e4', if_true]
    · rw [mo_i_1, if_pos rfl]
    · rw [ci_1, if_pos ⟨rfl, rfl⟩]; rfl
    · rw [mo_i_1, if_neg (by decide)]; exact i8
    · rw [ci_1, if_neg (by decide), mo_i_1, if_neg (by decide)]; exact z.2.2.1
    · rw [ci_1, if_neg (by decide), mo_i_1, if_neg (by decide)]; exact z.2.2.2
theorem p_2_E : ps_2_E_E iv_N iv_E := by
  intro j s0 s4 s5 s6 sR a1 hj hI
  have hI' := hI
  obtain ⟨⟨⟨m, hm, c1, c2, c3⟩, c4, c5⟩, _⟩ := hI
  unfold f_X8_loadTrace_E
  rw [c1]
  by_cases u : a1 < 0
  · rw [lt_no c2 (.inl u), if_pos u]
    exact .inr (.inr ⟨_, _, _, _, _, rfl, rfl, rfl, iv_E_ii hI'⟩)
  · by_cases v : a1 ≤ nI m
    · obtain ⟨k, hk, rfl⟩ := nI_of u
      obtain ⟨a0, a1, a8, e1, e2, h⟩ := lt_all cs_z hI' hm ((nI_leI hk (by omega)).mp v) c1 c2 c3
      have w : (cs_i a1 1 1 0).1 1 6 = a1.1 1 6 := by rw [ci_1, if_neg (by decide)]
      rw [if_neg u, if_pos v]
      simp only [e1, e2, w, f_X1_follow]
      rcases h with ⟨hz, s', g1, g2, g3⟩ | ⟨hz, s', g1, g2, g3⟩
      · rw [g1]
        simp only [if_pos hz]
        exact .inl ⟨_, _, _, _, _, rfl, rfl, thr_v g2, g3⟩
      · rw [g1]
        simp only [if_neg hz]
        exact .inr (.inl ⟨_, _, _, _, _, rfl, rfl, thr_v g2, g3⟩)
    · rw [lt_no c2 (.inr v), if_neg u, if_neg v]
      exact .inr (.inr ⟨_, _, _, _, _, rfl, rfl, rfl, iv_E_ii hI'⟩)
theorem p_2_D : ps_2_E_D iv_N iv_E := by
  intro j s0 s4 s5 s6 s8 sR a1 hj hI
  have hI' := hI
  obtain ⟨⟨⟨m, hm, c1, c2, c3⟩, c4, c5⟩, _⟩ := hI
  unfold f_X8_loadTrace_D
  rw [c1]
  by_cases u : a1 < 0
  · rw [lt_no c2 (.inl u), if_pos u]
    exact .inr (.inr ⟨_, _, _, _, _, rfl, rfl, rfl, iv_E_ii hI'⟩)
  · by_cases v : a1 ≤ nI m
    · obtain ⟨k, hk, rfl⟩ := nI_of u
      obtain ⟨a0, a1, a8, e1, e2, h⟩ := lt_all s8 hI' hm ((nI_leI hk (by omega)).mp v) c1 c2 c3
      have w : (cs_i a1 1 1 0).1 1 6 = a1.1 1 6 := by rw [ci_1, if_neg (by decide)]
      rw [if_neg u, if_pos v]
      simp only [e1, e2, w, f_X1_follow]
      rcases h with ⟨hz, s', g1, g2, g3⟩ | ⟨hz, s', g1, g2, g3⟩
      · rw [g1]
        simp only [if_pos hz]
        exact .inl ⟨_, _, _, _, _, rfl, rfl, thr_v g2, g3⟩
      · rw [g1]
        simp only [if_neg hz]
        exact .inr (.inl ⟨_, _, _, _, _, rfl, rfl, thr_v g2, g3⟩)
    · rw [lt_no c2 (.inr v), if_neg u, if_neg v]
      exact .inr (.inr ⟨_, _, _, _, _, rfl, rfl, rfl, iv_E_ii hI'⟩)
