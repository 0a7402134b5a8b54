/-! loadArray. -/
theorem ab_P.cg {p p' : Nat → Int32} {s4 : cs_S} (h : ∀ k, k < 26 → p' k = p k) (hP : ab_P p s4) : ab_P p' s4 := by
  obtain ⟨p0, p1, p2, p3, p4, p5, p7, p6, pt⟩ := hP
  refine ⟨by rw [h 0 (by decide)]; exact p0, by rw [h 1 (by decide)]; exact p1, by rw [h 2 (by decide)]; exact p2, by rw [h 3 (by decide)]; exact p3, by rw [h 4 (by decide)]; exact p4, by rw [h 5 (by decide)]; exact p5, by rw [h 6 (by decide)]; exact p7, by rw [h 7 (by decide)]; exact p6, fun t ht => ?_⟩
  rw [h _ (by omega), h _ (by omega), h _ (by omega)]
  exact pt t ht
theorem ab_pl.cg {p p' : Nat → Int32} {D S T : Nat} (h : ∀ k, k < 26 → p' k = p k) (hp : ab_pl p D S T) : ab_pl p' D S T := by
  obtain ⟨p0, p1, p6, q1, q2, q3, q4, q5, q6, p2, p3, p4, p5, p7, pt⟩ := hp
  refine ⟨by rw [h 0 (by decide)]; exact p0, by rw [h 1 (by decide)]; exact p1, by rw [h 6 (by decide)]; exact p6, q1, q2, q3, q4, q5, q6, by rw [h 2 (by decide)]; exact p2, by rw [h 3 (by decide)]; exact p3, by rw [h 4 (by decide)]; exact p4, by rw [h 5 (by decide)]; exact p5, by rw [h 7 (by decide)]; exact p7, fun t ht => ?_⟩
  rw [h _ (by omega), h _ (by omega), h _ (by omega)]
  exact pt t ht
/-- the plan is taken over, and all begins -/
theorem la_cp (s : mo_S) (a b : Int32) : ∃ e : Int32 × mo_S, pm_loop pm_fu lb_X9_loadArray_50 (s, a, b, 0) = some e ∧ e.1 = s.2.2.1 1 6 ∧ (∀ k, k < 26 → e.2.2.2.1 0 k = s.2.2.1 1 k) ∧ (∀ k, k < 18186 → e.2.2.2.1 3 k = bg_5 2200 k) ∧ e.2.1 19 = 0 ∧ ∀ k, k ≠ 19 → e.2.1 k = s.1 k := by
  refine lp_for 26 (fun i y => y.2 = (a, b, nI i) ∧ y.1.1 = s.1 ∧ (∀ k, y.1.2.2.1 1 k = s.2.2.1 1 k) ∧ ∀ k, k < i → y.1.2.2.1 0 k = s.2.2.1 1 k) (by decide) ?_ ?_ ⟨rfl, rfl, fun _ => rfl, fun k hk => absurd hk (by omega)⟩
  · rintro i ⟨y, l⟩ hi ⟨y1, y2, y3, y4⟩
    have y1' : l = (a, b, nI i) := y1
    subst y1'
    refine ⟨(mo_a y 0 (nI i) (y.2.2.1 1 i), a, b, nI i + 1), ?_, by rw [nI_1], y2, fun k => ?_, fun k hk => ?_⟩
    · unfold lb_X9_loadArray_50
      simp only [nb_nI hi (by decide), nI_clamp (show i < 2 ^ 31 by omega)]
      rw [if_neg (show ¬ 26 ≤ nI i from fun h => absurd ((nI_leI (a := 26) (by omega) (by omega)).mp h) (by omega))]
    · show (mo_a y 0 (nI i) (y.2.2.1 1 i)).2.2.1 1 k = _
      rw [mo_a_3, if_neg (fun h => absurd h.1 (by decide))]
      exact y3 k
    · show (mo_a y 0 (nI i) (y.2.2.1 1 i)).2.2.1 0 k = _
      rw [mo_a_3, nI_clamp (by omega)]
      by_cases z : k = i
      · rw [if_pos ⟨rfl, z⟩, z]
        exact y3 i
      · rw [if_neg (fun h => z h.2)]
        exact y4 k (by omega)
  · rintro ⟨y, l⟩ ⟨y1, y2, y3, y4⟩
    have y1' : l = (a, b, 26) := y1
    subst y1'
    obtain ⟨e, h1, t, h2, h3, h4⟩ := bg_all y
    have b6 : pm_inb 6 26 = true := by decide
    have c6 : (Int32.toNatClampNeg 6) = 6 := by decide
    have p0 : ∀ k, k < 26 → e.2.2.1 0 k = s.2.2.1 1 k := fun k hk => by
      rw [h2, mo_i_2, h3.2.2.1 0 (by decide)]
      exact y4 k hk
    refine ⟨(e.2.2.1 0 6, e), ?_, p0 6 (by decide), p0, fun k hk => ?_, ?_, fun k hk => ?_⟩
    · unfold lb_X9_loadArray_50
      simp only [b6, c6, h1]
      rw [if_pos (by decide)]
    · show e.2.2.1 3 k = _
      rw [h2, mo_i_2]
      exact h4 k hk
    · show e.1 19 = 0
      rw [h2, mo_i_1, if_pos rfl]
    · show e.1 k = s.1 k
      rw [h2, mo_i_1, if_neg hk, h3.1]
      exact congrFun y2 k
/-- loadArray, when its text is read -/
theorem la_all {s0 : cs_S} {s : mo_S} {m k : Nat} (hm : m ≤ 800) (hk : k ≤ m) (h1 : s0.1 1 1 = nI m) (h8 : s.1 8 = nI m) (hb : ∀ k, k < m → ∃ x : Nat, x < 256 ∧ s.2.2.1 7 k = nI x ∧ s0.2.1 2 k = (nI x).toInt8.toInt32) :
    ∃ a0 a1 a3, f_X6_begin s0 (nI k) = some a0 ∧ f_X2_readFrom a0 cs_p0 = some (a1, a3) ∧
      ((a1.1 1 6 = 0 ∧ ∃ s', f_X9_loadArray s (nI k) = some (a3.1 0 7, s') ∧ s'.1 2 = 0 ∧ tx_R (cs_i a1 1 1 0) s' ∧ ∃ D S T, ab_P (s'.2.2.1 0) a3 ∧ ab_pl (s'.2.2.1 0) D S T ∧ (∀ k, k < 18186 → s'.2.2.1 3 k = bg_5 2200 k) ∧ s'.1 19 = 0) ∨
       (a1.1 1 6 ≠ 0 ∧ ∃ s', f_X9_loadArray s (nI k) = some (0, s') ∧ s'.1 2 = 2 ∧ tx_R (cs_i a1 1 1 0) s' ∧ (∀ p, p ≠ 1 → s'.2.2.1 p = s.2.2.1 p) ∧ s'.2.2.2 = s.2.2.2 ∧ s'.1 19 = s.1 19)) := by
  have h8' : (mo_i s 2 0).1 8 = nI m := by rw [mo_i_1, if_neg (by decide)]; exact h8
  have n1 : ¬ nI k < 0 := nI_pos (by omega)
  have n2 : ¬ nI m < nI k := fun h => absurd ((nI_ltI (by omega) (by omega)).mp h) (by omega)
  obtain ⟨x, a0, b0, e1, e2, J, w2, w1, c2⟩ := j_beg (s := mo_i s 2 0) hm hk h1 hb
  obtain ⟨a1, a3, b1, r, e3, e4, t1, F1, G⟩ := j_arr J
  refine ⟨a0, a1, a3, e1, e3, ?_⟩
  have i2 : b1.1 2 = 0 := by rw [F1.1 2 (by decide), w1 2 (by decide), mo_i_1, if_pos rfl]
  have i19 : b1.1 19 = s.1 19 := by rw [F1.1 19 (by decide), w1 19 (by decide), mo_i_1, if_neg (by decide)]
  rcases G with ⟨rfl, z, D, S, T, hP, hp⟩ | ⟨rfl, z⟩
  · refine .inl ⟨z.1, ?_⟩
    obtain ⟨⟨r, s'⟩, g1, g2, g3, g4, g5, g6⟩ := la_cp (mo_i b1 8 0) (nI k) 1
    have g2' : r = a3.1 0 7 := g2.trans hP.2.2.2.2.2.2.1.symm
    refine ⟨s', ?_, ?_, ⟨⟨0, by omega, ?_, ?_, fun k hk => absurd hk (by omega)⟩, ?_, ?_⟩, D, S, T, hP.cg g3, hp.cg g3, g4, g5⟩
    · unfold f_X9_loadArray
      rw [in_v, h8', if_neg n1, if_neg n2]
      simp only [i32_10, if_false, e2, e4]
      rw [g1, g2']
    · rw [g6 2 (by decide), mo_i_1, if_neg (by decide)]; exact i2
    · rw [ci_1, if_pos ⟨rfl, rfl⟩]; rfl
    · rw [g6 8 (by decide), mo_i_1, if_pos rfl]; rfl
    · rw [ci_1, if_neg (by decide), g6 14 (by decide), mo_i_1, if_neg (by decide), z.1, z.2.1]
    · rw [ci_1, if_neg (by decide), g6 15 (by decide), mo_i_1, if_neg (by decide), z.2.2.1, z.2.2.2]
  · refine .inr ⟨z.2.1, mo_i (mo_i b1 8 0) 2 2, ?_, ?_, ⟨⟨0, by omega, ?_, ?_, fun k hk => absurd hk (by omega)⟩, ?_, ?_⟩, fun p hp => ?_, ?_, ?_⟩
    · unfold f_X9_loadArray f_X9_refuse
      rw [in_v, h8', if_neg n1, if_neg n2]
      simp only [i32_10, if_false, e2, e4, if_true]
    · rw [mo_i_1, if_pos rfl]
    · rw [ci_1, if_pos ⟨rfl, rfl⟩]; rfl
    · rw [mo_i_1, if_neg (by decide), mo_i_1, if_pos rfl]; rfl
    · rw [ci_1, if_neg (by decide), mo_i_1, if_neg (by decide), mo_i_1, if_neg (by decide)]; exact z.2.2.1
    · rw [ci_1, if_neg (by decide), mo_i_1, if_neg (by decide), mo_i_1, if_neg (by decide)]; exact z.2.2.2
    · show b1.2.2.1 p = _
      rw [F1.2.1 p hp, w2]; rfl
    · show b1.2.2.2 = _
      rw [F1.2.2, w2]; rfl
    · rw [mo_i_1, if_neg (by decide), mo_i_1, if_neg (by decide)]; exact i19
theorem thr_v {s : mo_S} {v : Int32} (h : s.1 2 = v) : f_X9_thrown s = some v := by
  rw [← h]
  rfl
/-- the array that was read is loaded -/
theorem la_E {D S T j : Nat} {z0 z3 z5 z6 : cs_S} {s' : mo_S} (tx : tx_R z0 s') (hP : ab_P (s'.2.2.1 0) z3) (hp : ab_pl (s'.2.2.1 0) D S T) (h3 : ∀ k, k < 18186 → s'.2.2.1 3 k = bg_5 2200 k) (h19 : s'.1 19 = 0) (hC : ab_C S ab_z0 z5) (h6 : z6.1 0 0 = 0) : iv_E j z0 z3 z5 z6 s' :=
  ⟨tx, D, S, T, 0, 0, 0, 0, 0, fun _ => 0, none, _, ab_z0, fun _ => false, fun _ => 0, _, z0_Z hP hp h3 rfl h19 hC h6, by omega, by omega, fun _ => by rw [z0_1, if_pos ⟨rfl, .inr (.inl rfl)⟩]⟩
theorem la_no {s : mo_S} {a : Int32} {m : Nat} (hm : m ≤ 800) (h8 : s.1 8 = nI m) (h : a < 0 ∨ ¬ a ≤ nI m) : f_X9_loadArray s a = some (0, mo_i (mo_i s 2 0) 2 1) := by
  have h8' : (mo_i s 2 0).1 8 = nI m := by rw [mo_i_1, if_neg (by decide)]; exact h8
  unfold f_X9_loadArray f_X9_refuse
  rw [in_v, h8']
  rcases h with h | h
  · rw [if_pos h]
    simp only [if_true]
  · rw [if_pos (Int32.not_le.mp h)]
    simp only [ite_self, if_true]
theorem p_1_N : ps_1_N_N iv_N iv_E := by
  intro j s0 sR a1 hj hI
  obtain ⟨⟨⟨m, hm, c1, c2, c3⟩, c4, c5⟩, h2⟩ := hI
  have hI' : iv_N j s0 sR := ⟨⟨⟨m, hm, c1, c2, c3⟩, c4, c5⟩, h2⟩
  unfold f_X8_loadArray_N
  rw [c1]
  by_cases u : a1 < 0
  · rw [la_no hm c2 (.inl u), if_pos u]
    exact .inr (.inr ⟨_, _, _, _, _, _, rfl, rfl, rfl, iv_N_ii hI'⟩)
  · by_cases v : a1 ≤ nI m
    · obtain ⟨k, hk, rfl⟩ := nI_of u
      obtain ⟨a0, a1, a3, e1, e2, h⟩ := la_all hm ((nI_leI hk (by omega)).mp v) c1 c2 c3
      have w : (cs_i a1 1 1 0).1 1 6 = a1.1 1 6 := by rw [ci_1, if_neg (by decide)]
      rw [if_neg u, if_pos v]
      simp only [e1, e2, w]
      rcases h with ⟨hz, s', g1, g2, g3, D, S, T, hP, hp, g4, g5⟩ | ⟨hz, s', g1, g2, g3, g4, g5, g6⟩
      · obtain ⟨z5, d1, d2⟩ := z0_C S cs_e0 cs_z
        rw [g1]
        simp only [if_pos hz, d1]
        exact .inl ⟨_, _, _, _, _, _, rfl, rfl, thr_v g2, la_E g3 hP hp g4 g5 d2 (by rw [ci_1, if_pos ⟨rfl, rfl⟩])⟩
      · rw [g1]
        simp only [if_neg hz]
        refine .inr (.inl ⟨_, _, _, _, _, _, rfl, rfl, thr_v g2, g3, ?_⟩)
        unfold rf_N
        rw [g4 0 (by decide), g4 3 (by decide), g6]
        exact h2
    · rw [la_no hm c2 (.inr v), if_neg u, if_neg v]
      exact .inr (.inr ⟨_, _, _, _, _, _, rfl, rfl, rfl, iv_N_ii hI'⟩)
theorem p_1_E : ps_1_E_E iv_N iv_E := by
  intro j s0 s4 s5 s6 sR a1 hj hI
  have hI' := hI
  obtain ⟨⟨⟨m, hm, c1, c2, c3⟩, c4, c5⟩, D, S, T, m', n, N, ln, cnt, tk, f, p, A, L, W, F, Z, hn, hN, h70⟩ := hI
  unfold f_X8_loadArray_E
  rw [c1]
  by_cases u : a1 < 0
  · rw [la_no hm c2 (.inl u), if_pos u]
    exact .inr (.inr ⟨_, _, _, _, _, _, rfl, rfl, rfl, iv_E_ii hI'⟩)
  · by_cases v : a1 ≤ nI m
    · obtain ⟨k, hk, rfl⟩ := nI_of u
      obtain ⟨a0, a1, a3, e1, e2, h⟩ := la_all hm ((nI_leI hk (by omega)).mp v) c1 c2 c3
      have w : (cs_i a1 1 1 0).1 1 6 = a1.1 1 6 := by rw [ci_1, if_neg (by decide)]
      rw [if_neg u, if_pos v]
      simp only [e1, e2, w]
      rcases h with ⟨hz, s', g1, g2, g3, D, S, T, hP, hp, g4, g5⟩ | ⟨hz, s', g1, g2, g3, g4, g5, g6⟩
      · obtain ⟨z5, d1, d2⟩ := z0_C S s5 s6
        rw [g1]
        simp only [if_pos hz, d1]
        exact .inl ⟨_, _, _, _, _, _, rfl, rfl, thr_v g2, la_E g3 hP hp g4 g5 d2 (by rw [ci_1, if_pos ⟨rfl, rfl⟩])⟩
      · rw [g1]
        simp only [if_neg hz]
        exact .inr (.inl ⟨_, _, _, _, _, _, rfl, rfl, thr_v g2, g3, D, S, T, m', n, N, ln, cnt, tk, f, p, A, L, W, F, Z.cg (g4 0 (by decide)) (g4 3 (by decide)) (g4 17 (by decide)) (by rw [g5]) g6, hn, by omega, h70⟩)
    · rw [la_no hm c2 (.inr v), if_neg u, if_neg v]
      exact .inr (.inr ⟨_, _, _, _, _, _, rfl, rfl, rfl, iv_E_ii hI'⟩)
