/-! The text read by both programs: a word, a number, a sign, the end. -/
def tf (s0 s0' : cs_S) : Prop := s0'.2 = s0.2 ∧ ∀ p k, ¬ (p = 1 ∧ 3 ≤ k ∧ k ≤ 7) → s0'.1 p k = s0.1 p k
theorem tf.rfl' (s : cs_S) : tf s s := ⟨rfl, fun _ _ _ => rfl⟩
theorem tf.trans {a b c : cs_S} (h : tf a b) (h' : tf b c) : tf a c := ⟨h'.1.trans h.1, fun p k hk => (h'.2 p k hk).trans (h.2 p k hk)⟩
theorem tf.i (s : cs_S) {k : Nat} (v : Int32) (h : 3 ≤ k ∧ k ≤ 7) : tf s (cs_i s 1 k v) := ⟨rfl, fun p k' h' => by rw [ci_1, if_neg (by omega)]⟩
theorem tf.T {a b : cs_S} (h : tk_F a b) : tf a b := ⟨h.1, fun p k hk => h.2 p k (by omega)⟩
abbrev rqA : List Nat := [9, 11, 12, 13, 14, 15]
/-- both stand at one token, and no error is told -/
def jt (x : Nat → Nat) (len : Nat) (s0 : cs_S) (s : mo_S) : Prop := ∃ p t u c, tk_C x len t u c s0 ∧ tk_Rb x len s ∧ s.1 9 = nI p ∧ tk_T x len (s.1 11) p t u c ∧ (s0.1 1 6 = 0 ∧ s.1 14 = 0 ∧ s0.1 1 7 = -1 ∧ s.1 15 = -1)
/-- both have told one error -/
def je (s0 : cs_S) (s : mo_S) : Prop := s0.1 1 3 = 1 ∧ s0.1 1 6 ≠ 0 ∧ s0.1 1 6 = s.1 14 ∧ s0.1 1 7 = s.1 15
theorem rep_0 {s0 : cs_S} {a : Int32} (h6 : s0.1 1 6 = 0) : ∃ s0', f_X6_report s0 a = some s0' ∧ s0'.1 1 3 = 1 ∧ s0'.1 1 6 = a ∧ s0'.1 1 7 = s0.1 1 4 ∧ tf s0 s0' := by
  unfold f_X6_report fc_X6_report_c1 fc_X6_report_c2
  rw [if_pos h6]
  refine ⟨_, rfl, ?_, ?_, ?_, ((tf.i s0 a (by omega)).trans (tf.i _ _ (by omega))).trans (tf.i _ _ (by omega))⟩
  · rw [ci_1, if_pos ⟨rfl, rfl⟩]
  · rw [ci_1, if_neg (by omega), ci_1, if_neg (by omega), ci_1, if_pos ⟨rfl, rfl⟩]
  · rw [ci_1, if_neg (by omega), ci_1, if_pos ⟨rfl, rfl⟩, ci_1, if_neg (by omega)]
theorem ci_id {s : cs_S} {p k : Nat} {v : Int32} (h : s.1 p k = v) : cs_i s p k v = s := by
  refine Prod.ext (funext fun p' => funext fun k' => ?_) rfl
  rw [ci_1]
  by_cases a : p' = p ∧ k' = k
  · rw [if_pos a, a.1, a.2, h]
  · rw [if_neg a]
theorem rep_e {s0 : cs_S} {a : Int32} (h3 : s0.1 1 3 = 1) (h6 : s0.1 1 6 ≠ 0) : f_X6_report s0 a = some s0 := by
  unfold f_X6_report
  rw [if_neg h6, ci_id h3]
/-- behind an error nothing changes -/
def er (s0 : cs_S) : Prop := s0.1 1 3 = 1 ∧ s0.1 1 6 ≠ 0
theorem je.er {s0 : cs_S} {s : mo_S} (h : je s0 s) : er s0 := ⟨h.1, h.2.1⟩
theorem er.sees {s0 : cs_S} (h : er s0) (w : Nat) : f_X6_sees s0 w = some 0 := by
  unfold f_X6_sees
  rw [if_neg (by rw [h.1]; decide)]
theorem er.word {s0 : cs_S} (h : er s0) (w : Nat) : f_X6_passWord s0 w = some s0 := by
  unfold f_X6_passWord
  simp only [h.sees w, if_true, rep_e h.1 h.2]
theorem er.sign {s0 : cs_S} (h : er s0) : f_X6_passSign s0 = some s0 := by
  unfold f_X6_passSign
  rw [if_neg (by rw [h.1]; decide), rep_e h.1 h.2]
theorem er.fin {s0 : cs_S} (h : er s0) : f_X6_passEnd s0 = some s0 := by
  unfold f_X6_passEnd
  rw [if_neg (by rw [h.1]; decide), rep_e h.1 h.2]
theorem er.fit {s0 : cs_S} (h : er s0) (a b z : Int32) : f_X6_takeFitting s0 a b z = some (0, s0) := by
  unfold f_X6_takeFitting
  rw [if_neg (by rw [h.1]; decide), rep_e h.1 h.2]
theorem er.num {s0 : cs_S} (h : er s0) (a b : Int32) : f_X6_takeNumber s0 a b = some (0, s0) := by
  unfold f_X6_takeNumber
  simp only [h.fit]
theorem er.num0 {s0 : cs_S} (h : er s0) (a b : Int32) : f_X6_takeNumberOrZero s0 a b = some (0, s0) := by
  unfold f_X6_takeNumberOrZero
  simp only [h.fit]
/-- the next token -/
theorem j_adv {x : Nat → Nat} {len p t u c : Nat} {L : Int32} {s0 : cs_S} (C : tk_C x len t u c s0) (T : tk_T x len L p t u c) :
    ∃ s0', f_X6_step s0 = some s0' ∧ tf s0 s0' ∧ s0'.1 1 6 = s0.1 1 6 ∧ s0'.1 1 7 = s0.1 1 7 ∧ ∃ t' u' c', tk_C x len t' u' c' s0' ∧ tk_T x len (if c = 3 ∨ c = 4 then nI u else -1) u t' u' c' := by
  obtain ⟨B, h3, h4, h5⟩ := C
  obtain ⟨s0', e1, t', u', c', T', g3, g4, g5, gF⟩ := tk_step B h5 T.1.2.2.1
  refine ⟨s0', e1, tf.T gF, gF.2 1 6 (by omega), gF.2 1 7 (by omega), t', u', c', ⟨B.F gF, g3, g4, g5⟩, ?_⟩
  have hc := T.c5
  have e : (if s0.1 1 3 = 3 ∨ s0.1 1 3 = 4 then nI u else -1) = if c = 3 ∨ c = 4 then nI u else -1 := by
    rw [h3]
    by_cases a : c = 3 ∨ c = 4
    · rw [if_pos a, if_pos (a.elim (fun h => .inl (by rw [h]; rfl)) (fun h => .inr (by rw [h]; rfl)))]
    · rw [if_neg a, if_neg (fun h => a (h.elim (fun h => .inl ((nI_eq (b := 3) (by omega) (by omega)).mp h)) (fun h => .inr ((nI_eq (b := 4) (by omega) (by omega)).mp h))))]
  rw [← e]
  exact T'
/-- a word that must be there -/
theorem j_word {x : Nat → Nat} {len w W : Nat} {W' : Int64} {s0 : cs_S} {s : mo_S} (tb : tk_tab w W) (hW : W < 2 ^ 40) (hW' : W' = lN W) (J : jt x len s0 s) :
    ∃ s0' s' r, f_X6_passWord s0 w = some s0' ∧ f_X9_takesWord s W' = some (r, s') ∧ tf s0 s0' ∧ rq rqA s s' ∧ ((r = 1 ∧ jt x len s0' s') ∨ (r = 0 ∧ je s0' s')) := by
  subst hW'
  obtain ⟨p, t, u, c, C, R, h9, T, z6, z14, z7, z15⟩ := J
  obtain ⟨s1, F1, g9, g12, g⟩ := rp_sees R h9 T
  have q11 : s1.1 11 = s.1 11 := F1.2 11 (by decide)
  have R1 := R.F F1 (by decide)
  have F1' : rq rqA s s1 := F1.mono (by decide)
  rcases cl_sees tb C T with ⟨e1, c3, ew⟩ | ⟨e1, ew⟩
  · rcases g with ⟨_, g1, g2, g14, g15⟩ | ⟨g0, _⟩
    · obtain ⟨r1, r2, r3, r4, _⟩ := T.r3 (.inl c3)
      rw [c3] at r3 r4
      obtain ⟨s2, f1, F2, f9, f11⟩ := rp_pass R1 g9 (by omega) r2 r3 r4
      obtain ⟨s0', d1, d2, d6, d7, t', u', c', C', T'⟩ := j_adv C T
      rw [if_pos (.inl c3)] at T'
      refine ⟨s0', s2, 1, ?_, ?_, d2, F1'.trans (F2.mono (by decide)), .inl ⟨rfl, u, t', u', c', C', R1.F F2 (by decide), f9, ?_, ?_⟩⟩
      · unfold f_X6_passWord
        simp only [e1, i32_10, if_false, d1]
      · unfold f_X9_takesWord
        simp only [g1, i32_10, if_false, g2, ew]
        rw [if_pos ((lg_0 _ _).mpr rfl), f1]
      · rw [f11]; exact T'
      · exact ⟨by rw [d6]; exact z6, by rw [F2.2 14 (by decide), g14]; exact z14, by rw [d7]; exact z7, by rw [F2.2 15 (by decide), g15]; exact z15⟩
    · exact absurd c3 g0
  · obtain ⟨s0', r1, r3, r6, r7, rF⟩ := rep_0 (a := 1) z6
    have cl : f_X6_passWord s0 w = some s0' := by
      unfold f_X6_passWord
      simp only [e1, if_true, r1]
    rcases g with ⟨c3, g1, g2, g14, g15⟩ | ⟨g0, g1, g14, g15⟩
    · have nw : ¬ lg_cmp s1.2.1 (lN W) = 0 := by
        rw [lg_0, g2]
        intro h
        obtain ⟨r1, r2, r3, r4, _⟩ := T.r3 (.inl c3)
        rw [c3] at r3
        have := (tk_w_lt (u - t) (fun k h1 h2 => r3 k h1 (by omega))).2
        exact ew c3 (lN_inj (by omega) hW h)
      refine ⟨s0', mo_i (mo_i s1 14 1) 15 (nI t), 0, cl, ?_, rF, F1'.trans ((rq.i s1 1 (by decide)).trans (rq.i _ (nI t) (by decide))), .inr ⟨rfl, r3, by rw [r6]; decide, ?_, ?_⟩⟩
      · unfold f_X9_takesWord
        simp only [g1, i32_10, if_false, if_neg nw, fails_v, g12]
        rfl
      · rw [r6, mo_i_1, if_neg (by decide), mo_i_1, if_pos rfl]
      · rw [r7, mo_i_1, if_pos rfl]; exact C.2.2.1
    · refine ⟨s0', s1, 0, cl, ?_, rF, F1', .inr ⟨rfl, r3, by rw [r6]; decide, by rw [r6, g14], by rw [r7, g15]; exact C.2.2.1⟩⟩
      unfold f_X9_takesWord
      simp only [g1, if_true]
/-- the semicolon -/
theorem j_semi {x : Nat → Nat} {len : Nat} {s0 : cs_S} {s : mo_S} (J : jt x len s0 s) :
    ∃ s0' s' r, f_X6_passSign s0 = some s0' ∧ f_X9_readSemicolon s = some (r, s') ∧ tf s0 s0' ∧ rq rqA s s' ∧ ((r = 1 ∧ jt x len s0' s') ∨ (r = 0 ∧ je s0' s')) := by
  obtain ⟨p, t, u, c, C, R, h9, T, z6, z14, z7, z15⟩ := J
  have hc := T.c5
  obtain ⟨s1, F1, g⟩ := rp_semi R h9 T
  have F1' : rq rqA s s1 := F1.mono (by decide)
  have h3 := C.2.1
  rcases g with ⟨c5, g1, g9, g11, g14, g15⟩ | ⟨c5, g1, g14, g15⟩
  · obtain ⟨s0', d1, d2, d6, d7, t', u', c', C', T'⟩ := j_adv C T
    rw [if_neg (by omega)] at T'
    refine ⟨s0', s1, 1, ?_, g1, d2, F1', .inl ⟨rfl, u, t', u', c', C', R.F F1 (by decide), g9, by rw [g11]; exact T', ⟨by rw [d6]; exact z6, by rw [g14]; exact z14, by rw [d7]; exact z7, by rw [g15]; exact z15⟩⟩⟩
    unfold f_X6_passSign
    rw [if_pos (by rw [h3, c5]; rfl), d1]
  · obtain ⟨s0', r1, r3, r6, r7, rF⟩ := rep_0 (a := 1) z6
    refine ⟨s0', s1, 0, ?_, g1, rF, F1', .inr ⟨rfl, r3, by rw [r6]; decide, by rw [r6, g14], by rw [r7, g15]; exact C.2.2.1⟩⟩
    unfold f_X6_passSign
    rw [if_neg (by rw [h3]; exact fun h => c5 ((nI_eq (b := 5) (by omega) (by omega)).mp h)), r1]
/-- the end: what peek() tells -/
theorem j_peek {x : Nat → Nat} {len : Nat} {s0 : cs_S} {s : mo_S} (J : jt x len s0 s) :
    ∃ s' b, f_X9_peek s = some (b, s') ∧ jt x len s0 s' ∧ rq [9, 12] s s' ∧ s'.1 12 = s0.1 1 4 ∧ (b = -1 ↔ s0.1 1 3 = 0) ∧ (f_X9_isLetter s' b = some 1 ∨ f_X9_isLetter s' b = some 0 ∧ s0.1 1 3 ≠ 3) := by
  obtain ⟨p, t, u, c, C, R, h9, T, z6, z14, z7, z15⟩ := J
  have hc := T.c5
  obtain ⟨s1, e1, q9, q12, qw, qF⟩ := rp_peek R h9 T
  have R1 := R.F qF (by decide)
  have h3 := C.2.1
  refine ⟨s1, _, e1, ⟨t, t, u, c, C, R1, q9, ?_, z6, ?_, z7, ?_⟩, qF, by rw [q12]; exact C.2.2.1.symm, ?_, ?_⟩
  · rw [qF.2 11 (by decide)]; exact T.at
  · rw [qF.2 14 (by decide)]; exact z14
  · rw [qF.2 15 (by decide)]; exact z15
  · rw [h3]
    unfold tk_b
    by_cases a : t < len
    · rw [if_pos a]
      refine ⟨fun h => absurd h (tk_inN _ (R.2.2 t a).1), fun h => ?_⟩
      have := (nI_eq (a := c) (b := 0) (by omega) (by omega)).mp h
      rcases T.2 with h | ⟨h0, h | h | h⟩
      · omega
      · omega
      · omega
      · rcases h.2.2.2 with h' | h' <;> omega
    · rw [if_neg a]
      refine ⟨fun _ => ?_, fun _ => rfl⟩
      rcases T.2 with h | ⟨h0, _⟩
      · rw [h.1]; rfl
      · exact absurd h0.1 a
  · rw [tk_let (s := s1) (k := t) R1]
    by_cases a : t < len ∧ tk_k (x t) = 3
    · rw [if_pos a]; exact .inl rfl
    · rw [if_neg a]
      refine .inr ⟨rfl, ?_⟩
      rw [h3]
      intro h
      have hc3 := (nI_eq (a := c) (b := 3) (by omega) (by omega)).mp h
      have := T.r3 (.inl hc3)
      exact a ⟨by omega, by rw [this.2.2.1 t (by omega) (by omega)]; exact hc3⟩
theorem j_end {s0 : cs_S} (h6 : s0.1 1 6 = 0) : (s0.1 1 3 = 0 ∧ f_X6_passEnd s0 = some s0) ∨ (s0.1 1 3 ≠ 0 ∧ ∃ s0', f_X6_passEnd s0 = some s0' ∧ tf s0 s0' ∧ s0'.1 1 3 = 1 ∧ s0'.1 1 6 = 1 ∧ s0'.1 1 7 = s0.1 1 4) := by
  by_cases a : s0.1 1 3 = 0
  · exact .inl ⟨a, by unfold f_X6_passEnd; rw [if_pos a]⟩
  · obtain ⟨s0', r1, r3, r6, r7, rF⟩ := rep_0 (a := 1) h6
    exact .inr ⟨a, s0', by unfold f_X6_passEnd; rw [if_neg a, r1], rF, r3, r6, r7⟩
/-- a number, as the program takes it -/
theorem cl_fit {x : Nat → Nat} {len p t u c : Nat} {L : Int32} {s0 : cs_S} (lo hi z : Int32) (C : tk_C x len t u c s0) (T : tk_T x len L p t u c) :
    f_X6_takeFitting s0 lo hi z = if c = 4 then (if (¬ nI (tk_v x t (u - t)) < lo ∧ ¬ hi < nI (tk_v x t (u - t))) ∨ (z ≠ 0 ∧ nI (tk_v x t (u - t)) = 0) then (f_X6_step s0).map (fun s => (nI (tk_v x t (u - t)), s)) else (f_X6_report s0 2).map (fun s => (0, s))) else (f_X6_report s0 1).map (fun s => (0, s)) := by
  obtain ⟨B, h3, h4, h5⟩ := id C
  have hl := B.1
  have hc := T.c5
  unfold f_X6_takeFitting
  by_cases a : c = 4
  · rw [if_pos (by rw [h3, a]; rfl), if_pos a]
    obtain ⟨r1, r2, r3, r4, r5⟩ := T.r3 (.inr a)
    have key : ∀ j i fu, i + j = u - t → j < fu → pm_loop fu lb_X6_takeFitting_24 (s0, lo, hi, z, nI (tk_v x t i), nI (t + i)) = pm_loop (fu - j) lb_X6_takeFitting_24 (s0, lo, hi, z, nI (tk_v x t (u - t)), nI u) := by
      intro j
      induction j with
      | zero =>
        intro i fu h1 h2
        rw [show i = u - t by omega, show t + (u - t) = u by omega]
        rfl
      | succ j ih =>
        intro i fu h1 h2
        cases fu with
        | zero => omega
        | succ fu =>
          have k4 := tk_k4 ((r3 (t + i) (by omega) (by omega)).trans a)
          have bt : s0.2.1 2 (Int32.toNatClampNeg (nI (t + i))) = nI (x (t + i)) := by
            rw [nI_clamp (by omega), (B.2.2 (t + i) (by omega)).2, tk_low _ (by omega)]
          have st : lb_X6_takeFitting_24 (s0, lo, hi, z, nI (tk_v x t i), nI (t + i)) = some (.inl (s0, lo, hi, z, nI (tk_v x t (i + 1)), nI (t + (i + 1)))) := by
            unfold lb_X6_takeFitting_24
            simp only [h5, nb_nI (show t + i < 800 by omega) (by decide), bt]
            rw [if_neg (fun h => absurd ((nI_leI (by omega) (by omega)).mp h) (by omega)), show (10 : Int32) = nI 10 from rfl, show (48 : Int32) = nI 48 from rfl, nI_mul, nI_sub (by omega), nI_add, nI_1, Nat.mul_comm]
            rfl
          rw [lp_inl st, ih (i + 1) fu (by omega) (by omega), Nat.add_sub_add_right]
    have k0 := key (u - t) 0 pm_fu (by omega) (by show u - t < 1000000; omega)
    rw [h4]
    show pm_loop pm_fu lb_X6_takeFitting_24 (s0, lo, hi, z, nI (tk_v x t 0), nI (t + 0)) = _
    rw [k0]
    obtain ⟨f', hf'⟩ : ∃ f', pm_fu - (u - t) = f' + 1 := ⟨999999 - (u - t), by show 1000000 - (u - t) = _; omega⟩
    rw [hf']
    generalize nI (tk_v x t (u - t)) = v
    have he : nI u ≤ nI u := (nI_leI (by omega) (by omega)).mpr (by omega)
    have fin : lb_X6_takeFitting_24 (s0, lo, hi, z, v, nI u) = (if (¬ v < lo ∧ ¬ hi < v) ∨ (z ≠ 0 ∧ v = 0) then (f_X6_step s0).map (fun s => .inr (v, s)) else (f_X6_report s0 2).map (fun s => .inr (0, s))) := by
      unfold lb_X6_takeFitting_24
      simp only [h5, if_pos he]
      by_cases d1 : v < lo
      · rw [if_pos d1]
        by_cases d2 : z = 0
        · rw [if_pos d2, if_neg (fun h => h.elim (fun h => h.1 d1) (fun h => h.1 d2))]
          cases f_X6_report s0 2 <;> rfl
        · rw [if_neg d2]
          by_cases d3 : v = 0
          · rw [if_pos d3, if_pos (.inr ⟨d2, d3⟩)]
            cases f_X6_step s0 <;> rfl
          · rw [if_neg d3, if_neg (fun h => h.elim (fun h => h.1 d1) (fun h => d3 h.2))]
            cases f_X6_report s0 2 <;> rfl
      · rw [if_neg d1]
        by_cases d4 : hi < v
        · rw [if_pos d4]
          by_cases d2 : z = 0
          · rw [if_pos d2, if_neg (fun h => h.elim (fun h => h.2 d4) (fun h => h.1 d2))]
            cases f_X6_report s0 2 <;> rfl
          · rw [if_neg d2]
            by_cases d3 : v = 0
            · rw [if_pos d3, if_pos (.inr ⟨d2, d3⟩)]
              cases f_X6_step s0 <;> rfl
            · rw [if_neg d3, if_neg (fun h => h.elim (fun h => h.2 d4) (fun h => d3 h.2))]
              cases f_X6_report s0 2 <;> rfl
        · rw [if_neg d4, if_pos (.inl ⟨d1, d4⟩)]
          cases f_X6_step s0 <;> rfl
    unfold pm_loop
    rw [fin]
    by_cases d : (¬ v < lo ∧ ¬ hi < v) ∨ (z ≠ 0 ∧ v = 0)
    · rw [if_pos d, if_pos d]
      cases f_X6_step s0 <;> rfl
    · rw [if_neg d, if_neg d]
      cases f_X6_report s0 2 <;> rfl
  · rw [if_neg (by rw [h3]; exact fun h => a ((nI_eq (b := 4) (by omega) (by omega)).mp h)), if_neg a]
    cases f_X6_report s0 1 <;> rfl
