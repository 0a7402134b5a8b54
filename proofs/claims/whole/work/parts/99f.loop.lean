/-! The trace's lines are accepted: the loop. -/
/-- what accepting lines leaves alone -/
def ab_lf (A A' : ab_S) : Prop := A'.2.2.2 = A.2.2.2 ∧ (∀ w, w ≠ 2 → w ≠ 3 → w ≠ 4 → w ≠ 11 → A'.1 0 0 w = A.1 0 0 w) ∧ (∀ d w, A'.1 1 d w = A.1 1 d w) ∧ (∀ k w, A'.1 4 k w = A.1 4 k w)
theorem ab_lf.trans {A B C : ab_S} (h : ab_lf A B) (g : ab_lf B C) : ab_lf A C :=
  ⟨g.1.trans h.1, fun w a b c d => (g.2.1 w a b c d).trans (h.2.1 w a b c d), fun d w => (g.2.2.1 d w).trans (h.2.2.1 d w), fun k w => (g.2.2.2 k w).trans (h.2.2.2 k w)⟩
theorem ab_lf.v {A : ab_S} {w : Nat} {x : Int32} (h : w = 3 ∨ w = 4 ∨ w = 11) : ab_lf A (ab_v A 0 0 w x) :=
  ⟨rfl, fun w' a b c d => by rw [ab_v_1, if_neg (by omega)], fun d w' => by rw [ab_v_1, if_neg (by omega)], fun k w' => by rw [ab_v_1, if_neg (by omega)]⟩
theorem nI5 (a b : Nat) : (5 : Int32) * nI a + nI b = nI (5 * a + b) := by
  rw [show (5 : Int32) * nI a = nI (5 * a) from nI_mul 5 a, nI_add]
theorem ab_al {D S T m n N ln cnt : Nat} {tk : Nat → Nat} {f : Option Nat} {p : Nat → Int32} {A : ab_S} {L : Nat → Bool} {W : Nat → Nat} {F : List Nat} {s4 s5 s6 : cs_S} {s : mo_S} (h3 : A.1 0 0 3 = nI ln) (h11 : A.1 0 0 11 = 0) (hln : ln ≤ cnt) (hd : ∀ i, ln ≤ i → i < cnt → n ≤ tk i) (hN : N + 800 ≤ 1000000000000) (TR : ab_TR D S T cnt tk s6 s) (H : ab_J D S T m n N p A L W F s4 s5 s) (V : ab_V D S m f A L) :
    ∃ s5' s' W' F' A' L' m' ln', f_X1_acceptLines s4 s5 s6 = some s5' ∧ f_X9_submitLines s = some s' ∧ rf_F s s' ∧ ab_J D S T m' n (N + 800) p A' L' W' F' s4 s5' s' ∧ ab_V D S m' f A' L' ∧ A'.1 0 0 3 = nI ln' ∧ A'.1 0 0 11 = 0 ∧ ln' ≤ cnt ∧ (∀ i, ln' ≤ i → i < cnt → n < tk i) ∧ ab_lf A A' := by
  have hc100 := TR.1.1
  unfold f_X1_acceptLines f_X9_submitLines
  obtain ⟨e, e', h1, h2, Fs, W', F', A', L', m', ln', J', V', q3, q11, ql, qd, qf⟩ := lp2_wh (Q := fun e e' => rf_F s e' ∧ ∃ W' F' A' L' m' ln', ab_J D S T m' n (N + 800) p A' L' W' F' s4 e e' ∧ ab_V D S m' f A' L' ∧ A'.1 0 0 3 = nI ln' ∧ A'.1 0 0 11 = 0 ∧ ln' ≤ cnt ∧ (∀ i, ln' ≤ i → i < cnt → n < tk i) ∧ ab_lf A A') (B := lb_X1_acceptLines_0 s4 s6) (B' := lb_X9_submitLines_0) (fun mm x y => rf_F s y ∧ ∃ W' F' A' L' m' ln', ln' + mm = cnt ∧ ab_J D S T m' n (N + 8 * (100 - mm)) p A' L' W' F' s4 x y ∧ ab_V D S m' f A' L' ∧ A'.1 0 0 3 = nI ln' ∧ A'.1 0 0 11 = 0 ∧ (∀ i, ln' ≤ i → i < cnt → n ≤ tk i) ∧ ab_lf A A') (by
    rintro mm x y ⟨Fs, W1, F1, A1, L1, m1, l1, hl, J1, V1, q3, q11, qd, qf⟩
    have TR1 := TR.fr Fs
    obtain ⟨⟨T1, T2, T3, T4⟩, T5⟩ := TR1
    have hB := J1.2.2.2.2.2.1
    have hm := hB.2.2.2.2.2.1.1
    have hn := hB.2.2.2.2.2.1.2.2.1
    have k2 : x.1 0 2 = nI l1 := by rw [J1.2.2.2.1.1.2.2.2.1, q3, q11, Int32.sub_zero]
    have r3 : y.2.2.1 3 3 = nI l1 := (J1.2.2.2.2.1.1 3 (by decide)).trans q3
    have nowC : x.1 0 4 = nI n := J1.2.2.2.1.1.1.trans hB.2.2.2.2.2.1.2.2.2
    have nowR : y.2.2.1 3 0 = nI n := (J1.2.2.2.2.1.1 0 (by decide)).trans hB.2.2.2.2.2.1.2.2.2
    have cC : x.1 19 0 = nI m1 := J1.2.2.2.1.1.2.2.1.trans hB.2.2.2.2.2.1.2.1
    have le : nI cnt ≤ nI l1 ↔ cnt ≤ l1 := nI_leI (by omega) (by omega)
    unfold lb_X1_acceptLines_0 lb_X9_submitLines_0
    simp only [T2, T3, k2, r3, nb_3_18186, tc_3]
    by_cases u : cnt ≤ l1
    · simp only [if_pos (le.mpr u)]
      exact .inr ⟨_, _, rfl, rfl, Fs, W1, F1, A1, L1, m1, l1, J1.up (by omega) hN, V1, q3, q11, by omega, fun i h1 h2 => absurd h2 (by omega), qf⟩
    simp only [if_neg (fun h => u (le.mp h))]
    obtain ⟨g1, g2, g3, ⟨t, t1, t2, t3, t4⟩, ⟨w, w1, w2, w3⟩, ⟨un, u1, u2, u3⟩, gd⟩ := T5 l1 (by omega)
    have i5 : (5 : Int32) * nI l1 = nI (5 * l1) := nI_mul 5 l1
    have nb5 : pm_inb (nI (5 * l1)) 500 = true := nb_nI (by omega) (by decide)
    simp (disch := omega) only [nb_nI, nI_clamp, g2, nowC, i5, nb_0_18186, tc_0, g3, nowR]
    by_cases v : tk l1 = n
    · have nlt : ¬ nI n < nI (tk l1) := fun h => absurd ((nI_ltI (by omega) (by omega)).mp h) (by omega)
      have eqt : nI (tk l1) = nI n := by rw [v]
      simp only [if_neg nlt, if_pos eqt, cC, nb_2_18186, nb_4_18186, tc_2, tc_4]
      obtain ⟨Fl, Jl⟩ := ab_ln1 q3 q11 J1
      have e3 : mo_a y 3 3 (nI l1 + 1) = us y 0 0 3 (nI (l1 + 1)) := by rw [nI_1]; rfl
      rw [e3]
      have Vl : ab_V D S m1 f (ab_v (ab_v A1 0 0 3 (nI (l1 + 1))) 0 0 11 1) L1 := ab_V_0 (by decide) (ab_V_0 (by decide) V1)
      have fl : ab_lf A1 (ab_v (ab_v A1 0 0 3 (nI (l1 + 1))) 0 0 11 1) := (ab_lf.v (.inl rfl)).trans (ab_lf.v (.inr (.inr rfl)))
      have z3 : (ab_v (ab_v A1 0 0 3 (nI (l1 + 1))) 0 0 11 1).1 0 0 3 = nI (l1 + 1) := by rw [ab_v_1, if_neg (by omega), ab_v_1, if_pos ⟨rfl, rfl, rfl⟩]
      have z11 : (ab_v (ab_v A1 0 0 3 (nI (l1 + 1))) 0 0 11 1).1 0 0 11 = 1 := by rw [ab_v_1, if_pos ⟨rfl, rfl, rfl⟩]
      have rm : (us y 0 0 3 (nI (l1 + 1))).2.2.1 3 2 = nI m1 := (Jl.2.2.2.2.1.1 2 (by decide)).trans Jl.2.2.2.2.2.1.2.2.2.2.2.1.2.1
      have r17 : (us y 0 0 3 (nI (l1 + 1))).2.2.1 17 = y.2.2.1 17 := Fl.2.2.1 17 (by decide)
      have Fy := Fs.trans Fl
      generalize us y 0 0 3 (nI (l1 + 1)) = y1 at *
      generalize ab_v (ab_v A1 0 0 3 (nI (l1 + 1))) 0 0 11 1 = A2 at *
      by_cases full : m1 < 400
      · have c4 : nI m1 < 400 := (nI_ltI (b := 400) (by omega) (by decide)).mpr full
        have r4 : ¬ nI m1 = 400 := fun h => absurd ((nI_eq (b := 400) (by omega) (by decide)).mp h) (by omega)
        obtain ⟨s52, s2, W2, F2, A3, L3, a1, a2, a3, J3, V3, af⟩ := ab_acc (t := t) (u := un) (x := w) (due := s6.2.1 4 l1) full t1 t2 u1 w1 (by omega) Jl Vl
        have y3 : A3.1 0 0 3 = nI (l1 + 1) := (af.2.1 3 (by decide)).trans z3
        have y11 : A3.1 0 0 11 = 1 := (af.2.1 11 (by decide)).trans z11
        obtain ⟨k5, J4⟩ := ab_ln2 y3 y11 J3
        have i51 : nI (5 * l1) + 1 = nI (5 * l1 + 1) := nI_add _ 1
        have i52 : nI (5 * l1) + 2 = nI (5 * l1 + 2) := nI_add _ 2
        have i53 : nI (5 * l1) + 3 = nI (5 * l1 + 3) := nI_add _ 3
        have i54 : nI (5 * l1) + 4 = nI (5 * l1 + 4) := nI_add _ 4
        rw [gd] at a1 a2
        simp (disch := omega) only [if_pos c4, t3, u2, w2, gd, a1, k5, nI_1, rm, if_neg r4, i51, i52, i53, i54, nb_nI, nI_clamp, r17, t4, u3, w3, a2]
        refine .inl ⟨_, _, mm - 1, rfl, rfl, by omega, Fy.trans a3, W2, F2, _, L3, m1 + 1, l1 + 1, by omega, J4.up (by omega) (by omega), ab_V_0 (by decide) V3, ?_, by rw [ab_v_1, if_pos ⟨rfl, rfl, rfl⟩], fun i h1 h2 => qd i (by omega) h2, (qf.trans fl).trans ((show ab_lf A2 A3 from ⟨af.1, fun w a _ _ _ => af.2.1 w a, af.2.2.1, af.2.2.2⟩).trans (ab_lf.v (.inr (.inr rfl))))⟩
        rw [ab_v_1, if_neg (by omega)]
        exact y3
      · have em : m1 = 400 := by omega
        have c4 : ¬ nI m1 < 400 := fun h => absurd ((nI_ltI (b := 400) (by omega) (by decide)).mp h) (by omega)
        have r4 : nI m1 = 400 := by rw [em]; rfl
        have k4 : x.1 0 3 = A2.1 0 0 4 := Jl.2.2.2.1.1.2.2.2.2.1
        have r44 : y1.2.2.1 3 4 = A2.1 0 0 4 := Jl.2.2.2.2.1.1 4 (by decide)
        obtain ⟨F4, J4'⟩ := ab_J2_0 (w := 4) (x := A2.1 0 0 4 + 1) (by omega) rfl (ab_J2.of Jl)
        have J4 : ab_J D S T m1 n (N + 8 * (100 - mm)) p (ab_v A2 0 0 4 (A2.1 0 0 4 + 1)) L1 W1 F1 s4 (cs_i x 0 3 (A2.1 0 0 4 + 1)) (us y1 0 0 4 (A2.1 0 0 4 + 1)) := ⟨J4'.1, J4'.2.1, J4'.2.2.1, J4'.2.2.2.1, J4'.2.2.2.2.1, J4'.2.2.2.2.2.1, J4'.2.2.2.2.2.2.1⟩
        obtain ⟨k5, J5⟩ := ab_ln2 (by rw [ab_v_1, if_neg (by omega)]; exact z3) (by rw [ab_v_1, if_neg (by omega)]; exact z11) J4
        simp only [if_neg c4, rm, if_pos r4, k4, r44, k5, nI_1]
        refine .inl ⟨_, _, mm - 1, rfl, rfl, by omega, Fy.trans F4, W1, F1, _, L1, m1, l1 + 1, by omega, J5.up (by omega) (by omega), ab_V_0 (by decide) (ab_V_0 (by decide) Vl), ?_, by rw [ab_v_1, if_pos ⟨rfl, rfl, rfl⟩], fun i h1 h2 => qd i (by omega) h2, ((qf.trans fl).trans (ab_lf.v (.inr (.inl rfl)))).trans (ab_lf.v (.inr (.inr rfl)))⟩
        rw [ab_v_1, if_neg (by omega), ab_v_1, if_neg (by omega)]
        exact z3
    · have gt : n < tk l1 := by
        have := qd l1 (by omega) (by omega)
        omega
      have lt : nI n < nI (tk l1) := (nI_ltI (by omega) (by omega)).mpr gt
      have ne : ¬ nI (tk l1) = nI n := fun h => v ((nI_eq (by omega) (by omega)).mp h)
      simp only [if_pos lt, if_neg ne]
      exact .inr ⟨_, _, rfl, rfl, Fs, W1, F1, A1, L1, m1, l1, J1.up (by omega) hN, V1, q3, q11, by omega, fun i h1 h2 => Nat.lt_of_lt_of_le gt (T4 l1 i h1 h2), qf⟩) (cnt - ln) pm_fu s5 s (by unfold pm_fu; omega) ⟨rf_F.rfl' s, W, F, A, L, m, ln, by omega, H.up (by omega) (by omega), V, h3, h11, hd, ⟨rfl, fun _ _ _ _ _ => rfl, fun _ _ => rfl, fun _ _ => rfl⟩⟩
  exact ⟨e, e', W', F', A', L', m', ln', h1, h2, Fs, J', V', q3, q11, ql, qd, qf⟩
