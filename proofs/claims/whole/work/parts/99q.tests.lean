/-! What is so when an array is loaded; the tests of arguments in both programs. -/
def iv_E : t_IE := fun j s0 s4 s5 s6 s => tx_R s0 s ∧ ∃ D S T m n N ln cnt tk f p A L W F, ab_Z D S T m n N ln cnt tk f p A L W F s4 s5 s6 s ∧ n ≤ 99999 ∧ N ≤ 10000000 * j ∧ (f = none → A.1 0 0 7 = -1)
theorem ab_Z.i {D S T m n N ln cnt : Nat} {tk : Nat → Nat} {f : Option Nat} {p : Nat → Int32} {A : ab_S} {L : Nat → Bool} {W : Nat → Nat} {F : List Nat} {s4 s5 s6 : cs_S} {s : mo_S} (v : Int32) (Z : ab_Z D S T m n N ln cnt tk f p A L W F s4 s5 s6 s) : ab_Z D S T m n N ln cnt tk f p A L W F s4 s5 s6 (mo_i s 2 v) := by
  obtain ⟨⟨hP, hp, hs, hC, hR, hB, hF⟩, V, TR, Z4⟩ := Z
  refine ⟨⟨hP, hp, hs, hC, hR, hB, hF⟩, V, ⟨⟨TR.1.1, TR.1.2.1, ?_, TR.1.2.2.2⟩, TR.2⟩, Z4⟩
  rw [mo_i_1, if_neg (by decide)]
  exact TR.1.2.2.1
theorem iv_E_i {j : Nat} {s0 s4 s5 s6 : cs_S} {s : mo_S} {v : Int32} (h : iv_E j s0 s4 s5 s6 s) : iv_E (j + 1) s0 s4 s5 s6 (mo_i s 2 v) := by
  obtain ⟨h1, D, S, T, m, n, N, ln, cnt, tk, f, p, A, L, W, F, Z, hn, hN, h7⟩ := h
  exact ⟨tx_R_i h1, D, S, T, m, n, N, ln, cnt, tk, f, p, A, L, W, F, Z.i v, hn, by omega, h7⟩
theorem iv_E_ii {j : Nat} {s0 s4 s5 s6 : cs_S} {s : mo_S} {v w : Int32} (h : iv_E j s0 s4 s5 s6 s) : iv_E (j + 1) s0 s4 s5 s6 (mo_i (mo_i s 2 v) 2 w) := by
  obtain ⟨h1, D, S, T, m, n, N, ln, cnt, tk, f, p, A, L, W, F, Z, hn, hN, h7⟩ := h
  exact ⟨tx_R_i (tx_R_i h1), D, S, T, m, n, N, ln, cnt, tk, f, p, A, L, W, F, (Z.i v).i w, hn, by omega, h7⟩
theorem rg (a : Int32) {b : Nat} (h1 : 1 ≤ b) (h2 : b < 2 ^ 31) : (∃ k, k < b ∧ a = nI k ∧ ¬ a < 0 ∧ ¬ nI b ≤ a ∧ ¬ nI (b - 1) < a) ∨ a < 0 ∨ (¬ a < 0 ∧ nI b ≤ a ∧ nI (b - 1) < a) := by
  by_cases u : a < 0
  · exact .inr (.inl u)
  · obtain ⟨k, hk, rfl⟩ := nI_of u
    by_cases w : k < b
    · exact .inl ⟨k, w, rfl, u, fun h => absurd ((nI_leI h2 hk).mp h) (by omega), fun h => absurd ((nI_ltI (by omega) hk).mp h) (by omega)⟩
    · exact .inr (.inr ⟨u, (nI_leI h2 hk).mpr (by omega), (nI_ltI (by omega) hk).mpr (by omega)⟩)
theorem isArray_w {s : mo_S} {p : Nat → Int32} {D S T : Nat} (hp : ab_pl p D S T) (hs : s.2.2.1 0 = p) : f_X9_isArray s = some 1 := by
  have q := (ab_p01 hp).2.2.2.2.2.1
  unfold f_X9_isArray
  simp only [nb_0_26, tc_0, hs, hp.1, if_neg q]
theorem z11 : (1 : Int32) &&& 1 = 1 ∧ (0 : Int32) &&& 1 = 0 := by decide
theorem q_disk {s4 : cs_S} {s : mo_S} {p : Nat → Int32} {D S T : Nat} (hp : ab_pl p D S T) (hP : ab_P p s4) (hs : s.2.2.1 0 = p) (a : Int32) : (∃ d, d ≤ D ∧ a = nI d ∧ f_X2_hasDiskOrSpare s4 a = some 1 ∧ f_X9_isDisk s a = some 1) ∨ (f_X2_hasDiskOrSpare s4 a = some 0 ∧ f_X9_isDisk s a = some 0) := by
  have hD := hp.2.2.2.2.1
  unfold f_X2_hasDiskOrSpare f_X9_isDisk f_X9_in
  rw [isArray_w hp hs, disks_w hs, hP.1, hp.1]
  simp only [i32_10, if_false]
  rcases rg a (b := D + 1) (by omega) (by omega) with ⟨k, k1, k2, k3, k4, k5⟩ | k | ⟨k3, k4, k5⟩
  · rw [Nat.add_sub_cancel] at k5
    simp only [if_neg k3, if_neg k5, i32_10, if_false]
    exact .inl ⟨k, by omega, k2, trivial, trivial⟩
  · simp only [if_pos k, if_true]
    exact .inr ⟨trivial, trivial⟩
  · rw [Nat.add_sub_cancel] at k5
    simp only [if_neg k3, if_pos k5, if_true]
    exact .inr ⟨trivial, trivial⟩
theorem q_tenant {s4 : cs_S} {s : mo_S} {p : Nat → Int32} {D S T : Nat} (hp : ab_pl p D S T) (hP : ab_P p s4) (hs : s.2.2.1 0 = p) (a : Int32) : (∃ t, t < T ∧ a = nI t ∧ f_X2_hasTenant s4 a 0 = some 1 ∧ f_X9_isTenant s a = some 1) ∨ (f_X2_hasTenant s4 a 0 = some 0 ∧ f_X9_isTenant s a = some 0) := by
  have hT := hp.2.2.2.2.2.2.2.2.1
  have hT1 := hp.2.2.2.2.2.2.2.1
  have e : nI T - 1 = nI (T - 1) := nI_sub (b := 1) hT1
  unfold f_X2_hasTenant f_X9_isTenant f_X9_in
  simp only [hP.2.2.2.2.2.2.1, nb_6_26, tc_6, hs, hp.2.2.1, e]
  rcases rg a (b := T) (by omega) (by omega) with ⟨k, k1, k2, k3, k4, k5⟩ | k | ⟨k3, k4, k5⟩
  · simp only [if_neg k3, if_neg k4, if_neg k5, z11.1, if_true]
    exact .inl ⟨k, k1, k2, trivial, trivial⟩
  · simp only [if_pos k, z11.2, if_true]
    exact .inr ⟨trivial, trivial⟩
  · simp only [if_neg k3, if_pos k4, if_pos k5, z11.2, if_true]
    exact .inr ⟨trivial, trivial⟩
theorem q_client {s4 : cs_S} {s : mo_S} {p : Nat → Int32} {D S T : Nat} (hp : ab_pl p D S T) (hP : ab_P p s4) (hs : s.2.2.1 0 = p) (a : Int32) : (∃ t, 1 ≤ t ∧ t < T ∧ a = nI t ∧ f_X2_hasTenant s4 a 1 = some 1 ∧ f_X9_isClient s a = some 1) ∨ (f_X2_hasTenant s4 a 1 = some 0 ∧ f_X9_isClient s a = some 0) := by
  have hT := hp.2.2.2.2.2.2.2.2.1
  have q := q_tenant hp hP hs a
  have il := i32_le0 a
  unfold f_X2_hasTenant at q ⊢
  unfold f_X9_isClient
  by_cases u : a < 1
  · rw [if_pos u, if_pos (il.mpr u)]
    exact .inr ⟨rfl, rfl⟩
  · rw [if_neg u, if_neg (fun h => u (il.mp h))]
    rcases q with ⟨t, t1, t2, t3, t4⟩ | ⟨t3, t4⟩
    · have n0 : ¬ a < 0 := fun h => by
        rw [if_pos h] at t3
        cases t3
      rw [if_neg n0] at t3
      rw [t3, t4]
      simp only [i32_10, if_false]
      refine .inl ⟨t, ?_, t1, t2, trivial, trivial⟩
      apply Classical.byContradiction
      intro h
      have : t = 0 := by omega
      rw [t2, this] at u
      exact u (by decide)
    · have n0 : ¬ a < 0 := fun h => u (by
        have := Int32.lt_iff_toInt_lt.mp h
        refine Int32.lt_iff_toInt_lt.mpr ?_
        rw [show (0 : Int32).toInt = 0 from rfl] at this
        rw [show (1 : Int32).toInt = 1 from rfl]
        omega)
      rw [if_neg n0] at t3
      rw [t3, t4]
      exact .inr ⟨rfl, rfl⟩
theorem q_stripe {s4 : cs_S} {s : mo_S} {p : Nat → Int32} {D S T : Nat} (hp : ab_pl p D S T) (hP : ab_P p s4) (hs : s.2.2.1 0 = p) (a : Int32) : (∃ k, k < S ∧ a = nI k ∧ f_X2_hasStripe s4 a = some 1 ∧ f_X9_isStripe s a = some 1) ∨ (f_X2_hasStripe s4 a = some 0 ∧ f_X9_isStripe s a = some 0) := by
  have hS := hp.2.2.2.2.2.2.1
  have hS1 := hp.2.2.2.2.2.1
  have e : nI S - 1 = nI (S - 1) := nI_sub (b := 1) hS1
  unfold f_X2_hasStripe f_X9_isStripe f_X9_in
  simp only [hP.2.1, nb_1_26, tc_1, hs, hp.2.1, e]
  rcases rg a (b := S) (by omega) (by omega) with ⟨k, k1, k2, k3, k4, k5⟩ | k | ⟨k3, k4, k5⟩
  · simp only [if_neg k3, if_neg k4, if_neg k5, z11.1, if_true]
    exact .inl ⟨k, k1, k2, trivial, trivial⟩
  · simp only [if_pos k, z11.2, if_true]
    exact .inr ⟨trivial, trivial⟩
  · simp only [if_neg k3, if_pos k4, if_pos k5, z11.2, if_true]
    exact .inr ⟨trivial, trivial⟩
theorem q_unit {s4 : cs_S} {s : mo_S} {p : Nat → Int32} {D S T : Nat} (hp : ab_pl p D S T) (hP : ab_P p s4) (hs : s.2.2.1 0 = p) (a : Int32) : (∃ u, u < S * (D - 1) ∧ a = nI u ∧ f_X2_hasUnit s4 a = some 1 ∧ f_X9_isUnit s a = some 1) ∨ (f_X2_hasUnit s4 a = some 0 ∧ f_X9_isUnit s a = some 0) := by
  have hS := hp.2.2.2.2.2.2.1
  have hS1 := hp.2.2.2.2.2.1
  have hD := hp.2.2.2.2.1
  have hD3 := hp.2.2.2.1
  obtain ⟨q1, q2, _⟩ := ab_p01 hp
  have b1 : 1 ≤ S * (D - 1) := Nat.mul_pos (by omega) (by omega)
  have b2 : S * (D - 1) ≤ 64 * 5 := Nat.mul_le_mul hS (by omega)
  have e1 : p 1 * (p 0 - 1) = nI (S * (D - 1)) := by rw [hp.2.1, q2, nI_mul]
  have e2 : (p 0 - 1) * p 1 - 1 = nI (S * (D - 1) - 1) := by
    rw [hp.2.1, q2, nI_mul, Nat.mul_comm]
    exact nI_sub (b := 1) b1
  unfold f_X2_hasUnit f_X9_isUnit f_X9_units f_X2_units f_X9_in
  rw [isArray_w hp hs, disks_w hs]
  simp only [i32_10, if_false, hP.2.1, hP.1, nb_1_26, tc_1, hs, e1, e2]
  rcases rg a (b := S * (D - 1)) b1 (by omega) with ⟨k, k1, k2, k3, k4, k5⟩ | k | ⟨k3, k4, k5⟩
  · simp only [if_neg k3, if_neg k4, if_neg k5, i32_10, if_false]
    exact .inl ⟨k, k1, k2, trivial, trivial⟩
  · simp only [if_pos k, if_true]
    exact .inr ⟨trivial, trivial⟩
  · simp only [if_neg k3, if_pos k4, if_pos k5, if_true]
    exact .inr ⟨trivial, trivial⟩
