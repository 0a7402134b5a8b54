/-! A request ends, in both programs. -/
theorem ab_ext {A A' : ab_S} (h1 : ∀ g i w, A'.1 g i w = A.1 g i w) (h2 : A'.2 = A.2) : A' = A :=
  Prod.ext (funext fun g => funext fun i => funext fun w => h1 g i w) h2
def ab_en4 (A : ab_S) (r t : Nat) : ab_S := ab_v (ab_v (ab_v (ab_v A 5 r 4 (A.1 0 0 0)) 6 t 0 (A.1 6 t 0 + 1)) 6 t 1 (A.1 6 t 1 + (A.1 0 0 0 - A.1 5 r 1))) 6 t 2 (if A.1 6 t 2 < A.1 0 0 0 - A.1 5 r 1 then A.1 0 0 0 - A.1 5 r 1 else A.1 6 t 2)
def ab_en (A : ab_S) (r t : Nat) : ab_S := if A.1 5 r 2 = -1 then ab_en4 A r t else if A.1 0 0 0 ≤ A.1 5 r 2 then ab_en4 A r t else ab_v (ab_en4 A r t) 6 t 3 (A.1 6 t 3 + 1)
theorem ab_en_2 (A : ab_S) (r t : Nat) : (ab_en A r t).2 = A.2 := by
  unfold ab_en
  split
  · rfl
  · split <;> rfl
theorem ab_en4_1 (A : ab_S) (r t g i w : Nat) (h5 : ¬ (g = 5 ∧ w = 4)) (h6 : ¬ (g = 6 ∧ i = t ∧ w < 4)) : (ab_en4 A r t).1 g i w = A.1 g i w := by
  unfold ab_en4
  rw [ab_v_1, if_neg (by omega), ab_v_1, if_neg (by omega), ab_v_1, if_neg (by omega), ab_v_1, if_neg (by omega)]
theorem ab_en_1 (A : ab_S) (r t g i w : Nat) (h5 : ¬ (g = 5 ∧ w = 4)) (h6 : ¬ (g = 6 ∧ i = t ∧ w < 4)) : (ab_en A r t).1 g i w = A.1 g i w := by
  unfold ab_en
  split
  · exact ab_en4_1 A r t g i w h5 h6
  · split
    · exact ab_en4_1 A r t g i w h5 h6
    · rw [ab_v_1, if_neg (by omega)]
      exact ab_en4_1 A r t g i w h5 h6
theorem ab_C_en {S : Nat} {A : ab_S} {s : cs_S} {r t : Nat} (hr : r < 400) (hc : nI r < A.1 0 0 2) (ht : A.1 5 r 0 = nI t) (ht' : t < 6) (H : ab_C S A s) : ∃ s', f_X5_end s (nI r) (s.1 0 4) = some s' ∧ ab_C S (ab_en A r t) s' := by
  obtain ⟨k0, k1, k2, k3, k4, k5, k6⟩ := H.2.2.2.2.2.1 r hr hc
  obtain ⟨t0, t1, t2, t3, t4, t5, t6⟩ := H.2.2.2.2.1 t ht'
  have n0 := H.1.1
  rw [ht] at k0
  have C1 := ab_C_5 (w := 4) (x := A.1 0 0 0) hr (by decide) H
  have C2 := ab_C_6 (w := 0) (x := A.1 6 t 0 + 1) ht' (by decide) C1
  have C3 := ab_C_6 (w := 1) (x := A.1 6 t 1 + (A.1 0 0 0 - A.1 5 r 1)) ht' (by decide) C2
  have C4 := ab_C_6 (w := 2) (x := if A.1 6 t 2 < A.1 0 0 0 - A.1 5 r 1 then A.1 0 0 0 - A.1 5 r 1 else A.1 6 t 2) ht' (by decide) C3
  have C5 := ab_C_6 (w := 3) (x := A.1 6 t 3 + 1) ht' (by decide) C4
  change ab_C S (ab_en4 A r t) (cs_a (cs_a (cs_a (cs_a s 25 (nI r) (A.1 0 0 0)) 27 (nI t) (A.1 6 t 0 + 1)) 28 (nI t) (A.1 6 t 1 + (A.1 0 0 0 - A.1 5 r 1))) 29 (nI t) (if A.1 6 t 2 < A.1 0 0 0 - A.1 5 r 1 then A.1 0 0 0 - A.1 5 r 1 else A.1 6 t 2)) at C4
  change ab_C S (ab_v (ab_en4 A r t) 6 t 3 (A.1 6 t 3 + 1)) (cs_a (cs_a (cs_a (cs_a (cs_a s 25 (nI r) (A.1 0 0 0)) 27 (nI t) (A.1 6 t 0 + 1)) 28 (nI t) (A.1 6 t 1 + (A.1 0 0 0 - A.1 5 r 1))) 29 (nI t) (if A.1 6 t 2 < A.1 0 0 0 - A.1 5 r 1 then A.1 0 0 0 - A.1 5 r 1 else A.1 6 t 2)) 30 (nI t) (A.1 6 t 3 + 1)) at C5
  generalize hlm : (if A.1 6 t 2 < A.1 0 0 0 - A.1 5 r 1 then A.1 0 0 0 - A.1 5 r 1 else A.1 6 t 2) = lm at C4 C5
  have r27 : (cs_a s 25 (nI r) (A.1 0 0 0)).2.1 27 t = A.1 6 t 0 := by rw [ca_2 (by omega), if_neg (by omega), t0]
  have r28 : (cs_a (cs_a s 25 (nI r) (A.1 0 0 0)) 27 (nI t) (A.1 6 t 0 + 1)).2.1 28 t = A.1 6 t 1 := by rw [ca_2 (by omega), if_neg (by omega), ca_2 (by omega), if_neg (by omega), t1]
  have r29 : (cs_a (cs_a (cs_a s 25 (nI r) (A.1 0 0 0)) 27 (nI t) (A.1 6 t 0 + 1)) 28 (nI t) (A.1 6 t 1 + (A.1 0 0 0 - A.1 5 r 1))).2.1 29 t = A.1 6 t 2 := by rw [ca_2 (by omega), if_neg (by omega), ca_2 (by omega), if_neg (by omega), ca_2 (by omega), if_neg (by omega), t2]
  have r30 : (cs_a (cs_a (cs_a (cs_a s 25 (nI r) (A.1 0 0 0)) 27 (nI t) (A.1 6 t 0 + 1)) 28 (nI t) (A.1 6 t 1 + (A.1 0 0 0 - A.1 5 r 1))) 29 (nI t) lm).2.1 30 t = A.1 6 t 3 := by rw [ca_2 (by omega), if_neg (by omega), ca_2 (by omega), if_neg (by omega), ca_2 (by omega), if_neg (by omega), ca_2 (by omega), if_neg (by omega), t3]
  have r23 : (cs_a (cs_a (cs_a (cs_a s 25 (nI r) (A.1 0 0 0)) 27 (nI t) (A.1 6 t 0 + 1)) 28 (nI t) (A.1 6 t 1 + (A.1 0 0 0 - A.1 5 r 1))) 29 (nI t) lm).2.1 23 r = A.1 5 r 2 := by rw [ca_2 (by omega), if_neg (by omega), ca_2 (by omega), if_neg (by omega), ca_2 (by omega), if_neg (by omega), ca_2 (by omega), if_neg (by omega), k2]
  unfold f_X5_end ab_en
  simp (disch := omega) only [fc_X5_end_c1, fc_X5_end_c2, fc_X5_end_c3, fc_X5_end_c4, nb_nI, nI_clamp, n0, k0, k1, r27, r28, r29, hlm, r30, r23]
  by_cases u : A.1 5 r 2 = -1
  · rw [if_pos u, if_pos u]
    exact ⟨_, rfl, C4⟩
  · rw [if_neg u, if_neg u]
    by_cases v : A.1 0 0 0 ≤ A.1 5 r 2
    · rw [if_pos v, if_pos v]
      exact ⟨_, rfl, C4⟩
    · rw [if_neg v, if_neg v]
      exact ⟨_, rfl, C5⟩
theorem i32_max (a b : Int32) : (if a ≤ b then b else a) = if b < a then a else b := by
  by_cases h : b < a
  · rw [if_pos h, if_neg (fun k => absurd (Int32.lt_iff_toInt_lt.mp h) (by have := Int32.le_iff_toInt_le.mp k; omega))]
  · rw [if_neg h, if_pos (Int32.le_iff_toInt_le.mpr (by have : ¬ b.toInt < a.toInt := fun k => h (Int32.lt_iff_toInt_lt.mpr k); omega))]
theorem vn_of (s : mo_S) {g i w : Nat} (h : eb g i w = true) : vn s g i w = s.2.2.1 3 (en g i w) := if_pos h
theorem inb_62 {t : Nat} (ht : t < 6) : pm_inb ((2744 + 7 * nI t) + 2) 18186 = true := by
  have e : ((2744 : Int32) + 7 * nI t) + 2 = nI (2744 + 7 * t + 2) := ix_of 2744 7 t 2
  rw [e]
  exact nb_nI (by omega) (by decide)
theorem rd_62 (s : mo_S) {t : Nat} (ht : t < 6) : s.2.2.1 3 (Int32.toNatClampNeg ((2744 + 7 * nI t) + 2)) = vn s 6 t 2 := by
  have e : ((2744 : Int32) + 7 * nI t) + 2 = nI (2744 + 7 * t + 2) := ix_of 2744 7 t 2
  rw [e, nI_clamp (by omega), vn_of s (eb_6 ht (by decide))]
  rfl
theorem wr_62 (s : mo_S) {t : Nat} (v : Int32) : mo_a s 3 ((2744 + 7 * nI t) + 2) v = us s 6 t 2 v := by
  have e : ((2744 : Int32) + 7 * nI t) + 2 = nI (2744 + 7 * t + 2) := ix_of 2744 7 t 2
  rw [e]
  rfl
theorem ab_R_en {D : Nat} {A : ab_S} {s : mo_S} {W : Nat → Nat} {F : List Nat} {r t : Nat} (hr : r < 400) (hc : nI r < A.1 0 0 2) (ht : A.1 5 r 0 = nI t) (ht' : t < 6) (h3 : A.1 5 r 3 ≤ 0) (H : ab_R D A s W F) : ∃ s', f_X9_checkRequest s (nI r) = some s' ∧ rf_F s s' ∧ ab_R D (ab_en A r t) s' W F := by
  have q := fun w hw => H.2.2.2.2.2.2.2.1 r w hr hc hw
  have T := fun w hw => H.2.2.2.2.2.2.2.2.1 t w ht' hw
  have n0 : s.2.2.1 3 0 = A.1 0 0 0 := H.1 0 (by decide)
  obtain ⟨s1, c1, F1, n1, t1, q1⟩ := rf_us s (A.1 0 0 0) (eb_5 (w := 4) hr (by decide))
  obtain ⟨s2, c2, F2, n2, t2, q2⟩ := rf_us s1 (A.1 6 t 0 + 1) (eb_6 (w := 0) ht' (by decide))
  obtain ⟨s3, c3, F3, n3, t3, q3⟩ := rf_us s2 (A.1 6 t 1 + (A.1 0 0 0 - A.1 5 r 1)) (eb_6 (w := 1) ht' (by decide))
  have a0 : vn s1 6 t 0 = A.1 6 t 0 := by rw [n1, if_neg (by omega), T 0 (by omega)]
  have a1 : vn s2 6 t 1 = A.1 6 t 1 := by rw [n2, if_neg (by omega), n1, if_neg (by omega), T 1 (by omega)]
  have a3 : vn s3 6 t 3 = A.1 6 t 3 := by rw [n3, if_neg (by omega), n2, if_neg (by omega), n1, if_neg (by omega), T 3 (by omega)]
  have a2 : vn s3 6 t 2 = A.1 6 t 2 := by rw [n3, if_neg (by omega), n2, if_neg (by omega), n1, if_neg (by omega), T 2 (by omega)]
  have n30 : s3.2.2.1 3 0 = A.1 0 0 0 := by
    show vn s3 0 0 0 = _
    rw [n3, if_neg (by omega), n2, if_neg (by omega), n1, if_neg (by omega)]
    exact n0
  have R1 := ab_R_5 (.inr rfl) n1 t1 q1 H
  have R2 := ab_R_6 n2 t2 q2 R1
  have R3 := ab_R_6 n3 t3 q3 R2
  have d1 : f_X9_setRequest s (nI r) 4 (A.1 0 0 0) = some s1 := by rw [setRequest_4 s hr, c1]
  have d2 : f_X9_addStatistic s1 (nI t) 0 1 = some s2 := by rw [addStatistic_0 s1 ht', a0, c2]
  have d3 : f_X9_addStatistic s2 (nI t) 1 (A.1 0 0 0 - A.1 5 r 1) = some s3 := by rw [addStatistic_1 s2 ht', a1, c3]
  generalize hlm : (if A.1 6 t 2 < A.1 0 0 0 - A.1 5 r 1 then A.1 0 0 0 - A.1 5 r 1 else A.1 6 t 2) = lm
  have fin : ∀ x : Int32, ∃ s4 s5, f_X9_addStatistic s3 (nI t) 3 x = some s4 ∧ rf_F s s5 ∧ vn s4 6 t 2 = A.1 6 t 2 ∧ us s4 6 t 2 lm = s5 ∧ ab_R D (ab_v (ab_en4 A r t) 6 t 3 (A.1 6 t 3 + x)) s5 W F := by
    intro x
    obtain ⟨s4, c4, F4, n4, t4, q4⟩ := rf_us s3 (A.1 6 t 3 + x) (eb_6 (w := 3) ht' (by decide))
    obtain ⟨s5, c5, F5, n5, t5, q5⟩ := rf_us s4 lm (eb_6 (w := 2) ht' (by decide))
    refine ⟨s4, s5, by rw [addStatistic_3 s3 ht', a3, c4], (((F1.trans F2).trans F3).trans F4).trans F5, by rw [n4, if_neg (by omega), a2], c5, ?_⟩
    have R5 := ab_R_6 n5 t5 q5 (ab_R_6 n4 t4 q4 R3)
    refine Eq.subst (motive := fun Z => ab_R D Z s5 W F) ?_ R5
    refine ab_ext (fun g i w => ?_) rfl
    unfold ab_en4
    rw [hlm]
    simp only [ab_v_1]
    by_cases u : g = 6 ∧ i = t ∧ w = 2
    · rw [if_pos u, if_neg (by omega), if_pos u]
    · rw [if_neg u]
      by_cases v : g = 6 ∧ i = t ∧ w = 3
      · rw [if_pos v, if_pos v]
      · rw [if_neg v, if_neg v, if_neg u]
  have e0 : ab_v (ab_en4 A r t) 6 t 3 (A.1 6 t 3 + 0) = ab_en4 A r t := by
    refine ab_ext (fun g i w => ?_) rfl
    rw [ab_v_1, Int32.add_zero]
    by_cases u : g = 6 ∧ i = t ∧ w = 3
    · rw [if_pos u, u.1, u.2.1, u.2.2]
      unfold ab_en4
      simp only [ab_v_1]
      rw [if_neg (by omega), if_neg (by omega), if_neg (by omega), if_neg (by omega)]
    · rw [if_neg u]
  have lme : ∀ s4 : mo_S, vn s4 6 t 2 = A.1 6 t 2 → (if (A.1 0 0 0 - A.1 5 r 1) ≤ vn s4 6 t 2 then some (us s4 6 t 2 (vn s4 6 t 2)) else some (us s4 6 t 2 (A.1 0 0 0 - A.1 5 r 1))) = some (us s4 6 t 2 lm) := by
    intro s4 h
    rw [h, ← hlm, ← i32_max]
    by_cases u : A.1 0 0 0 - A.1 5 r 1 ≤ A.1 6 t 2
    · rw [if_pos u, if_pos u]
    · rw [if_neg u, if_neg u]
  unfold f_X9_checkRequest ab_en
  simp only [ofRequest_3 s hr, ofRequest_0 s hr, ofRequest_1 s hr, ofRequest_2 s hr, q 0 (by decide), q 1 (by decide), q 2 (by decide), q 3 (by decide), if_pos h3, ht, nb_0_18186, tc_0, n0, d1, d2, d3, n30, inb_62 ht', rd_62 _ ht', wr_62]
  by_cases u : A.1 5 r 2 = -1
  · obtain ⟨s4, s5, g1, g2, g3, g4, g5⟩ := fin 0
    rw [if_pos u, if_pos u]
    simp only [g1]
    rw [lme s4 g3, g4]
    rw [e0] at g5
    exact ⟨s5, rfl, g2, g5⟩
  · rw [if_neg u, if_neg u]
    by_cases v : A.1 0 0 0 ≤ A.1 5 r 2
    · obtain ⟨s4, s5, g1, g2, g3, g4, g5⟩ := fin 0
      rw [if_pos v, if_pos v]
      simp only [g1]
      rw [lme s4 g3, g4]
      rw [e0] at g5
      exact ⟨s5, rfl, g2, g5⟩
    · obtain ⟨s4, s5, g1, g2, g3, g4, g5⟩ := fin 1
      rw [if_neg v, if_neg v]
      simp only [g1]
      rw [lme s4 g3, g4]
      exact ⟨s5, rfl, g2, g5⟩
