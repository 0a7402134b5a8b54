/-! The engine that forecasts run on: a copy. -/
theorem cc_2 (s : cs_S) (p : Nat) (f : Nat → Int32) (p' k : Nat) : (cs_c s p f).2.1 p' k = if p' = p then f k else s.2.1 p' k := by
  unfold cs_c va_up
  by_cases h : p' = p
  · simp [h]
  · simp [h]
theorem cc_1 (s : cs_S) (p : Nat) (f : Nat → Int32) : (cs_c s p f).1 = s.1 := rfl
theorem cc_3 (s : cs_S) (p : Nat) (f : Nat → Int32) : (cs_c s p f).2.2 = s.2.2 := rfl
theorem cd_3 (s : cs_S) (p : Nat) (f : Nat → Int64) (p' k : Nat) : (cs_d s p f).2.2 p' k = if p' = p then f k else s.2.2 p' k := by
  unfold cs_d va_up
  by_cases h : p' = p
  · simp [h]
  · simp [h]
theorem cd_1 (s : cs_S) (p : Nat) (f : Nat → Int64) : (cs_d s p f).1 = s.1 := rfl
theorem cd_2 (s : cs_S) (p : Nat) (f : Nat → Int64) : (cs_d s p f).2.1 = s.2.1 := rfl
theorem vc0 {α : Type} (f g : Nat → α) (n k : Nat) : va_cpy f g 0 0 n k = if k < n then f k else g k := by
  unfold va_cpy
  by_cases h : k < n
  · rw [if_pos ⟨Nat.zero_le _, by omega⟩, if_pos h]
    congr 1
    omega
  · rw [if_neg (by omega), if_neg h]
theorem cpo_n {n L : Nat} (h : n ≤ L) (hL : L < 2 ^ 31) : pm_cpo 0 0 (nI n) L L = true := by
  unfold pm_cpo
  rw [nI_clamp (by omega), tc_0]
  exact decide_eq_true ⟨by decide, by decide, nI_pos (by omega), by omega, by omega⟩
theorem cp_X3 (s5 s7 : cs_S) {m : Nat} (hm : m ≤ 400) : ∃ s', f_X3_copyFrom s5 s7 (nI m) = some s' ∧ s'.1 = s7.1 ∧ (∀ P k, ((P = 2 ∨ P = 3 ∨ P = 4) ∧ k < 42) ∨ ((P = 11 ∨ P = 12) ∧ k < 7 * (64 + m)) → s'.2.1 P k = s5.2.1 P k) ∧ (∀ P k, ((P = 5 ∨ P = 6 ∨ P = 7) ∧ k < 42) ∨ ((P = 8 ∨ P = 9 ∨ P = 10) ∧ k < 7 * (64 + m)) → s'.2.2 P k = s5.2.2 P k) := by
  have q42 : pm_cpo 0 0 42 42 42 = true := by decide
  have qm : pm_cpo 0 0 (nI (7 * (64 + m))) 3248 3248 = true := cpo_n (by omega) (by decide)
  have ro : f_X3_requestOperation (nI m) 0 = some (nI (7 * (64 + m))) := requestOperation_w m 0
  have nl : ¬ (3248 : Int32) < nI (7 * (64 + m)) := fun h => absurd ((nI_ltI (a := 3248) (by decide) (by omega)).mp h) (by omega)
  have cl : (nI (7 * (64 + m))).toNatClampNeg = 7 * (64 + m) := nI_clamp (by omega)
  unfold f_X3_copyFrom fc_X3_copyFrom_c1 fc_X3_copyFrom_c2 fc_X3_copyFrom_c3 fc_X3_copyFrom_c4 fc_X3_copyFrom_c5 fc_X3_copyFrom_c6 fc_X3_copyFrom_c7 fc_X3_copyFrom_c8 fc_X3_copyFrom_c9 fc_X3_copyFrom_c10
  simp only [q42, ro, if_neg nl, qm, tc_0, tc_42, cl]
  refine ⟨_, rfl, rfl, fun P k h => ?_, fun P k h => ?_⟩
  · simp only [cc_2, cd_2, vc0]
    rcases h with ⟨rfl | rfl | rfl, h⟩ | ⟨rfl | rfl, h⟩ <;> simp [h]
  · simp only [cd_3, cc_3, vc0]
    rcases h with ⟨rfl | rfl | rfl, h⟩ | ⟨rfl | rfl | rfl, h⟩ <;> simp [h]
theorem cp_X0 (s5 s7 : cs_S) : ∃ s', f_X0_copyFrom s5 s7 = some s' ∧ s'.1 = s7.1 ∧ s'.2.2 = s7.2.2 ∧ (∀ P k, (14 ≤ P ∧ P ≤ 17 ∧ k < 7) ∨ (P = 18 ∧ k < 18) → s'.2.1 P k = s5.2.1 P k) ∧ (∀ P k, P < 14 → s'.2.1 P k = s7.2.1 P k) := by
  have q7 : pm_cpo 0 0 7 7 7 = true := by decide
  have q18 : pm_cpo 0 0 (Int32.ofNat 18) 18 18 = true := by decide
  have c18 : (Int32.ofNat 18).toNatClampNeg = 18 := by decide
  unfold f_X0_copyFrom fc_X0_copyFrom_c1 fc_X0_copyFrom_c2 fc_X0_copyFrom_c3 fc_X0_copyFrom_c4
  simp only [q7, q18, tc_0, tc_7, c18]
  refine ⟨_, rfl, rfl, rfl, fun P k h => ?_, fun P k h => ?_⟩
  · simp only [cc_2, vc0]
    rcases h with ⟨h1, h2, h⟩ | ⟨rfl, h⟩
    · rcases (show P = 14 ∨ P = 15 ∨ P = 16 ∨ P = 17 by omega) with rfl | rfl | rfl | rfl <;> simp [h]
    · simp [h]
  · simp only [cc_2]
    rw [if_neg (by omega), if_neg (by omega), if_neg (by omega), if_neg (by omega), if_neg (by omega)]
theorem cp_X5 (s5 s7 : cs_S) {m : Nat} (hm : m ≤ 400) (h19 : s5.1 19 0 = nI m) : ∃ s', f_X5_copyFrom s5 s7 = some s' ∧ s'.1 = (cs_i s7 19 0 (nI m)).1 ∧ s'.2.2 = s7.2.2 ∧ (∀ P k, (20 ≤ P ∧ P ≤ 26 ∧ k < m) ∨ (27 ≤ P ∧ P ≤ 30 ∧ k < 6) → s'.2.1 P k = s5.2.1 P k) ∧ (∀ P k, P < 20 → s'.2.1 P k = s7.2.1 P k) := by
  have qm : pm_cpo 0 0 (nI m) 400 400 = true := cpo_n hm (by decide)
  have q6 : pm_cpo 0 0 6 6 6 = true := by decide
  have cl : (nI m).toNatClampNeg = m := nI_clamp (by omega)
  have i19 : (cs_i s7 19 0 (nI m)).1 19 0 = nI m := by rw [ci_1, if_pos ⟨rfl, rfl⟩]
  unfold f_X5_copyFrom fc_X5_copyFrom_c1 fc_X5_copyFrom_c2 fc_X5_copyFrom_c3 fc_X5_copyFrom_c4 fc_X5_copyFrom_c5 fc_X5_copyFrom_c6 fc_X5_copyFrom_c7 fc_X5_copyFrom_c8 fc_X5_copyFrom_c9 fc_X5_copyFrom_c10 fc_X5_copyFrom_c11
  simp only [h19, cc_1, i19, qm, q6, tc_0, tc_6, cl]
  refine ⟨_, rfl, rfl, rfl, fun P k h => ?_, fun P k h => ?_⟩
  · simp only [cc_2, vc0]
    rcases h with ⟨h1, h2, h⟩ | ⟨h1, h2, h⟩
    · rcases (show P = 20 ∨ P = 21 ∨ P = 22 ∨ P = 23 ∨ P = 24 ∨ P = 25 ∨ P = 26 by omega) with rfl | rfl | rfl | rfl | rfl | rfl | rfl <;> simp [h]
    · rcases (show P = 27 ∨ P = 28 ∨ P = 29 ∨ P = 30 by omega) with rfl | rfl | rfl | rfl <;> simp [h]
  · simp only [cc_2]
    rw [if_neg (by omega), if_neg (by omega), if_neg (by omega), if_neg (by omega), if_neg (by omega), if_neg (by omega), if_neg (by omega), if_neg (by omega), if_neg (by omega), if_neg (by omega), if_neg (by omega)]
    rfl
theorem cp_X4 (s5 s7 : cs_S) : ∃ s', f_X4_copyFrom s5 s7 = some s' ∧ s'.2.2 = s7.2.2 ∧ (∀ k, k = 0 ∨ (3 ≤ k ∧ k ≤ 10) → s'.1 31 k = s5.1 31 k) ∧ (∀ P k, P ≠ 31 → s'.1 P k = s7.1 P k) ∧ (∀ P k, (P = 32 ∨ P = 33) ∧ k < 64 → s'.2.1 P k = s5.2.1 P k) ∧ (∀ P k, P < 32 → s'.2.1 P k = s7.2.1 P k) := by
  have q : pm_cpo 0 0 64 64 64 = true := by decide
  have c64 : Int32.toNatClampNeg 64 = 64 := by decide
  unfold f_X4_copyFrom fc_X4_copyFrom_c1 fc_X4_copyFrom_c2 fc_X4_copyFrom_c3 fc_X4_copyFrom_c4 fc_X4_copyFrom_c5 fc_X4_copyFrom_c6 fc_X4_copyFrom_c7 fc_X4_copyFrom_c8 fc_X4_copyFrom_c9 fc_X4_copyFrom_c10
  simp only [q, tc_0, c64]
  have ci2 : ∀ (s : cs_S) (p k : Nat) (v : Int32), (cs_i s p k v).2 = s.2 := fun _ _ _ _ => rfl
  refine ⟨_, rfl, rfl, fun k h => ?_, fun P k h => ?_, fun P k h => ?_, fun P k h => ?_⟩
  · simp only [ci_1, cc_1]
    rcases (show k = 0 ∨ k = 3 ∨ k = 4 ∨ k = 5 ∨ k = 6 ∨ k = 7 ∨ k = 8 ∨ k = 9 ∨ k = 10 by omega) with rfl | rfl | rfl | rfl | rfl | rfl | rfl | rfl | rfl <;> simp
  · simp only [ci_1, cc_1, h, false_and, if_false]
  · simp only [ci2, cc_2, vc0]
    rcases h with ⟨rfl | rfl, h⟩ <;> simp [h]
  · simp only [ci2, cc_2]
    rw [if_neg (by omega), if_neg (by omega)]
/-- the copy is at the same state of the model -/
theorem ab_copy {D S T m n N : Nat} {A : ab_S} {L : Nat → Bool} {s5 : cs_S} (s7 : cs_S) (hB : ab_B D S T m n N A L) (H : ab_C S A s5) : ∃ s', f_X1_copyFrom s5 s7 = some s' ∧ ab_C S A s' := by
  have hm := hB.2.2.2.2.2.1.1
  have mm := hB.2.2.2.2.2.1.2.1
  have h19 : s5.1 19 0 = nI m := H.1.2.2.1.trans mm
  obtain ⟨s1, a1, a2, a3, a4⟩ := cp_X3 s5 (cs_i (cs_i (cs_i s7 0 2 (s5.1 0 2)) 0 3 (s5.1 0 3)) 0 4 (s5.1 0 4)) hm
  obtain ⟨s2, b1, b2, b3, b4, b5⟩ := cp_X0 s5 s1
  obtain ⟨s3, c1, c2, c3, c4, c5⟩ := cp_X5 s5 s2 hm h19
  obtain ⟨s', d1, d2, d3, d4, d5, d6⟩ := cp_X4 s5 s3
  refine ⟨s', ?_, ?_⟩
  · unfold f_X1_copyFrom fc_X1_copyFrom_c1 fc_X1_copyFrom_c2
    rw [h19]
    simp only [a1, b1, c1, d1]
  have ar : ∀ P k, P < 32 → s'.2.1 P k = s3.2.1 P k := d6
  have aq : ∀ P k, ((P = 2 ∨ P = 3 ∨ P = 4) ∧ k < 42) ∨ ((P = 11 ∨ P = 12) ∧ k < 7 * (64 + m)) → s'.2.1 P k = s5.2.1 P k := fun P k h => by
    rw [d6 P k (by omega), c5 P k (by omega), b5 P k (by omega)]
    exact a3 P k h
  have al : ∀ P k, ((P = 5 ∨ P = 6 ∨ P = 7) ∧ k < 42) ∨ ((P = 8 ∨ P = 9 ∨ P = 10) ∧ k < 7 * (64 + m)) → s'.2.2 P k = s5.2.2 P k := fun P k h => by
    rw [d2, c3, b3]
    exact a4 P k h
  have ad : ∀ P k, (14 ≤ P ∧ P ≤ 17 ∧ k < 7) ∨ (P = 18 ∧ k < 18) → s'.2.1 P k = s5.2.1 P k := fun P k h => by
    rw [d6 P k (by omega), c5 P k (by omega)]
    exact b4 P k h
  have ac : ∀ P k, (20 ≤ P ∧ P ≤ 26 ∧ k < m) ∨ (27 ≤ P ∧ P ≤ 30 ∧ k < 6) → s'.2.1 P k = s5.2.1 P k := fun P k h => by
    rw [d6 P k (by omega)]
    exact c4 P k h
  have i0 : ∀ k, k = 2 ∨ k = 3 ∨ k = 4 → s'.1 0 k = s5.1 0 k := fun k h => by
    rw [d4 0 k (by decide), c2, ci_1, if_neg (by omega), b2, a2, ci_1, ci_1, ci_1]
    rcases h with rfl | rfl | rfl <;> simp
  have i19 : s'.1 19 0 = s5.1 19 0 := by rw [d4 19 0 (by decide), c2, ci_1, if_pos ⟨rfl, rfl⟩, h19]
  obtain ⟨H1, H2, H3, H4, H5, H6, H7⟩ := H
  have opl : ∀ q a, q < 42 → a ∈ A.2.1 q → a.1 < 7 * (64 + m) := fun q a hq ha => by
    have := hB.2.2.2.2.1 a.1 ((hB.2.1 a.1).mpr (.inl ⟨q, hq, a, ha, rfl⟩))
    omega
  refine ⟨?_, ?_, fun q hq => ?_, fun d hd => ?_, fun t ht => ?_, fun r hr hr' => ?_, fun k hk => ?_⟩
  · rw [i0 4 (by omega), d3 0 (by omega), i19, i0 2 (by omega), i0 3 (by omega), d3 7 (by omega), d3 8 (by omega), d3 6 (by omega), d3 10 (by omega), d3 9 (by omega)]
    exact H1
  · rw [d3 3 (by omega), d3 4 (by omega), d3 5 (by omega)]
    exact H2
  · obtain ⟨h1, h2, h3, h4, h5, h6, h7⟩ := H3 q hq
    unfold ab_Cq
    rw [aq 4 q (by omega), aq 2 q (by omega), aq 3 q (by omega), al 5 q (by omega), al 6 q (by omega), al 7 q (by omega)]
    refine ⟨h1, h2, ab_ch_eq _ h3 (fun a ha => aq 12 a.1 (.inr ⟨.inr rfl, opl q a hq ha⟩)), fun a ha => ?_, h5, h6, h7⟩
    have o := opl q a hq ha
    rw [aq 11 a.1 (by omega), al 8 a.1 (by omega), al 9 a.1 (by omega), al 10 a.1 (by omega)]
    exact h4 a ha
  · exact ab_Cd_fr rfl (fun _ => rfl) (fun P h => ad P d (by omega)) (H4 d hd)
  · have K := H5 t ht
    unfold ab_Ct at K ⊢
    rw [ac 27 t (by omega), ac 28 t (by omega), ac 29 t (by omega), ac 30 t (by omega), ad 18 _ (by omega), ad 18 _ (by omega), ad 18 _ (by omega)]
    exact K
  · have rm : r < m := by
      rw [mm] at hr'
      exact (nI_ltI (by omega) (by omega)).mp hr'
    exact ab_Cr_fr (fun _ => rfl) (fun P h1 h2 => ac P r (by omega)) (H6 r hr hr')
  · exact ab_Ch_fr rfl (fun _ => rfl) (fun P h => d5 P k ⟨h, hk⟩) (H7 k hk)
