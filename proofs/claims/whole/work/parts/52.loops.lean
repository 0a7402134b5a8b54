/-! Loops, the text's bytes, the reference's beginning; the rest of what is answered with nothing loaded. -/
/-- a loop with a measure -/
theorem lp_wh {X E : Type} {B : X → Option (X ⊕ E)} {Q : E → Prop} (I : Nat → X → Prop) (step : ∀ m x, I m x → (∃ x' m', B x = some (.inl x') ∧ m' < m ∧ I m' x') ∨ (∃ e, B x = some (.inr e) ∧ Q e)) : ∀ (fu m : Nat) (x : X), m < fu → I m x → ∃ e, pm_loop fu B x = some e ∧ Q e := by
  intro fu
  induction fu with
  | zero => intro m x h; omega
  | succ fu ih =>
    intro m x h hI
    rcases step m x hI with ⟨x', m', h1, h2, h3⟩ | ⟨e, h1, h2⟩
    · obtain ⟨e, h4, h5⟩ := ih m' x' (by omega) h3
      exact ⟨e, by unfold pm_loop; rw [h1]; exact h4, h5⟩
    · exact ⟨e, by unfold pm_loop; rw [h1]; rfl, h2⟩
/-- a loop that counts from 0 to n -/
theorem lp_for {X E : Type} {B : X → Option (X ⊕ E)} {Q : E → Prop} (n : Nat) (I : Nat → X → Prop) (hn : n < pm_fu) (step : ∀ i x, i < n → I i x → ∃ x', B x = some (.inl x') ∧ I (i + 1) x') (fin : ∀ x, I n x → ∃ e, B x = some (.inr e) ∧ Q e) {x : X} (h0 : I 0 x) : ∃ e, pm_loop pm_fu B x = some e ∧ Q e := by
  refine lp_wh (fun m x => ∃ i, i + m = n ∧ I i x) ?_ pm_fu n x hn ⟨0, by omega, h0⟩
  intro m x ⟨i, hi, hI⟩
  by_cases h : i < n
  · obtain ⟨x', h1, h2⟩ := step i x h hI
    exact .inl ⟨x', m - 1, h1, by omega, i + 1, by omega, h2⟩
  · have : i = n := by omega
    subst this
    exact .inr (fin x hI)
theorem mo_a_3 (s : mo_S) (p p' : Nat) (i v : Int32) (k : Nat) : (mo_a s p i v).2.2.1 p' k = if p' = p ∧ k = i.toNatClampNeg then v else s.2.2.1 p' k := by
  unfold mo_a va_up upd
  by_cases h : p' = p
  · subst h; simp
  · simp [h]
theorem mo_a_1 (s : mo_S) (p : Nat) (i v : Int32) : (mo_a s p i v).1 = s.1 := rfl
theorem mo_a_2 (s : mo_S) (p : Nat) (i v : Int32) : (mo_a s p i v).2.1 = s.2.1 := rfl
theorem mo_a_4 (s : mo_S) (p : Nat) (i v : Int32) : (mo_a s p i v).2.2.2 = s.2.2.2 := rfl
theorem cs_a_2 (s : cs_S) (p p' : Nat) (i v : Int32) (k : Nat) : (cs_a s p i v).2.1 p' k = if p' = p ∧ k = i.toNatClampNeg then v else s.2.1 p' k := by
  unfold cs_a va_up upd
  by_cases h : p' = p
  · subst h; simp
  · simp [h]
theorem cs_a_1 (s : cs_S) (p : Nat) (i v : Int32) : (cs_a s p i v).1 = s.1 := rfl
theorem cs_a_3 (s : cs_S) (p : Nat) (i v : Int32) : (cs_a s p i v).2.2 = s.2.2 := rfl
theorem cs_i_1 (s : cs_S) (p p' k k' : Nat) (v : Int32) : (cs_i s p k v).1 p' k' = if p' = p ∧ k' = k then v else s.1 p' k' := by
  unfold cs_i va_up upd
  by_cases h : p' = p
  · subst h; simp
  · simp [h]
theorem cs_i_2 (s : cs_S) (p k : Nat) (v : Int32) : (cs_i s p k v).2 = s.2 := rfl
theorem p_3_N {IE : t_IE} : ps_3_N_A iv_N IE := fun j s0 sR hj hI => ⟨_, _, rfl, by rw [hI.1.2.1]; rfl, iv_N_i hI⟩
theorem p_4_N {IE : t_IE} : ps_4_N_A iv_N IE := fun j s0 sR hj hI => ⟨_, _, rfl, by rw [hI.1.2.2]; rfl, iv_N_i hI⟩
theorem p_44_N {IE : t_IE} : ps_44_N_N iv_N IE := by
  intro j s0 sR hj hI
  obtain ⟨n0, n1, n2, n3, n4, n5, n6, n7, n9, n10⟩ := hI.2.2.1
  refine ⟨-1, _, rfl, ?_, iv_N_i hI (v := 0)⟩
  simp [f_X9_forecast, mo_i_2, n1, n7, nb_1_18186, nb_7_18186, tc_1, tc_7]
theorem f_isArray_N {s : mo_S} {v : Int32} (h : rf_N s) : f_X9_isArray (mo_i s 2 v) = some 0 := by
  have q0 : (mo_i s 2 v).2.2.1 0 0 = 0 := h.1 0 (by decide)
  simp [f_X9_isArray, q0, nb_0_26, tc_0]
theorem p_14_N {IE : t_IE} : ps_14_N_N iv_N IE := by
  intro j s0 sR a1 hj hI
  obtain ⟨n0, n1, n2, n3, n4, n5, n6, n7, n9, n10⟩ := hI.2.2.1
  have n0' : (mo_i sR 2 0).2.2.1 3 0 = 0 := n0
  by_cases h1 : a1 < 1
  · refine .inr ⟨0, _, ?_, ?_, ?_, iv_N_ii hI (v := 0) (w := 1)⟩
    · simp [f_X8_advance_N, h1]
    · simp [f_X9_advance, f_X9_in, f_X9_refuse, h1]
    · rfl
  by_cases h2 : 2000 < a1
  · refine .inr ⟨0, _, ?_, ?_, ?_, iv_N_ii hI (v := 0) (w := 1)⟩
    · simp [f_X8_advance_N, h1, h2]
    · simp [f_X9_advance, f_X9_in, f_X9_refuse, h1, h2]
    · rfl
  have h3 : a1 ≤ 99999 := Int32.le_trans (Int32.not_lt.mp h2) (by decide)
  refine .inl ⟨0, _, ?_, ?_, ?_, iv_N_ii hI (v := 0) (w := 2)⟩
  · simp [f_X8_advance_N, f_X8_now_N, h1, h2, h3]
  · simp [f_X9_advance, f_X9_in, f_X9_refuse, h1, h2, h3, nb_0_18186, tc_0, n0', f_isArray_N hI.2]
  · rfl
theorem i32_le0 (a : Int32) : a ≤ 0 ↔ a < 1 := by
  rw [Int32.le_iff_toInt_le, Int32.lt_iff_toInt_lt, show (0 : Int32).toInt = 0 from rfl, show (1 : Int32).toInt = 1 from rfl]
  omega
theorem p_15_N {IE : t_IE} : ps_15_N_N iv_N IE := by
  intro j s0 sR a1 hj hI
  obtain ⟨n0, n1, n2, n3, n4, n5, n6, n7, n9, n10⟩ := hI.2.2.1
  have n0' : (mo_i sR 2 0).2.2.1 3 0 = 0 := n0
  by_cases h0 : a1 = -1
  · refine .inl ⟨0, _, ?_, ?_, ?_, iv_N_ii hI (v := 0) (w := 2)⟩
    · simp [f_X8_promise_N, h0]
    · simp [f_X9_promise, f_X9_refuse, h0, f_isArray_N hI.2]
    · rfl
  by_cases h1 : a1 ≤ 0
  · have h1' := (i32_le0 a1).mp h1
    refine .inr ⟨0, _, ?_, ?_, ?_, iv_N_ii hI (v := 0) (w := 1)⟩
    · simp [f_X8_promise_N, f_X8_now_N, h0, h1]
    · simp [f_X9_promise, f_X9_in, f_X9_refuse, h0, h1', nb_0_18186, tc_0, n0']
    · rfl
  have h1' : ¬ a1 < 1 := fun h => h1 ((i32_le0 a1).mpr h)
  by_cases h2 : a1 ≤ 99999
  · have h2' : ¬ 99999 < a1 := Int32.not_lt.mpr h2
    refine .inl ⟨0, _, ?_, ?_, ?_, iv_N_ii hI (v := 0) (w := 2)⟩
    · simp [f_X8_promise_N, f_X8_now_N, h0, h1, h2]
    · simp [f_X9_promise, f_X9_in, f_X9_refuse, h0, h1', h2', nb_0_18186, tc_0, n0', f_isArray_N hI.2]
    · rfl
  · have h2' : 99999 < a1 := Int32.not_le.mp h2
    refine .inr ⟨0, _, ?_, ?_, ?_, iv_N_ii hI (v := 0) (w := 1)⟩
    · simp [f_X8_promise_N, f_X8_now_N, h0, h1, h2]
    · simp [f_X9_promise, f_X9_in, f_X9_refuse, h0, h1', h2', nb_0_18186, tc_0, n0']
    · rfl
