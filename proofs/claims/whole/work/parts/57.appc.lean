/-! A queue's end: append, the program's class. -/
theorem ca_2 {s : cs_S} {p i : Nat} {v : Int32} (h : i < 2 ^ 31) (p' k : Nat) : (cs_a s p (nI i) v).2.1 p' k = if p' = p ∧ k = i then v else s.2.1 p' k := by
  rw [cs_a_2, nI_clamp h]
theorem cs_l_3 (s : cs_S) (p p' : Nat) (i : Int32) (v : Int64) (k : Nat) : (cs_l s p i v).2.2 p' k = if p' = p ∧ k = i.toNatClampNeg then v else s.2.2 p' k := by
  unfold cs_l va_up vp_updL
  by_cases h : p' = p
  · subst h; simp
  · simp [h]
theorem cl_3 {s : cs_S} {p i : Nat} {v : Int64} (h : i < 2 ^ 31) (p' k : Nat) : (cs_l s p (nI i) v).2.2 p' k = if p' = p ∧ k = i then v else s.2.2 p' k := by
  rw [cs_l_3, nI_clamp h]
theorem cs_l_1 (s : cs_S) (p : Nat) (i : Int32) (v : Int64) : (cs_l s p i v).1 = s.1 := rfl
theorem cs_l_2 (s : cs_S) (p : Nat) (i : Int32) (v : Int64) : (cs_l s p i v).2.1 = s.2.1 := rfl
/-- what append writes into the int arrays -/
def ap_ints (s s' : cs_S) (q c L e : Nat) (due : Int32) : Prop := s'.1 = s.1 ∧ s'.2.2 = s.2.2 ∧ ∀ p k, s'.2.1 p k =
  if p = 4 ∧ k = q then nI (L + 1) else if p = 3 ∧ k = q then nI c else if p = 2 ∧ k = q ∧ L = 0 then nI c else if p = 12 ∧ k = e ∧ L ≠ 0 then nI c else if p = 12 ∧ k = c then -1 else if p = 11 ∧ k = c then due else s.2.1 p k
theorem ap_c3 {s4 s : cs_S} {q c L e : Nat} {due l3 l5 l6 : Int32} {l7 : Int64} (hq : q < 42) (hc : c < 3248) (hL : s.2.1 4 q = nI L) (hL' : L < 3248) (he : L ≠ 0 → s.2.1 3 q = nI e ∧ e < 3248) : ∃ s', fc_X3_append_c3 s4 s (nI q) (nI c) l3 l5 l6 l7 due (nI c) = some s' ∧ ap_ints s s' q c L e due := by
  by_cases h0 : L = 0
  · refine ⟨cs_a (cs_a (cs_a (cs_a (cs_a s 11 (nI c) due) 12 (nI c) (-1)) 2 (nI q) (nI c)) 3 (nI q) (nI c)) 4 (nI q) (nI (L + 1)), ?_, rfl, rfl, ?_⟩
    · subst h0
      simp (disch := omega) [fc_X3_append_c3, fc_X3_append_c4, fc_X3_append_c5, fc_X3_append_c6, fc_X3_append_c7, nb_nI, nI_clamp, ca_2, hL, nI_0]
      rfl
    · intro p k
      simp (disch := omega) only [ca_2]
      repeat' split
      all_goals first | rfl | omega
  · obtain ⟨he1, he2⟩ := he h0
    refine ⟨cs_a (cs_a (cs_a (cs_a (cs_a s 11 (nI c) due) 12 (nI c) (-1)) 12 (nI e) (nI c)) 3 (nI q) (nI c)) 4 (nI q) (nI (L + 1)), ?_, rfl, rfl, ?_⟩
    · have hn : ¬ nI L = 0 := nI_ne0 (by omega) (by omega)
      simp (disch := omega) [fc_X3_append_c3, fc_X3_append_c4, fc_X3_append_c8, fc_X3_append_c6, fc_X3_append_c7, nb_nI, nI_clamp, ca_2, hL, he1, hn, nI_1]
    · intro p k
      simp (disch := omega) only [ca_2]
      repeat' split
      all_goals first | rfl | omega
