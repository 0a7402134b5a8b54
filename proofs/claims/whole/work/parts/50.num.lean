/-! Numbers (wip/whole/pure0.py). -/
theorem nb_0_6 : pm_inb 0 6 = true := by decide
theorem nb_0_26 : pm_inb 0 26 = true := by decide
theorem nb_0_18186 : pm_inb 0 18186 = true := by decide
theorem nb_1_26 : pm_inb 1 26 = true := by decide
theorem nb_1_18186 : pm_inb 1 18186 = true := by decide
theorem nb_2_26 : pm_inb 2 26 = true := by decide
theorem nb_2_18186 : pm_inb 2 18186 = true := by decide
theorem nb_3_26 : pm_inb 3 26 = true := by decide
theorem nb_3_18186 : pm_inb 3 18186 = true := by decide
theorem nb_4_26 : pm_inb 4 26 = true := by decide
theorem nb_4_18186 : pm_inb 4 18186 = true := by decide
theorem nb_5_26 : pm_inb 5 26 = true := by decide
theorem nb_5_18186 : pm_inb 5 18186 = true := by decide
theorem nb_6_26 : pm_inb 6 26 = true := by decide
theorem nb_6_18186 : pm_inb 6 18186 = true := by decide
theorem nb_7_26 : pm_inb 7 26 = true := by decide
theorem nb_7_18186 : pm_inb 7 18186 = true := by decide
theorem nb_8_18186 : pm_inb 8 18186 = true := by decide
theorem nb_9_18186 : pm_inb 9 18186 = true := by decide
theorem nb_10_18186 : pm_inb 10 18186 = true := by decide
theorem tc_0 : Int32.toNatClampNeg 0 = 0 := by decide
theorem tc_1 : Int32.toNatClampNeg 1 = 1 := by decide
theorem tc_2 : Int32.toNatClampNeg 2 = 2 := by decide
theorem tc_3 : Int32.toNatClampNeg 3 = 3 := by decide
theorem tc_4 : Int32.toNatClampNeg 4 = 4 := by decide
theorem tc_5 : Int32.toNatClampNeg 5 = 5 := by decide
theorem tc_6 : Int32.toNatClampNeg 6 = 6 := by decide
theorem tc_7 : Int32.toNatClampNeg 7 = 7 := by decide
theorem tc_8 : Int32.toNatClampNeg 8 = 8 := by decide
theorem tc_9 : Int32.toNatClampNeg 9 = 9 := by decide
theorem tc_10 : Int32.toNatClampNeg 10 = 10 := by decide
theorem tc_42 : Int32.toNatClampNeg 42 = 42 := by decide
theorem nI_mul (a b : Nat) : nI a * nI b = nI (a * b) := (Int32.ofNat_mul a b).symm
theorem nb_nI {k n : Nat} (h : k < n) (hn : n < 2 ^ 31) : pm_inb (nI k) n = true := by
  unfold pm_inb
  rw [nI_clamp (by omega)]
  simp only [Bool.and_eq_true, decide_eq_true_eq]
  exact ⟨nI_pos' (by omega), h⟩
theorem mo_i_1 (s : mo_S) (k k' : Nat) (v : Int32) : (mo_i s k v).1 k' = if k' = k then v else s.1 k' := rfl
theorem mo_i_2 (s : mo_S) (k : Nat) (v : Int32) : (mo_i s k v).2 = s.2 := rfl
