/-! The bits of the held units. -/
theorem hb_holds_f : ∀ n : Fin 64, ∀ d : Fin 6, decide (((Int32.toUInt32 (nI n.val) >>> (Int32.toUInt32 (nI d.val) &&& Int32.toUInt32 31)).toInt32 &&& 1) = 0) = !(n.val.testBit d.val) := by decide +kernel
theorem hb_hold_f : ∀ n : Fin 64, ∀ d : Fin 6, nI n.val ||| (1 <<< (nI d.val &&& 31)) = nI (n.val ||| 2 ^ d.val) ∧ n.val ||| 2 ^ d.val < 64 ∧ ∀ e : Fin 6, (n.val ||| 2 ^ d.val).testBit e.val = (n.val.testBit e.val || decide (e.val = d.val)) := by decide +kernel
theorem hb_forget_f : ∀ n : Fin 64, ∀ d : Fin 6, nI n.val &&& ((1 <<< (nI d.val &&& 31)) ^^^ (-1)) = nI (n.val &&& (63 - 2 ^ d.val)) ∧ n.val &&& (63 - 2 ^ d.val) < 64 ∧ ∀ e : Fin 6, (n.val &&& (63 - 2 ^ d.val)).testBit e.val = (n.val.testBit e.val && !decide (e.val = d.val)) := by decide +kernel
theorem hb_count_f : ∀ n : Fin 64, f_J6_bitCount_0f7a4 (nI n.val) = some (nI (ab_cnt (fun d => n.val.testBit d) 6)) := by decide +kernel
theorem hb_zero : ∀ e : Fin 6, (0 : Nat).testBit e.val = false := by decide
