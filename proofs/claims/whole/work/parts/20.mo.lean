/-! The reference's object as cells; helpers of the printed rows. -/
abbrev mo_S : Type := (Nat → Int32) × Int64 × (Nat → Nat → Int32) × (Nat → Nat → Int64)
def mo_i (s : mo_S) (k : Nat) (v : Int32) : mo_S := (upd s.1 k v, s.2)
def mo_w (s : mo_S) (v : Int64) : mo_S := (s.1, v, s.2.2)
def mo_a (s : mo_S) (k : Nat) (i v : Int32) : mo_S := (s.1, s.2.1, va_up s.2.2.1 k (upd (s.2.2.1 k) i.toNatClampNeg v), s.2.2.2)
def mo_l (s : mo_S) (k : Nat) (i : Int32) (v : Int64) : mo_S := (s.1, s.2.1, s.2.2.1, va_up s.2.2.2 k (vp_updL (s.2.2.2 k) i.toNatClampNeg v))
def mo_c (s : mo_S) : List pm_E := [.inr (9, [.ref 65, .ref 66, .int (s.1 2), .ref 67, .ref 68, .ref 69, .ref 70, .ref 71, .int (s.1 8), .int (s.1 9), .int (s.1 10), .int (s.1 11), .int (s.1 12), .int (s.1 13), .int (s.1 14), .int (s.1 15), .long s.2.1, .ref 72, .ref 73, .int (s.1 19), .int (s.1 20)]), .inl (0, 26, .inl (s.2.2.1 0)), .inl (0, 26, .inl (s.2.2.1 1)), .inl (0, 18186, .inl (s.2.2.1 3)), .inl (0, 18186, .inl (s.2.2.1 4)), .inl (1, 6726, .inr (.inl (s.2.2.2 5))), .inl (1, 6726, .inr (.inl (s.2.2.2 6))), .inl (0, 800, .inl (s.2.2.1 7)), .inl (0, 500, .inl (s.2.2.1 17)), .inl (0, 500, .inl (s.2.2.1 18))]
def mo_h (gx : List pm_E) (s : mo_S) (gs : List (List pm_E)) (q : Nat × Nat × Nat) : pm_H := (gx :: mo_c s :: gs, q)
def pm_inb (i : Int32) (n : Nat) : Bool := decide (0 ≤ i) && decide (i.toNatClampNeg < n)
theorem pm_inb_vp {i : Int32} {n : Nat} (h : pm_inb i n = true) : vp_in i n := by
  unfold pm_inb at h
  simp only [Bool.and_eq_true, decide_eq_true_eq] at h
  intro q
  rcases q with q | q
  · exact absurd h.1 (Int32.not_le.mpr q)
  · omega
theorem pm_dec {m pc : Nat} {tb : List pm_I} {I : Instr} {r r2 : Nat} (htb : ∀ e ∈ tb, pm_ck m e = true) (h : pm_ft tb pc = some (I, r, r2)) : decode (pm_cd m) pc = .ok (I, pm_ln I r2) := by
  have h1 := htb _ (pm_ft_mem h)
  unfold pm_ck at h1
  simp only [Bool.and_eq_true, decide_eq_true_eq] at h1
  exact h1.1
theorem pm_nb1 {v : Int32} (h : v &&& 1 = v) : narrow .boolean (.int v) = .int v := by
  show Value.int (v &&& 1) = .int v
  rw [h]
