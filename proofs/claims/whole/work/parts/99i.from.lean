/-! From which tick on a first operation can be chosen: the program's class. -/
theorem i64_xor_neg {a : Int64} (h : a ^^^ 1000 < 0) : a < 0 := by
  rw [Int64.lt_iff_toInt_lt] at h ⊢
  have z : (0 : Int64).toInt = 0 := rfl
  rw [z] at h ⊢
  have e1 : (a ^^^ 1000).toBitVec.msb = decide ((a ^^^ 1000).toBitVec.toInt < 0) := BitVec.msb_eq_toInt
  have e2 : a.toBitVec.msb = decide (a.toBitVec.toInt < 0) := BitVec.msb_eq_toInt
  have e3 : (a ^^^ 1000).toBitVec = a.toBitVec ^^^ (1000 : Int64).toBitVec := Int64.toBitVec_xor a 1000
  have e4 : (1000 : Int64).toBitVec.msb = false := by decide
  rw [e3, BitVec.msb_xor, e4, Bool.xor_false, e2, ← e3] at e1
  have h' : (a ^^^ 1000).toBitVec.toInt < 0 := h
  rw [decide_eq_true h'] at e1
  exact of_decide_eq_true e1
theorem ab_up {N : Nat} (hN : N ≤ 1000000000000) {x : Int64} (h : ab_bd N x) : ∃ y, f_X3_roundedUp x = some y ∧ ∀ t : Int, t < y.toInt → 1000 * t < x.toInt := by
  unfold ab_bd at h
  have na : (-x).toInt = -x.toInt := by
    rw [Int64.toInt_neg]
    exact Int.bmod_eq_of_le (by omega) (by omega)
  generalize hA : -x = a at *
  have td : a.toInt.tdiv 1000 = if 0 ≤ a.toInt then a.toInt / 1000 else -((-a.toInt) / 1000) := by
    split
    · exact Int.tdiv_eq_ediv_of_nonneg (by omega)
    · have e : a.toInt = -(-a.toInt) := by omega
      rw [e, Int.neg_tdiv, Int.tdiv_eq_ediv_of_nonneg (by omega)]
      omega
  have q0 : (a / 1000).toInt = if 0 ≤ a.toInt then a.toInt / 1000 else -((-a.toInt) / 1000) := by
    rw [Int64.toInt_div, show (1000 : Int64).toInt = 1000 from rfl, td]
    refine Int.bmod_eq_of_le ?_ ?_ <;> split <;> omega
  have bq : -1200000000000000 ≤ (a / 1000).toInt ∧ (a / 1000).toInt ≤ 1200000000000000 := by
    rw [q0]
    split <;> omega
  have tq : a.toInt < 1000 * ((a / 1000).toInt + 1) := by
    rw [q0]
    split <;> omega
  have nz : ¬ (1000 : Int64) = 0 := by decide
  have neg : ∀ q : Int64, -1300000000000000 ≤ q.toInt → q.toInt ≤ 1300000000000000 → (-q).toInt = -q.toInt := fun q h1 h2 => by
    rw [Int64.toInt_neg]
    exact Int.bmod_eq_of_le (by omega) (by omega)
  unfold f_X3_roundedUp f_J9_floorDiv_f86c9
  simp only [hA, if_neg nz, lgc_ge, lgc_eq]
  by_cases u : ¬ (a ^^^ 1000) < 0
  · simp only [if_pos u]
    refine ⟨_, rfl, fun t ht => ?_⟩
    rw [neg _ (by omega) (by omega)] at ht
    omega
  · simp only [if_neg u]
    have an := i64_xor_neg (Classical.not_not.mp u)
    rw [Int64.lt_iff_toInt_lt, show (0 : Int64).toInt = 0 from rfl] at an
    by_cases v : a / 1000 * 1000 = a
    · simp only [if_pos v]
      refine ⟨_, rfl, fun t ht => ?_⟩
      rw [neg _ (by omega) (by omega)] at ht
      omega
    · simp only [if_neg v]
      have e1 : (a / 1000 - 1).toInt = (a / 1000).toInt - 1 := by
        rw [Int64.toInt_sub, show (1 : Int64).toInt = 1 from rfl]
        exact Int.bmod_eq_of_le (by omega) (by omega)
      have e2 : (a / 1000 * 1000).toInt = (a / 1000).toInt * 1000 := by
        rw [Int64.toInt_mul, show (1000 : Int64).toInt = 1000 from rfl]
        exact Int.bmod_eq_of_le (by omega) (by omega)
      have ne : (a / 1000).toInt * 1000 ≠ a.toInt := fun h => v (Int64.toInt_inj.mp (by rw [e2]; exact h))
      have ge : a.toInt ≤ 1000 * (a / 1000).toInt := by
        rw [q0]
        split <;> omega
      refine ⟨_, rfl, fun t ht => ?_⟩
      rw [neg _ (by omega) (by omega), e1] at ht
      omega
theorem i64_min (a b : Int64) : (if a < b then a else b).toInt = if a.toInt < b.toInt then a.toInt else b.toInt := by
  by_cases h : a < b
  · rw [if_pos h, if_pos (Int64.lt_iff_toInt_lt.mp h)]
  · rw [if_neg h, if_neg (fun k => h (Int64.lt_iff_toInt_lt.mpr k))]
/-- before the tick r the operation a takes no part in any way -/
def ab_nb (p : Nat → Int32) (a : ab_O) (r : Int) : Prop := ∀ t : Nat, t ≤ 100000 → (t : Int) < r → ∀ w, w < 3 → ab_rk p (nI t) w a = none
theorem ab_cf_C {D S T N q : Nat} {p : Nat → Int32} {A : ab_S} {s : cs_S} {a : ab_O} (hp : ab_pl p D S T) (hq : q < 42) (ha : a ∈ A.2.1 q) (hc : a.1 < 3248) (hN : N ≤ 1000000000000) (HT : ab_tb A N) (H : ab_Cq A s q) : ∃ r, f_X3_choosableFrom s (nI a.1) (p 7) = some r ∧ ab_nb p a r.toInt := by
  obtain ⟨g1, g2, g3, g4⟩ := H.2.2.2.1 a ha
  obtain ⟨sl, sl1, sl2⟩ := hp.2.2.2.2.2.2.2.2.2.2.2.2.2.1
  have T1 := (HT q hq).1 a ha
  obtain ⟨yl, u1, u2⟩ := ab_up hN T1.2.2
  have dlv : (a.2.1.toInt64 - (p 7).toInt64).toInt = a.2.1.toInt - sl := by
    rw [Int64.toInt_sub, Int32.toInt_toInt64, Int32.toInt_toInt64, sl2, nI_toInt (by omega)]
    have b1 := Int32.toInt_lt a.2.1
    have b2 := Int32.le_toInt a.2.1
    exact Int.bmod_eq_of_le (by omega) (by omega)
  have way0 : ∀ t : Nat, t ≤ 100000 → (a.2.1 = -1 ∨ (t : Int) < a.2.1.toInt - sl) → ab_rk p (nI t) 0 a = none := by
    intro t ht h
    unfold ab_rk
    rw [if_pos rfl]
    by_cases u : a.2.1 = -1
    · rw [if_pos u]
    · rw [if_neg u, if_pos]
      rw [Int32.lt_iff_toInt_lt, sl2, nI_add, nI_toInt (by omega)]
      rcases h with h | h
      · exact absurd h u
      · omega
  have way2 : ∀ t : Nat, t ≤ 100000 → (t : Int) < yl.toInt → ab_rk p (nI t) 2 a = none := by
    intro t ht h
    unfold ab_rk
    rw [if_neg (by decide), if_neg (by decide), if_pos]
    rw [Int64.lt_iff_toInt_lt, ab_pr rfl ht]
    exact u2 t h
  have ens : ∀ r : Int, (a.2.1 = -1 ∨ r ≤ a.2.1.toInt - sl) → r ≤ yl.toInt → (∀ y, a.2.2.1 = some y → ∃ yr : Int64, r ≤ yr.toInt ∧ ∀ t : Int, t < yr.toInt → 1000 * t < y.toInt) → ab_nb p a r := by
    intro r h0 h2 h1 t ht htr w hw
    rcases (show w = 0 ∨ w = 1 ∨ w = 2 by omega) with rfl | rfl | rfl
    · refine way0 t ht ?_
      rcases h0 with h | h
      · exact .inl h
      · exact .inr (by omega)
    · unfold ab_rk
      rw [if_neg (by decide), if_pos rfl]
      cases hr : a.2.2.1 with
      | none => rfl
      | some y =>
        obtain ⟨yr, e1, e2⟩ := h1 y hr
        simp only []
        rw [if_pos]
        rw [Int64.lt_iff_toInt_lt, ab_pr rfl ht]
        exact e2 t (by omega)
    · exact way2 t ht (by omega)
  unfold f_X3_choosableFrom f_X3_hasTagR
  simp (disch := omega) only [nb_nI, nI_clamp, g1, g2, g4, u1, lgc_eq]
  cases hr : a.2.2.1 with
  | none =>
    simp only [Option.getD_none]
    rw [if_pos (show ab_no = -1152921504606846976 from rfl)]
    simp only [if_true]
    by_cases u : a.2.1 = -1
    · simp only [if_pos u]
      exact ⟨_, rfl, ens _ (.inl u) (Int.le_refl _) (fun y hy => by rw [hr] at hy; cases hy)⟩
    · simp only [if_neg u]
      refine ⟨_, rfl, ens _ (.inr ?_) ?_ (fun y hy => by rw [hr] at hy; cases hy)⟩ <;> rw [i64_min, dlv] <;> split <;> omega
  | some y =>
    obtain ⟨yr, v1, v2⟩ := ab_up hN (T1.1 y hr)
    have ny : ¬ y = -1152921504606846976 := fun h => ab_bd_no hN (T1.1 y hr) h
    simp only [Option.getD_some, if_neg ny, i32_10, if_false, v1]
    have mm := i64_min yr yl
    by_cases u : a.2.1 = -1
    · simp only [if_pos u]
      refine ⟨_, rfl, ens _ (.inl u) ?_ (fun y' hy => ⟨yr, ?_, by rw [hr] at hy; rw [← Option.some.inj hy]; exact v2⟩)⟩ <;> rw [mm] <;> split <;> omega
    · simp only [if_neg u]
      refine ⟨_, rfl, ens _ (.inr ?_) ?_ (fun y' hy => ⟨yr, ?_, by rw [hr] at hy; rw [← Option.some.inj hy]; exact v2⟩)⟩ <;> rw [i64_min, dlv, mm] <;> split <;> split at * <;> omega
