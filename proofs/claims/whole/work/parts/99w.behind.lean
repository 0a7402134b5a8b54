/-! behind, with an array loaded. -/
theorem i64_xor (a : Int64) : a ^^^ 1000 < 0 ↔ a < 0 := by
  rw [Int64.lt_iff_toInt_lt, Int64.lt_iff_toInt_lt]
  have z : (0 : Int64).toInt = 0 := rfl
  rw [z]
  have e1 : (a ^^^ 1000).toBitVec.msb = decide ((a ^^^ 1000).toBitVec.toInt < 0) := BitVec.msb_eq_toInt
  have e2 : a.toBitVec.msb = decide (a.toBitVec.toInt < 0) := BitVec.msb_eq_toInt
  have e3 : (a ^^^ 1000).toBitVec = a.toBitVec ^^^ (1000 : Int64).toBitVec := Int64.toBitVec_xor a 1000
  have e4 : (1000 : Int64).toBitVec.msb = false := by decide
  rw [e3, BitVec.msb_xor, e4, Bool.xor_false, e2, ← e3] at e1
  constructor
  · intro h
    have h' : (a ^^^ 1000).toBitVec.toInt < 0 := h
    rw [decide_eq_true h'] at e1
    exact of_decide_eq_true e1
  · intro h
    have h' : a.toBitVec.toInt < 0 := h
    rw [decide_eq_true h'] at e1
    exact of_decide_eq_true e1.symm
/-- both programs' rounding down -/
theorem ab_down {N : Nat} (hN : N ≤ 1000000000000) {x : Int64} (s : mo_S) (h : ab_bd N x) : ∃ y : Int64, f_J9_floorDiv_f86c9 x 1000 = some y ∧ f_X9_down s x 1000 = some y ∧ -1300000000000000 ≤ y.toInt ∧ y.toInt ≤ 1300000000000000 := by
  unfold ab_bd at h
  have td : x.toInt.tdiv 1000 = if 0 ≤ x.toInt then x.toInt / 1000 else -((-x.toInt) / 1000) := by
    split
    · exact Int.tdiv_eq_ediv_of_nonneg (by omega)
    · have e : x.toInt = -(-x.toInt) := by omega
      rw [e, Int.neg_tdiv, Int.tdiv_eq_ediv_of_nonneg (by omega)]
      omega
  have q0 : (x / 1000).toInt = if 0 ≤ x.toInt then x.toInt / 1000 else -((-x.toInt) / 1000) := by
    rw [Int64.toInt_div, show (1000 : Int64).toInt = 1000 from rfl, td]
    refine Int.bmod_eq_of_le ?_ ?_ <;> split <;> omega
  have bq : -1200000000000000 ≤ (x / 1000).toInt ∧ (x / 1000).toInt ≤ 1200000000000000 := by
    rw [q0]
    split <;> omega
  have nz : ¬ (1000 : Int64) = 0 := by decide
  have e2 : (x / 1000 * 1000).toInt = (x / 1000).toInt * 1000 := by
    rw [Int64.toInt_mul, show (1000 : Int64).toInt = 1000 from rfl]
    exact Int.bmod_eq_of_le (by omega) (by omega)
  have e3 : (x - x / 1000 * 1000).toInt = x.toInt - (x / 1000).toInt * 1000 := by
    have b : -1000 < x.toInt - (x / 1000).toInt * 1000 ∧ x.toInt - (x / 1000).toInt * 1000 < 1000 := by
      rw [q0]
      split <;> omega
    rw [Int64.toInt_sub, e2]
    exact Int.bmod_eq_of_le (by omega) (by omega)
  have e1 : (x / 1000 - 1).toInt = (x / 1000).toInt - 1 := by
    rw [Int64.toInt_sub, show (1 : Int64).toInt = 1 from rfl]
    exact Int.bmod_eq_of_le (by omega) (by omega)
  unfold f_J9_floorDiv_f86c9 f_X9_down
  simp only [if_neg nz, lgc_ge, lgc_eq]
  have z : (0 : Int64).toInt = 0 := rfl
  by_cases u : x < 0
  · have u1 : ¬ ¬ (x ^^^ 1000) < 0 := fun h => h ((i64_xor x).mpr u)
    have u2 := Int64.lt_iff_toInt_lt.mp u
    rw [z] at u2
    rw [if_neg u1]
    by_cases v : x / 1000 * 1000 = x
    · have v1 : ¬ x - x / 1000 * 1000 < 0 := fun h => by
        have h1 := Int64.lt_iff_toInt_lt.mp h
        rw [e3, ← e2, v, z] at h1
        omega
      rw [if_pos v, if_pos v1]
      exact ⟨_, rfl, rfl, by omega, by omega⟩
    · have ne : (x / 1000).toInt * 1000 ≠ x.toInt := fun h => v (Int64.toInt_inj.mp (by rw [e2]; exact h))
      have v1 : ¬ ¬ x - x / 1000 * 1000 < 0 := fun h => h (by
        rw [Int64.lt_iff_toInt_lt, e3, z]
        have : x.toInt ≤ (x / 1000).toInt * 1000 := by
          rw [q0]
          split <;> omega
        omega)
      rw [if_neg v, if_neg v1]
      exact ⟨_, rfl, rfl, by omega, by omega⟩
  · have u1 : ¬ (x ^^^ 1000) < 0 := fun h => u ((i64_xor x).mp h)
    have u2 : ¬ x.toInt < 0 := fun h => u (Int64.lt_iff_toInt_lt.mpr (by rw [z]; exact h))
    have v1 : ¬ x - x / 1000 * 1000 < 0 := fun h => by
      have h1 := Int64.lt_iff_toInt_lt.mp h
      rw [e3, z] at h1
      have : (x / 1000).toInt * 1000 ≤ x.toInt := by
        rw [q0]
        split <;> omega
      omega
    rw [if_pos u1, if_pos v1]
    exact ⟨_, rfl, rfl, by omega, by omega⟩
theorem lgc_lt (a b : Int64) : lg_cmp a b < 0 ↔ a < b := by
  constructor
  · intro h
    apply Classical.byContradiction
    intro k
    have := (lgc_ge a b).mpr k
    have h1 := Int32.lt_iff_toInt_lt.mp h
    have h2 := Int32.le_iff_toInt_le.mp this
    omega
  · intro h
    apply Classical.byContradiction
    intro k
    have h2 : 0 ≤ lg_cmp a b := Int32.le_iff_toInt_le.mpr (by
      have : ¬ (lg_cmp a b).toInt < (0 : Int32).toInt := fun x => k (Int32.lt_iff_toInt_lt.mpr x)
      omega)
    exact (lgc_ge a b).mp h2 h
theorem lgc_le (a b : Int64) : lg_cmp a b ≤ 0 ↔ ¬ b < a := by
  rw [← lgc_gt]
  constructor
  · intro h k
    have h1 := Int32.lt_iff_toInt_lt.mp k
    have h2 := Int32.le_iff_toInt_le.mp h
    omega
  · intro h
    refine Int32.le_iff_toInt_le.mpr ?_
    have : ¬ (0 : Int32).toInt < (lg_cmp a b).toInt := fun x => h (Int32.lt_iff_toInt_lt.mpr x)
    omega
theorem p_25_E : ps_25_E_E iv_N iv_E := by
  intro j s0 s4 s5 s6 sR a1 a2 hj hI
  have hI' := hI
  obtain ⟨h1, D, S, T, m, n, N, ln, cnt, tk, f, p, A, L, W, F, ⟨⟨hP, hp, hs, hC, hR, hB, hF⟩, V, TR, ⟨z3, z11', zl, zd⟩, hu, fx⟩, hn, hN, h70⟩ := hI
  have hD := hp.2.2.2.2.1
  have hT := hp.2.2.2.2.2.2.2.2.1
  have hm1 : ((-1 : Int32) = -1) = True := by simp
  have nowC : s5.1 0 4 = nI n := hC.1.1.trans hB.2.2.2.2.2.1.2.2.2
  have nowR : sR.2.2.1 3 0 = nI n := (hR.1 0 (by decide)).trans hB.2.2.2.2.2.1.2.2.2
  have nowR' : (mo_i sR 2 0).2.2.1 3 0 = nI n := nowR
  have gi : ∀ v a, f_X9_isDisk (mo_i sR 2 v) a = f_X9_isDisk sR a := fun _ _ => rfl
  have gt : ∀ v a, f_X9_isTenant (mo_i sR 2 v) a = f_X9_isTenant sR a := fun _ _ => rfl
  unfold f_X8_behind_E f_X9_behind f_X9_firstOf
  rcases q_queue hp hP hs a1 a2 with ⟨d, t, d1, t1, d2, t2, g1, g2, g3⟩ | ⟨g1, g2 | ⟨g2, g3⟩⟩
  · have hq : 6 * d + t < 42 := by omega
    have Q := hC.2.2.1 _ hq
    have QR := hR.2.2.2.1 _ hq
    have nbq : pm_inb (nI (6 * d + t)) 42 = true := nb_nI hq (by decide)
    have clq : (nI (6 * d + t)).toNatClampNeg = 6 * d + t := nI_clamp (by omega)
    have rq0 : ∀ v, vn (mo_i sR 2 v) 2 (6 * d + t) 0 = vn sR 2 (6 * d + t) 0 := fun _ => rfl
    simp only [gi, gt, g1, g2, g3, i32_10, if_false]
    rw [d2, t2]
    simp only [numberOf_w, nbq, clq, queueOf_w, ofQueue_0 (mo_i sR 2 0) hq, rq0, Q.1]
    cases hl : A.2.1 (6 * d + t) with
    | nil =>
      have q2 := QR.2.1
      rw [hl] at q2
      have e0 : nI ([] : List ab_O).length = 0 := rfl
      simp only [e0, if_true, q2.1]
      exact .inl ⟨_, _, rfl, rfl, thr _ _, iv_E_i hI'⟩
    | cons a l =>
      have q2 := QR.2.1
      rw [hl] at q2
      have ma : a ∈ A.2.1 (6 * d + t) := by rw [hl]; exact List.mem_cons_self
      have ha := hB.1.2.2.1 _ a hq ma
      have U4 := hB.1.2.2.2.1 _ hq
      rw [hl] at U4
      have nz : ¬ nI (a :: l).length = 0 := nI_ne0 (by rw [List.length_cons]; omega) (by omega)
      have O := hR.2.2.2.2.2.2.2.2.2.1 a.1 (.inl ⟨_, hq, a, ma, rfl⟩)
      have nW : ¬ nI (W a.1) = -1 := nI_nm (by have := O.1; omega)
      have hd0 := (Q.2.1 a l hl).1
      obtain ⟨c1, c2, c3, c4⟩ := Q.2.2.2.1 a ma
      obtain ⟨r1, r2, r3, r4, r5⟩ := QR.2.2.2.1 a ma
      have nbo : pm_inb (nI a.1) 3248 = true := nb_nI ha (by decide)
      have clo : (nI a.1).toNatClampNeg = a.1 := nI_clamp (by omega)
      have HT := hB.2.2.2.2.2.2.2.2.1
      have hN12 := hB.2.2.2.2.2.2.2.2.2.2.2.2
      have nt := (HT.nt hN12 _ hq).1 a ma
      have o6 : f_X9_of (mo_i sR 2 0) (nI (W a.1)) 6 = some (vn sR 7 (W a.1) 6) := of_6 (mo_i sR 2 0) O.1
      have tg : f_X9_tagOf (mo_i sR 2 0) (nI (W a.1)) 0 = some (vt sR (W a.1) 0) := tagOf_0 (mo_i sR 2 0) O.1
      simp only [if_neg nz, q2.1, if_neg nW, hd0, nbo, clo, o6, r2, tg, r3, nb_0_18186, tc_0, nowR', nowC]
      unfold f_X3_hasTagR
      simp only [nbo, clo, c2, lgc_eq]
      cases hr : a.2.2.1 with
      | none =>
        simp only [Option.getD_none, Option.isSome_none, Bool.false_eq_true, if_false, if_true]
        rw [if_pos (show ab_no = -1152921504606846976 from rfl)]
        simp only [if_true]
        exact .inl ⟨_, _, rfl, rfl, thr _ _, iv_E_i hI'⟩
      | some y =>
        have ny : ¬ y = -1152921504606846976 := fun h => nt (by rw [hr, h]; rfl)
        obtain ⟨v, v1, v2, v3, v4⟩ := ab_down hN12 (mo_i sR 2 0) (((HT _ hq).1 a ma).1 y hr)
        simp only [Option.getD_some, Option.isSome_some, if_true, if_neg ny, i32_10, if_false, v1, v2, lgc_lt, lgc_le]
        have n64 : (nI n).toInt64.toInt = n := by rw [Int32.toInt_toInt64, nI_toInt (by omega)]
        have sb : ((nI n).toInt64 - v).toInt = n - v.toInt := by
          rw [Int64.toInt_sub, n64]
          exact Int.bmod_eq_of_le (by omega) (by omega)
        by_cases w : v < (nI n).toInt64
        · have w1 := Int64.lt_iff_toInt_lt.mp w
          rw [n64] at w1
          have w2 : ¬ ¬ (0 : Int64) < (nI n).toInt64 - v := fun h => h (by
            rw [Int64.lt_iff_toInt_lt, sb, show (0 : Int64).toInt = 0 from rfl]
            omega)
          simp only [if_pos w, if_neg w2]
          exact .inl ⟨_, _, rfl, rfl, thr _ _, iv_E_i hI'⟩
        · have w1 : ¬ v.toInt < n := fun h => w (by rw [Int64.lt_iff_toInt_lt, n64]; exact h)
          have w2 : ¬ (0 : Int64) < (nI n).toInt64 - v := fun h => by
            rw [Int64.lt_iff_toInt_lt, sb, show (0 : Int64).toInt = 0 from rfl] at h
            omega
          simp only [if_neg w, if_pos w2]
          exact .inl ⟨_, _, rfl, rfl, thr _ _, iv_E_i hI'⟩
  · simp only [gi, g1, g2, if_true]
    exact .inr ⟨_, _, trivial, rfl, thr _ _, iv_E_i hI'⟩
  · simp only [gi, gt, g1, g2, g3, i32_10, if_false, if_true]
    exact .inr ⟨_, _, trivial, rfl, thr _ _, iv_E_i hI'⟩
