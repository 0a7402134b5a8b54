/-! The text's bytes: feed (both sides together). -/
theorem fd_x (v : Int32) : ∃ x : Nat, x < 256 ∧ v &&& 255 = nI x := by
  refine ⟨(v &&& 255).toBitVec.toNat, ?_, ?_⟩
  · have : (v &&& 255).toBitVec.toNat = v.toBitVec.toNat &&& 255 := by
      simp
    rw [this]
    have := Nat.and_le_right (n := v.toBitVec.toNat) (m := 255)
    omega
  · unfold nI
    apply Int32.toBitVec_inj.mp
    simp
theorem fd_8 (v : Int32) : (v &&& 255).toInt8 = v.toInt8 := by
  apply Int8.toBitVec_inj.mp
  apply BitVec.eq_of_getLsbD_eq
  intro i hi
  rw [Int32.toBitVec_toInt8, Int32.toBitVec_toInt8, BitVec.signExtend_eq_setWidth_of_le _ (by decide), BitVec.signExtend_eq_setWidth_of_le _ (by decide), BitVec.getLsbD_setWidth, BitVec.getLsbD_setWidth, Int32.toBitVec_and, BitVec.getLsbD_and]
  have : ∀ i, i < 8 → ((255 : Int32).toBitVec).getLsbD i = true := by decide
  rw [this i hi, Bool.and_true]
theorem fd_s (l k : Int32) (hk : k = 24 ∨ k = 16 ∨ k = 8 ∨ k = 0) : (l >>> (k &&& 31)).toInt8 = ((Int32.toUInt32 l >>> (Int32.toUInt32 k &&& Int32.toUInt32 31)).toInt32).toInt8 := by
  apply Int8.toBitVec_inj.mp
  apply BitVec.eq_of_getLsbD_eq
  intro i hi
  rw [Int32.toBitVec_toInt8, Int32.toBitVec_toInt8, BitVec.signExtend_eq_setWidth_of_le _ (by decide), BitVec.signExtend_eq_setWidth_of_le _ (by decide), BitVec.getLsbD_setWidth, BitVec.getLsbD_setWidth]
  congr 1
  rw [Int32.toBitVec_shiftRight, BitVec.sshiftRight_eq', BitVec.getLsbD_sshiftRight]
  show _ = ((Int32.toUInt32 l >>> (Int32.toUInt32 k &&& Int32.toUInt32 31)).toBitVec).getLsbD i
  rw [UInt32.toBitVec_shiftRight, BitVec.ushiftRight_eq', BitVec.getLsbD_ushiftRight]
  rcases hk with h | h | h | h <;> subst h
  · rw [show (BitVec.smod (24 &&& 31 : Int32).toBitVec 32).toNat = 24 by decide, show ((Int32.toUInt32 24 &&& Int32.toUInt32 31).toBitVec % 32).toNat = 24 by decide, if_pos (by omega), show decide (32 ≤ i) = false by simp; omega]
    rfl
  · rw [show (BitVec.smod (16 &&& 31 : Int32).toBitVec 32).toNat = 16 by decide, show ((Int32.toUInt32 16 &&& Int32.toUInt32 31).toBitVec % 32).toNat = 16 by decide, if_pos (by omega), show decide (32 ≤ i) = false by simp; omega]
    rfl
  · rw [show (BitVec.smod (8 &&& 31 : Int32).toBitVec 32).toNat = 8 by decide, show ((Int32.toUInt32 8 &&& Int32.toUInt32 31).toBitVec % 32).toNat = 8 by decide, if_pos (by omega), show decide (32 ≤ i) = false by simp; omega]
    rfl
  · rw [show (BitVec.smod (0 &&& 31 : Int32).toBitVec 32).toNat = 0 by decide, show ((Int32.toUInt32 0 &&& Int32.toUInt32 31).toBitVec % 32).toNat = 0 by decide, if_pos (by omega), show decide (32 ≤ i) = false by simp; omega]
    rfl
theorem nar_b (x : Int32) : vp_nar .byte x = x.toInt8.toInt32 := rfl
theorem fd_b (l k : Int32) (hk : k = 24 ∨ k = 16 ∨ k = 8 ∨ k = 0) : ∃ x : Nat, x < 256 ∧ (l >>> (k &&& 31)) &&& 255 = nI x ∧ vp_nar .byte (Int8.toInt32 (Int32.toInt8 ((Int32.toUInt32 l >>> (Int32.toUInt32 k &&& Int32.toUInt32 31)).toInt32))) = (nI x).toInt8.toInt32 := by
  obtain ⟨x, h1, h2⟩ := fd_x (l >>> (k &&& 31))
  refine ⟨x, h1, h2, ?_⟩
  rw [nar_b, ← h2, fd_8, fd_s l k hk, Int8.toInt8_toInt32]
/-- tx_R with the count of bytes -/
def tx_T (m : Nat) (s0 : cs_S) (s : mo_S) : Prop := m ≤ 800 ∧ s0.1 1 1 = nI m ∧ s.1 8 = nI m ∧ (∀ k, k < m → ∃ x : Nat, x < 256 ∧ s.2.2.1 7 k = nI x ∧ s0.2.1 2 k = (nI x).toInt8.toInt32) ∧ s0.1 1 6 = s.1 14 ∧ s0.1 1 7 = s.1 15
theorem tx_RT {s0 : cs_S} {s : mo_S} (h : tx_R s0 s) : ∃ m, tx_T m s0 s := by
  obtain ⟨⟨m, h1, h2, h3, h4⟩, h5, h6⟩ := h
  exact ⟨m, h1, h2, h3, h4, h5, h6⟩
theorem tx_TR {m : Nat} {s0 : cs_S} {s : mo_S} (h : tx_T m s0 s) : tx_R s0 s := ⟨⟨m, h.1, h.2.1, h.2.2.1, h.2.2.2.1⟩, h.2.2.2.2⟩
/-- the reference's state but for the text's buffer and the word thrown -/
def fr_T (s s' : mo_S) : Prop := (∀ k, k ≠ 8 → k ≠ 2 → s'.1 k = s.1 k) ∧ s'.2.1 = s.2.1 ∧ (∀ p, p ≠ 7 → s'.2.2.1 p = s.2.2.1 p) ∧ s'.2.2.2 = s.2.2.2
theorem fr_T.rfl' (s : mo_S) : fr_T s s := ⟨fun _ _ _ => rfl, rfl, fun _ _ => rfl, rfl⟩
theorem fr_T.trans {a b c : mo_S} (h : fr_T a b) (h' : fr_T b c) : fr_T a c := ⟨fun k h1 h2 => (h'.1 k h1 h2).trans (h.1 k h1 h2), h'.2.1.trans h.2.1, fun p hp => (h'.2.2.1 p hp).trans (h.2.2.1 p hp), h'.2.2.2.trans h.2.2.2⟩
theorem ap_1 {m : Nat} {s0 : cs_S} {s : mo_S} (l k : Int32) (h : tx_T m s0 s) (hm : m < 800) (hk : k = 24 ∨ k = 16 ∨ k = 8 ∨ k = 0) : ∃ s0' s', lb_X6_append_3 (s0, l, k) = some (.inl (s0', l, k + (-8))) ∧ lb_X9_append_3 (s, l, k) = some (.inl (s', l, k - 8)) ∧ tx_T (m + 1) s0' s' ∧ fr_T s s' ∧ s'.1 2 = s.1 2 := by
  obtain ⟨h1, h2, h3, h4, h5, h6⟩ := h
  obtain ⟨x, hx, e1, e2⟩ := fd_b l k hk
  have hk0 : ¬ k < 0 := by rcases hk with h | h | h | h <;> subst h <;> decide
  have h800 : ¬ (800 : Int32) ≤ nI m := fun h => by
    have := (nI_leI (a := 800) (b := m) (by decide) (by omega)).mp h
    omega
  refine ⟨cs_i (cs_a s0 2 (nI m) (nI x).toInt8.toInt32) 1 1 (nI m + 1), mo_i (mo_a s 7 (nI m) (nI x)) 8 (nI m + 1), ?_, ?_, ?_, ?_, ?_⟩
  · unfold lb_X6_append_3
    simp only [if_neg hk0, cs_a_1, h2, if_neg h800, nb_nI hm (by decide), e2]
  · unfold lb_X9_append_3
    simp only [if_neg hk0, mo_a_1, h3, nb_nI hm (by decide), e1]
  · refine ⟨by omega, ?_, ?_, ?_, ?_, ?_⟩
    · rw [cs_i_1, if_pos ⟨rfl, rfl⟩, nI_1]
    · rw [mo_i_1, if_pos rfl, nI_1]
    · intro k' hk'
      rw [mo_i_2, cs_i_2, mo_a_3, cs_a_2, nI_clamp (by omega)]
      by_cases hkm : k' = m
      · rw [if_pos ⟨rfl, hkm⟩, if_pos ⟨rfl, hkm⟩]
        exact ⟨x, hx, rfl, rfl⟩
      · rw [if_neg (fun h => hkm h.2), if_neg (fun h => hkm h.2)]
        exact h4 k' (by omega)
    · rw [cs_i_1, if_neg (by decide), mo_i_1, if_neg (by decide)]
      exact h5
    · rw [cs_i_1, if_neg (by decide), mo_i_1, if_neg (by decide)]
      exact h6
  · refine ⟨?_, rfl, ?_, rfl⟩
    · intro k' hk8 hk2
      rw [mo_i_1, if_neg hk8]
      rfl
    · intro p hp
      funext k'
      rw [mo_i_2, mo_a_3, if_neg (fun h => hp h.1)]
  · rw [mo_i_1, if_neg (by decide)]
    rfl
theorem lp_inl {X E : Type} {B : X → Option (X ⊕ E)} {x x' : X} {fu : Nat} (h : B x = some (.inl x')) : pm_loop (fu + 1) B x = pm_loop fu B x' := by
  rw [pm_loop, h]
  rfl
theorem lp_inr {X E : Type} {B : X → Option (X ⊕ E)} {x : X} {e : E} {fu : Nat} (h : B x = some (.inr e)) : pm_loop (fu + 1) B x = some e := by
  rw [pm_loop, h]
  rfl
theorem pm_fu5 : pm_fu = 999995 + 1 + 1 + 1 + 1 + 1 := rfl
theorem ap_4 {m : Nat} {s0 : cs_S} {s : mo_S} (a : Int32) (h : tx_T m s0 s) (hm : m + 4 ≤ 800) : ∃ s0' s', f_X6_append s0 a = some s0' ∧ f_X9_append s a = some s' ∧ tx_T (m + 4) s0' s' ∧ fr_T s s' ∧ s'.1 2 = s.1 2 := by
  obtain ⟨x1, y1, p1, q1, t1, f1, z1⟩ := ap_1 a 24 h (by omega) (by decide)
  obtain ⟨x2, y2, p2, q2, t2, f2, z2⟩ := ap_1 a 16 t1 (by omega) (by decide)
  obtain ⟨x3, y3, p3, q3, t3, f3, z3⟩ := ap_1 a 8 t2 (by omega) (by decide)
  obtain ⟨x4, y4, p4, q4, t4, f4, z4⟩ := ap_1 a 0 t3 (by omega) (by decide)
  refine ⟨x4, y4, ?_, ?_, t4, (f1.trans f2).trans (f3.trans f4), by rw [z4, z3, z2, z1]⟩
  · unfold f_X6_append
    rw [pm_fu5, lp_inl p1, lp_inl (x := (x1, a, 24 + -8)) p2, lp_inl (x := (x2, a, 16 + -8)) p3, lp_inl (x := (x3, a, 8 + -8)) p4]
    exact lp_inr rfl
  · unfold f_X9_append
    rw [pm_fu5, lp_inl q1, lp_inl (x := (y1, a, 24 - 8)) q2, lp_inl (x := (y2, a, 16 - 8)) q3, lp_inl (x := (y3, a, 8 - 8)) q4]
    exact lp_inr rfl
theorem fr_T_i (s : mo_S) (v : Int32) : fr_T s (mo_i s 2 v) := ⟨fun k _ h2 => by rw [mo_i_1, if_neg h2], rfl, fun _ _ => rfl, rfl⟩
/-- feed, either side -/
theorem fd_all {s0 : cs_S} {sR : mo_S} (a1 a2 a3 a4 a5 : Int32) (h : tx_R s0 sR) : (∃ (r : Int32) (z0 : cs_S) (sR1 : mo_S), f_X8_feed_A s0 a1 a2 a3 a4 a5 = some (.inl r, z0) ∧ f_X9_feed sR a1 a2 a3 a4 a5 = some (r, sR1) ∧ f_X9_thrown sR1 = some 0 ∧ tx_R z0 sR1 ∧ fr_T sR sR1) ∨ (∃ (b : Int32) (z0 : cs_S) (sR1 : mo_S), f_X8_feed_A s0 a1 a2 a3 a4 a5 = some (.inr 0, z0) ∧ f_X9_feed sR a1 a2 a3 a4 a5 = some (b, sR1) ∧ f_X9_thrown sR1 = some 1 ∧ tx_R z0 sR1 ∧ fr_T sR sR1) := by
  obtain ⟨m, hT⟩ := tx_RT (tx_R_i (v := 0) h)
  have c1 : s0.1 1 1 + 20 ≤ 800 ↔ m + 20 ≤ 800 := by
    rw [hT.2.1]
    have := nI_leI (a := m + 20) (b := 800) (by have := hT.1; omega) (by decide)
    rw [← nI_add] at this
    exact this
  have c2 : (mo_i sR 2 0).1 8 + 20 ≤ 800 ↔ m + 20 ≤ 800 := by
    rw [hT.2.2.1, ← hT.2.1]
    exact c1
  by_cases hc : m + 20 ≤ 800
  · obtain ⟨x1, y1, p1, q1, t1, f1, z1⟩ := ap_4 a1 hT (by omega)
    obtain ⟨x2, y2, p2, q2, t2, f2, z2⟩ := ap_4 a2 t1 (by omega)
    obtain ⟨x3, y3, p3, q3, t3, f3, z3⟩ := ap_4 a3 t2 (by omega)
    obtain ⟨x4, y4, p4, q4, t4, f4, z4⟩ := ap_4 a4 t3 (by omega)
    obtain ⟨x5, y5, p5, q5, t5, f5, z5⟩ := ap_4 a5 t4 (by omega)
    refine .inl ⟨x5.1 1 1, x5, y5, ?_, ?_, ?_, tx_TR t5, (fr_T_i sR 0).trans ((f1.trans f2).trans ((f3.trans f4).trans f5))⟩
    · unfold f_X8_feed_A
      rw [if_pos (c1.mpr hc)]
      simp only [p1, p2, p3, p4, p5]
    · unfold f_X9_feed
      rw [if_pos (c2.mpr hc)]
      simp only [q1, q2, q3, q4, q5]
      rw [t5.2.2.1, ← t5.2.1]
    · show some (y5.1 2) = _
      rw [z5, z4, z3, z2, z1]
      rfl
  · refine .inr ⟨0, s0, mo_i (mo_i sR 2 0) 2 1, ?_, ?_, rfl, tx_R_i (tx_R_i h), (fr_T_i sR 0).trans (fr_T_i _ 1)⟩
    · unfold f_X8_feed_A
      rw [if_neg (fun h => hc (c1.mp h))]
    · unfold f_X9_feed
      rw [if_neg (fun h => hc (c2.mp h))]
      rfl
theorem rf_N_fr {s s' : mo_S} (h : rf_N s) (f : fr_T s s') : rf_N s' := by
  unfold rf_N
  rw [f.2.2.1 0 (by decide), f.2.2.1 3 (by decide), f.1 19 (by decide) (by decide)]
  exact h
theorem p_0_N {IE : t_IE} : ps_0_N_A iv_N IE := by
  intro j s0 sR a1 a2 a3 a4 a5 hj hI
  rcases fd_all a1 a2 a3 a4 a5 hI.1 with ⟨r, z0, s1, h1, h2, h3, h4, h5⟩ | ⟨r, z0, s1, h1, h2, h3, h4, h5⟩
  · exact .inl ⟨r, z0, s1, h1, h2, h3, h4, rf_N_fr hI.2 h5⟩
  · exact .inr ⟨r, z0, s1, h1, h2, h3, h4, rf_N_fr hI.2 h5⟩
