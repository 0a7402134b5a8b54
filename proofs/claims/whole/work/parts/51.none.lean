/-! Nothing is loaded yet: what every call but those of the text answers (wip/whole/pure0.py). -/
/-- the reference without an array -/
def rf_N (s : mo_S) : Prop := (∀ k, k < 26 → s.2.2.1 0 k = 0) ∧ (s.2.2.1 3 0 = 0 ∧ s.2.2.1 3 1 = -1 ∧ s.2.2.1 3 2 = 0 ∧ s.2.2.1 3 3 = 0 ∧ s.2.2.1 3 4 = 0 ∧ s.2.2.1 3 5 = 0 ∧ s.2.2.1 3 6 = 0 ∧ s.2.2.1 3 7 = -1 ∧ s.2.2.1 3 9 = 0 ∧ s.2.2.1 3 10 = -1) ∧ s.1 19 = 0
/-- the text's bytes, and what is told of the last one read -/
def tx_R (s0 : cs_S) (s : mo_S) : Prop := (∃ m : Nat, m ≤ 800 ∧ s0.1 1 1 = nI m ∧ s.1 8 = nI m ∧ ∀ k, k < m → ∃ x : Nat, x < 256 ∧ s.2.2.1 7 k = nI x ∧ s0.2.1 2 k = (nI x).toInt8.toInt32) ∧ s0.1 1 6 = s.1 14 ∧ s0.1 1 7 = s.1 15
def iv_N : t_IN := fun _ s0 s => tx_R s0 s ∧ rf_N s
theorem tx_R_i {s0 : cs_S} {s : mo_S} {v : Int32} (h : tx_R s0 s) : tx_R s0 (mo_i s 2 v) := h
theorem rf_N_i {s : mo_S} {v : Int32} (h : rf_N s) : rf_N (mo_i s 2 v) := h
theorem iv_N_i {j : Nat} {s0 : cs_S} {s : mo_S} {v : Int32} (h : iv_N j s0 s) : iv_N (j + 1) s0 (mo_i s 2 v) := ⟨tx_R_i h.1, rf_N_i h.2⟩
theorem iv_N_ii {j : Nat} {s0 : cs_S} {s : mo_S} {v w : Int32} (h : iv_N j s0 s) : iv_N (j + 1) s0 (mo_i (mo_i s 2 v) 2 w) := ⟨tx_R_i (tx_R_i h.1), rf_N_i (rf_N_i h.2)⟩
theorem rf_N_p {s : mo_S} (h : rf_N s) : s.2.2.1 0 0 = 0 ∧ s.2.2.1 0 1 = 0 ∧ s.2.2.1 0 6 = 0 ∧ s.2.2.1 0 8 = 0 := ⟨h.1 0 (by decide), h.1 1 (by decide), h.1 6 (by decide), h.1 8 (by decide)⟩
theorem in_none (a : Int32) : ¬ (¬ a < 0 ∧ ¬ (0 - 1 : Int32) < a) := by
  intro h
  have h1 : a ≤ (0 - 1 : Int32) := Int32.not_lt.mp h.2
  have h2 : (0 : Int32) ≤ a := Int32.not_lt.mp h.1
  exact absurd (Int32.le_trans h2 h1) (by decide)
theorem f_in_none (s : mo_S) (a : Int32) : f_X9_in s a 0 (-1) = some 0 := by
  show f_X9_in s a 0 (0 - 1) = some 0
  unfold f_X9_in
  by_cases h1 : a < 0
  · rw [if_pos h1]
  · rw [if_neg h1]
    by_cases h2 : (0 - 1 : Int32) < a
    · rw [if_pos h2]
    · exact absurd ⟨h1, h2⟩ (in_none a)
theorem p_5_N {IE : t_IE} : ps_5_N_N iv_N IE := by
  intro j s0 sR hj hI
  obtain ⟨q0, q1, q6, q8⟩ := rf_N_p hI.2
  obtain ⟨n0, n1, n2, n3, n4, n5, n6, n7, n9, n10⟩ := hI.2.2.1
  have nl := hI.2.2.2
  have h1 : f_X9_diskCount sR = some (0, (mo_i sR 2 0)) := by
    simp [f_X9_diskCount, f_X9_disks, f_X9_told, f_in_none, mo_i_1, mo_i_2, q0, q1, q6, q8, n0, n1, n2, n3, n4, n5, n6, n7, n9, n10, nl, pm_loop, pm_lst, pm_fu, nb_0_26, nb_0_18186, nb_1_26, nb_1_18186, nb_2_26, nb_2_18186, nb_3_26, nb_3_18186, nb_4_26, nb_4_18186, nb_5_26, nb_5_18186, nb_6_26, nb_6_18186, nb_7_26, nb_7_18186, nb_8_18186, nb_9_18186, nb_10_18186, tc_0, tc_1, tc_2, tc_3, tc_4, tc_5, tc_6, tc_7, tc_8, tc_9, tc_10, tc_42]
  exact ⟨_, _, rfl, h1, iv_N_i hI⟩
theorem p_6_N {IE : t_IE} : ps_6_N_N iv_N IE := by
  intro j s0 sR hj hI
  obtain ⟨q0, q1, q6, q8⟩ := rf_N_p hI.2
  obtain ⟨n0, n1, n2, n3, n4, n5, n6, n7, n9, n10⟩ := hI.2.2.1
  have nl := hI.2.2.2
  have h1 : f_X9_stripeCount sR = some (0, (mo_i sR 2 0)) := by
    simp [f_X9_stripeCount, f_X9_told, f_in_none, mo_i_1, mo_i_2, q0, q1, q6, q8, n0, n1, n2, n3, n4, n5, n6, n7, n9, n10, nl, pm_loop, pm_lst, pm_fu, nb_0_26, nb_0_18186, nb_1_26, nb_1_18186, nb_2_26, nb_2_18186, nb_3_26, nb_3_18186, nb_4_26, nb_4_18186, nb_5_26, nb_5_18186, nb_6_26, nb_6_18186, nb_7_26, nb_7_18186, nb_8_18186, nb_9_18186, nb_10_18186, tc_0, tc_1, tc_2, tc_3, tc_4, tc_5, tc_6, tc_7, tc_8, tc_9, tc_10, tc_42]
  exact ⟨_, _, rfl, h1, iv_N_i hI⟩
theorem p_7_N {IE : t_IE} : ps_7_N_N iv_N IE := by
  intro j s0 sR hj hI
  obtain ⟨q0, q1, q6, q8⟩ := rf_N_p hI.2
  obtain ⟨n0, n1, n2, n3, n4, n5, n6, n7, n9, n10⟩ := hI.2.2.1
  have nl := hI.2.2.2
  have h1 : f_X9_tenantCount sR = some (0, (mo_i sR 2 0)) := by
    simp [f_X9_tenantCount, f_X9_told, f_in_none, mo_i_1, mo_i_2, q0, q1, q6, q8, n0, n1, n2, n3, n4, n5, n6, n7, n9, n10, nl, pm_loop, pm_lst, pm_fu, nb_0_26, nb_0_18186, nb_1_26, nb_1_18186, nb_2_26, nb_2_18186, nb_3_26, nb_3_18186, nb_4_26, nb_4_18186, nb_5_26, nb_5_18186, nb_6_26, nb_6_18186, nb_7_26, nb_7_18186, nb_8_18186, nb_9_18186, nb_10_18186, tc_0, tc_1, tc_2, tc_3, tc_4, tc_5, tc_6, tc_7, tc_8, tc_9, tc_10, tc_42]
  exact ⟨_, _, rfl, h1, iv_N_i hI⟩
theorem p_8_N {IE : t_IE} : ps_8_N_N iv_N IE := by
  intro j s0 sR a1 hj hI
  obtain ⟨q0, q1, q6, q8⟩ := rf_N_p hI.2
  obtain ⟨n0, n1, n2, n3, n4, n5, n6, n7, n9, n10⟩ := hI.2.2.1
  have nl := hI.2.2.2
  have h1 : f_X9_stripeOf sR a1 = some (0, (mo_i (mo_i sR 2 0) 2 1)) := by
    simp [f_X9_stripeOf, f_X9_isUnit, f_X9_isArray, f_X9_units, f_X9_disks, f_X9_refuse, f_X9_stripeFor, f_in_none, mo_i_1, mo_i_2, q0, q1, q6, q8, n0, n1, n2, n3, n4, n5, n6, n7, n9, n10, nl, pm_loop, pm_lst, pm_fu, nb_0_26, nb_0_18186, nb_1_26, nb_1_18186, nb_2_26, nb_2_18186, nb_3_26, nb_3_18186, nb_4_26, nb_4_18186, nb_5_26, nb_5_18186, nb_6_26, nb_6_18186, nb_7_26, nb_7_18186, nb_8_18186, nb_9_18186, nb_10_18186, tc_0, tc_1, tc_2, tc_3, tc_4, tc_5, tc_6, tc_7, tc_8, tc_9, tc_10, tc_42]
  exact ⟨_, _, rfl, h1, rfl, iv_N_ii hI⟩
theorem p_9_N {IE : t_IE} : ps_9_N_N iv_N IE := by
  intro j s0 sR a1 hj hI
  obtain ⟨q0, q1, q6, q8⟩ := rf_N_p hI.2
  obtain ⟨n0, n1, n2, n3, n4, n5, n6, n7, n9, n10⟩ := hI.2.2.1
  have nl := hI.2.2.2
  have h1 : f_X9_diskOf sR a1 = some (0, (mo_i (mo_i sR 2 0) 2 1)) := by
    simp [f_X9_diskOf, f_X9_isUnit, f_X9_isArray, f_X9_units, f_X9_disks, f_X9_refuse, f_X9_diskFor, f_X9_stripeFor, f_X9_parityOf, f_in_none, mo_i_1, mo_i_2, q0, q1, q6, q8, n0, n1, n2, n3, n4, n5, n6, n7, n9, n10, nl, pm_loop, pm_lst, pm_fu, nb_0_26, nb_0_18186, nb_1_26, nb_1_18186, nb_2_26, nb_2_18186, nb_3_26, nb_3_18186, nb_4_26, nb_4_18186, nb_5_26, nb_5_18186, nb_6_26, nb_6_18186, nb_7_26, nb_7_18186, nb_8_18186, nb_9_18186, nb_10_18186, tc_0, tc_1, tc_2, tc_3, tc_4, tc_5, tc_6, tc_7, tc_8, tc_9, tc_10, tc_42]
  exact ⟨_, _, rfl, h1, rfl, iv_N_ii hI⟩
theorem p_10_N {IE : t_IE} : ps_10_N_N iv_N IE := by
  intro j s0 sR a1 hj hI
  obtain ⟨q0, q1, q6, q8⟩ := rf_N_p hI.2
  obtain ⟨n0, n1, n2, n3, n4, n5, n6, n7, n9, n10⟩ := hI.2.2.1
  have nl := hI.2.2.2
  have h1 : f_X9_parityDisk sR a1 = some (0, (mo_i (mo_i sR 2 0) 2 1)) := by
    simp [f_X9_parityDisk, f_X9_isStripe, f_X9_refuse, f_X9_parityOf, f_X9_disks, f_in_none, mo_i_1, mo_i_2, q0, q1, q6, q8, n0, n1, n2, n3, n4, n5, n6, n7, n9, n10, nl, pm_loop, pm_lst, pm_fu, nb_0_26, nb_0_18186, nb_1_26, nb_1_18186, nb_2_26, nb_2_18186, nb_3_26, nb_3_18186, nb_4_26, nb_4_18186, nb_5_26, nb_5_18186, nb_6_26, nb_6_18186, nb_7_26, nb_7_18186, nb_8_18186, nb_9_18186, nb_10_18186, tc_0, tc_1, tc_2, tc_3, tc_4, tc_5, tc_6, tc_7, tc_8, tc_9, tc_10, tc_42]
  exact ⟨_, _, rfl, h1, rfl, iv_N_ii hI⟩
theorem p_11_N {IE : t_IE} : ps_11_N_N iv_N IE := by
  intro j s0 sR a1 a2 hj hI
  obtain ⟨q0, q1, q6, q8⟩ := rf_N_p hI.2
  obtain ⟨n0, n1, n2, n3, n4, n5, n6, n7, n9, n10⟩ := hI.2.2.1
  have nl := hI.2.2.2
  have h1 : f_X9_share sR a1 a2 = some (0, (mo_i (mo_i sR 2 0) 2 1)) := by
    simp [f_X9_share, f_X9_isTenant, f_X9_refuse, f_X9_shareOf, f_in_none, mo_i_1, mo_i_2, q0, q1, q6, q8, n0, n1, n2, n3, n4, n5, n6, n7, n9, n10, nl, pm_loop, pm_lst, pm_fu, nb_0_26, nb_0_18186, nb_1_26, nb_1_18186, nb_2_26, nb_2_18186, nb_3_26, nb_3_18186, nb_4_26, nb_4_18186, nb_5_26, nb_5_18186, nb_6_26, nb_6_18186, nb_7_26, nb_7_18186, nb_8_18186, nb_9_18186, nb_10_18186, tc_0, tc_1, tc_2, tc_3, tc_4, tc_5, tc_6, tc_7, tc_8, tc_9, tc_10, tc_42]
  exact ⟨_, _, rfl, h1, rfl, iv_N_ii hI⟩
theorem p_12_N {IE : t_IE} : ps_12_N_N iv_N IE := by
  intro j s0 sR a1 a2 a3 a4 hj hI
  obtain ⟨q0, q1, q6, q8⟩ := rf_N_p hI.2
  obtain ⟨n0, n1, n2, n3, n4, n5, n6, n7, n9, n10⟩ := hI.2.2.1
  have nl := hI.2.2.2
  have h1 : f_X9_submit sR a1 a2 (if a3 = 0 then 0 else 1) a4 = some (0, (mo_i (mo_i sR 2 0) 2 1)) := by
    simp [f_X9_submit, f_X9_isClient, f_X9_isTenant, f_X9_refuse, f_X9_isUnit, f_X9_isArray, f_X9_units, f_X9_disks, f_X9_request, f_X9_setRequest, f_X9_queueRead, f_X9_diskFor, f_X9_stripeFor, f_X9_parityOf, f_X9_stateOf, f_X9_ofRequest, f_X9_queue, f_X9_queueOf, f_X9_of, f_X9_set, f_X9_setTags, f_X9_shareOf, f_X9_nextTag, f_X9_part, f_X9_ofQueue, f_X9_stamp, f_X9_setQueue, fc_X9_setTags_c1, fc_X9_setTags_c2, f_X9_addPending, f_X9_queueDegraded, lb_X9_queueDegraded_2, f_X9_isSurviving, f_X9_isHeldOn, f_X9_checkRequest, f_X9_addStatistic, f_X9_queueWrite, f_in_none, mo_i_1, mo_i_2, q0, q1, q6, q8, n0, n1, n2, n3, n4, n5, n6, n7, n9, n10, nl, pm_loop, pm_lst, pm_fu, nb_0_26, nb_0_18186, nb_1_26, nb_1_18186, nb_2_26, nb_2_18186, nb_3_26, nb_3_18186, nb_4_26, nb_4_18186, nb_5_26, nb_5_18186, nb_6_26, nb_6_18186, nb_7_26, nb_7_18186, nb_8_18186, nb_9_18186, nb_10_18186, tc_0, tc_1, tc_2, tc_3, tc_4, tc_5, tc_6, tc_7, tc_8, tc_9, tc_10, tc_42]
  exact ⟨_, _, rfl, h1, rfl, iv_N_ii hI⟩
theorem p_13_N {IE : t_IE} : ps_13_N_N iv_N IE := by
  intro j s0 sR a1 hj hI
  obtain ⟨q0, q1, q6, q8⟩ := rf_N_p hI.2
  obtain ⟨n0, n1, n2, n3, n4, n5, n6, n7, n9, n10⟩ := hI.2.2.1
  have nl := hI.2.2.2
  have h1 : f_X9_fail sR a1 = some (0, (mo_i (mo_i sR 2 0) 2 1)) := by
    simp [f_X9_fail, f_X9_isArray, f_X9_refuse, f_X9_disks, fc_X9_fail_c1, f_X9_ofDisk, f_X9_setDisk, lb_X9_fail_95, f_X9_startStripes, f_X9_underway, lb_X9_underway_4, f_X9_stateOf, lb_X9_startStripes_7, f_X9_startStripe, lb_X9_startStripe_13, f_X9_checkCollected, f_X9_areAllHeld, lb_X9_areAllHeld_2, f_X9_isSurviving, f_X9_isHeldOn, f_X9_deadlineOf, f_X9_queue, f_X9_queueOf, f_X9_of, f_X9_set, f_X9_setTags, f_X9_shareOf, f_X9_nextTag, f_X9_part, f_X9_ofQueue, f_X9_stamp, f_X9_setQueue, fc_X9_setTags_c1, fc_X9_setTags_c2, f_X9_addPending, f_X9_ofRequest, f_X9_setRequest, f_X9_queueRebuildRead, lb_X9_fail_113, f_X9_removeFirst, f_X9_handle, f_X9_release, f_X9_queueDegraded, lb_X9_queueDegraded_2, f_X9_checkRequest, f_X9_addStatistic, f_in_none, mo_i_1, mo_i_2, q0, q1, q6, q8, n0, n1, n2, n3, n4, n5, n6, n7, n9, n10, nl, pm_loop, pm_lst, pm_fu, nb_0_26, nb_0_18186, nb_1_26, nb_1_18186, nb_2_26, nb_2_18186, nb_3_26, nb_3_18186, nb_4_26, nb_4_18186, nb_5_26, nb_5_18186, nb_6_26, nb_6_18186, nb_7_26, nb_7_18186, nb_8_18186, nb_9_18186, nb_10_18186, tc_0, tc_1, tc_2, tc_3, tc_4, tc_5, tc_6, tc_7, tc_8, tc_9, tc_10, tc_42]
  exact ⟨_, _, rfl, h1, rfl, iv_N_ii hI⟩
theorem p_16_N {IE : t_IE} : ps_16_N_N iv_N IE := by
  intro j s0 sR a1 a2 a3 a4 hj hI
  obtain ⟨q0, q1, q6, q8⟩ := rf_N_p hI.2
  obtain ⟨n0, n1, n2, n3, n4, n5, n6, n7, n9, n10⟩ := hI.2.2.1
  have nl := hI.2.2.2
  have h1 : f_X9_setShare sR a1 a2 a3 a4 = some (0, (mo_i (mo_i sR 2 0) 2 1)) := by
    simp [f_X9_setShare, f_X9_isTenant, f_X9_refuse, f_X9_isLimit, f_X9_shareOf, fc_X9_setShare_c1, fc_X9_setShare_c2, fc_X9_setShare_c3, f_in_none, mo_i_1, mo_i_2, q0, q1, q6, q8, n0, n1, n2, n3, n4, n5, n6, n7, n9, n10, nl, pm_loop, pm_lst, pm_fu, nb_0_26, nb_0_18186, nb_1_26, nb_1_18186, nb_2_26, nb_2_18186, nb_3_26, nb_3_18186, nb_4_26, nb_4_18186, nb_5_26, nb_5_18186, nb_6_26, nb_6_18186, nb_7_26, nb_7_18186, nb_8_18186, nb_9_18186, nb_10_18186, tc_0, tc_1, tc_2, tc_3, tc_4, tc_5, tc_6, tc_7, tc_8, tc_9, tc_10, tc_42]
  exact ⟨_, _, rfl, h1, rfl, iv_N_ii hI⟩
theorem p_17_N {IE : t_IE} : ps_17_N_N iv_N IE := by
  intro j s0 sR hj hI
  obtain ⟨q0, q1, q6, q8⟩ := rf_N_p hI.2
  obtain ⟨n0, n1, n2, n3, n4, n5, n6, n7, n9, n10⟩ := hI.2.2.1
  have nl := hI.2.2.2
  have h1 : f_X9_now sR = some (0, (mo_i sR 2 0)) := by
    simp [f_X9_now, f_X9_told, f_in_none, mo_i_1, mo_i_2, q0, q1, q6, q8, n0, n1, n2, n3, n4, n5, n6, n7, n9, n10, nl, pm_loop, pm_lst, pm_fu, nb_0_26, nb_0_18186, nb_1_26, nb_1_18186, nb_2_26, nb_2_18186, nb_3_26, nb_3_18186, nb_4_26, nb_4_18186, nb_5_26, nb_5_18186, nb_6_26, nb_6_18186, nb_7_26, nb_7_18186, nb_8_18186, nb_9_18186, nb_10_18186, tc_0, tc_1, tc_2, tc_3, tc_4, tc_5, tc_6, tc_7, tc_8, tc_9, tc_10, tc_42]
  exact ⟨_, _, rfl, h1, iv_N_i hI⟩
theorem p_18_N {IE : t_IE} : ps_18_N_N iv_N IE := by
  intro j s0 sR hj hI
  obtain ⟨q0, q1, q6, q8⟩ := rf_N_p hI.2
  obtain ⟨n0, n1, n2, n3, n4, n5, n6, n7, n9, n10⟩ := hI.2.2.1
  have nl := hI.2.2.2
  have h1 : f_X9_failedDisk sR = some ((-1), (mo_i sR 2 0)) := by
    simp [f_X9_failedDisk, f_X9_told, f_in_none, mo_i_1, mo_i_2, q0, q1, q6, q8, n0, n1, n2, n3, n4, n5, n6, n7, n9, n10, nl, pm_loop, pm_lst, pm_fu, nb_0_26, nb_0_18186, nb_1_26, nb_1_18186, nb_2_26, nb_2_18186, nb_3_26, nb_3_18186, nb_4_26, nb_4_18186, nb_5_26, nb_5_18186, nb_6_26, nb_6_18186, nb_7_26, nb_7_18186, nb_8_18186, nb_9_18186, nb_10_18186, tc_0, tc_1, tc_2, tc_3, tc_4, tc_5, tc_6, tc_7, tc_8, tc_9, tc_10, tc_42]
  exact ⟨_, _, rfl, h1, iv_N_i hI⟩
theorem p_19_N {IE : t_IE} : ps_19_N_N iv_N IE := by
  intro j s0 sR a1 a2 hj hI
  obtain ⟨q0, q1, q6, q8⟩ := rf_N_p hI.2
  obtain ⟨n0, n1, n2, n3, n4, n5, n6, n7, n9, n10⟩ := hI.2.2.1
  have nl := hI.2.2.2
  have h1 : f_X9_queueLength sR a1 a2 = some (0, (mo_i (mo_i sR 2 0) 2 1)) := by
    simp [f_X9_queueLength, f_X9_isDisk, f_X9_isArray, f_X9_disks, f_X9_refuse, f_X9_isTenant, f_X9_queueOf, f_X9_ofQueue, f_in_none, mo_i_1, mo_i_2, q0, q1, q6, q8, n0, n1, n2, n3, n4, n5, n6, n7, n9, n10, nl, pm_loop, pm_lst, pm_fu, nb_0_26, nb_0_18186, nb_1_26, nb_1_18186, nb_2_26, nb_2_18186, nb_3_26, nb_3_18186, nb_4_26, nb_4_18186, nb_5_26, nb_5_18186, nb_6_26, nb_6_18186, nb_7_26, nb_7_18186, nb_8_18186, nb_9_18186, nb_10_18186, tc_0, tc_1, tc_2, tc_3, tc_4, tc_5, tc_6, tc_7, tc_8, tc_9, tc_10, tc_42]
  exact ⟨_, _, rfl, h1, rfl, iv_N_ii hI⟩
theorem p_20_N {IE : t_IE} : ps_20_N_N iv_N IE := by
  intro j s0 sR a1 a2 a3 hj hI
  obtain ⟨q0, q1, q6, q8⟩ := rf_N_p hI.2
  obtain ⟨n0, n1, n2, n3, n4, n5, n6, n7, n9, n10⟩ := hI.2.2.1
  have nl := hI.2.2.2
  have h1 : f_X9_tag sR a1 a2 a3 = some (0, (mo_i sR 2 1)) := by
    simp [f_X9_tag, f_X9_firstOf, f_X9_isDisk, f_X9_isArray, f_X9_disks, f_X9_isTenant, f_X9_queueOf, f_X9_ofQueue, f_X9_of, f_X9_tagOf, f_in_none, mo_i_1, mo_i_2, q0, q1, q6, q8, n0, n1, n2, n3, n4, n5, n6, n7, n9, n10, nl, pm_loop, pm_lst, pm_fu, nb_0_26, nb_0_18186, nb_1_26, nb_1_18186, nb_2_26, nb_2_18186, nb_3_26, nb_3_18186, nb_4_26, nb_4_18186, nb_5_26, nb_5_18186, nb_6_26, nb_6_18186, nb_7_26, nb_7_18186, nb_8_18186, nb_9_18186, nb_10_18186, tc_0, tc_1, tc_2, tc_3, tc_4, tc_5, tc_6, tc_7, tc_8, tc_9, tc_10, tc_42]
  exact ⟨_, _, rfl, h1, rfl, iv_N_i hI⟩
theorem p_21_N {IE : t_IE} : ps_21_N_N iv_N IE := by
  intro j s0 sR a1 hj hI
  obtain ⟨q0, q1, q6, q8⟩ := rf_N_p hI.2
  obtain ⟨n0, n1, n2, n3, n4, n5, n6, n7, n9, n10⟩ := hI.2.2.1
  have nl := hI.2.2.2
  have h1 : f_X9_serving sR a1 = some (0, (mo_i (mo_i sR 2 0) 2 1)) := by
    simp [f_X9_serving, f_X9_isDisk, f_X9_isArray, f_X9_disks, f_X9_refuse, f_X9_ofDisk, f_X9_of, f_in_none, mo_i_1, mo_i_2, q0, q1, q6, q8, n0, n1, n2, n3, n4, n5, n6, n7, n9, n10, nl, pm_loop, pm_lst, pm_fu, nb_0_26, nb_0_18186, nb_1_26, nb_1_18186, nb_2_26, nb_2_18186, nb_3_26, nb_3_18186, nb_4_26, nb_4_18186, nb_5_26, nb_5_18186, nb_6_26, nb_6_18186, nb_7_26, nb_7_18186, nb_8_18186, nb_9_18186, nb_10_18186, tc_0, tc_1, tc_2, tc_3, tc_4, tc_5, tc_6, tc_7, tc_8, tc_9, tc_10, tc_42]
  exact ⟨_, _, rfl, h1, rfl, iv_N_ii hI⟩
theorem p_22_N {IE : t_IE} : ps_22_N_N iv_N IE := by
  intro j s0 sR a1 hj hI
  obtain ⟨q0, q1, q6, q8⟩ := rf_N_p hI.2
  obtain ⟨n0, n1, n2, n3, n4, n5, n6, n7, n9, n10⟩ := hI.2.2.1
  have nl := hI.2.2.2
  have h1 : f_X9_busyUntil sR a1 = some (0, (mo_i (mo_i sR 2 0) 2 1)) := by
    simp [f_X9_busyUntil, f_X9_tellDisk, f_X9_isDisk, f_X9_isArray, f_X9_disks, f_X9_refuse, f_X9_ofDisk, f_in_none, mo_i_1, mo_i_2, q0, q1, q6, q8, n0, n1, n2, n3, n4, n5, n6, n7, n9, n10, nl, pm_loop, pm_lst, pm_fu, nb_0_26, nb_0_18186, nb_1_26, nb_1_18186, nb_2_26, nb_2_18186, nb_3_26, nb_3_18186, nb_4_26, nb_4_18186, nb_5_26, nb_5_18186, nb_6_26, nb_6_18186, nb_7_26, nb_7_18186, nb_8_18186, nb_9_18186, nb_10_18186, tc_0, tc_1, tc_2, tc_3, tc_4, tc_5, tc_6, tc_7, tc_8, tc_9, tc_10, tc_42]
  exact ⟨_, _, rfl, h1, rfl, iv_N_ii hI⟩
theorem p_23_N {IE : t_IE} : ps_23_N_N iv_N IE := by
  intro j s0 sR a1 hj hI
  obtain ⟨q0, q1, q6, q8⟩ := rf_N_p hI.2
  obtain ⟨n0, n1, n2, n3, n4, n5, n6, n7, n9, n10⟩ := hI.2.2.1
  have nl := hI.2.2.2
  have h1 : f_X9_position sR a1 = some (0, (mo_i (mo_i sR 2 0) 2 1)) := by
    simp [f_X9_position, f_X9_tellDisk, f_X9_isDisk, f_X9_isArray, f_X9_disks, f_X9_refuse, f_X9_ofDisk, f_in_none, mo_i_1, mo_i_2, q0, q1, q6, q8, n0, n1, n2, n3, n4, n5, n6, n7, n9, n10, nl, pm_loop, pm_lst, pm_fu, nb_0_26, nb_0_18186, nb_1_26, nb_1_18186, nb_2_26, nb_2_18186, nb_3_26, nb_3_18186, nb_4_26, nb_4_18186, nb_5_26, nb_5_18186, nb_6_26, nb_6_18186, nb_7_26, nb_7_18186, nb_8_18186, nb_9_18186, nb_10_18186, tc_0, tc_1, tc_2, tc_3, tc_4, tc_5, tc_6, tc_7, tc_8, tc_9, tc_10, tc_42]
  exact ⟨_, _, rfl, h1, rfl, iv_N_ii hI⟩
theorem p_24_N {IE : t_IE} : ps_24_N_N iv_N IE := by
  intro j s0 sR a1 hj hI
  obtain ⟨q0, q1, q6, q8⟩ := rf_N_p hI.2
  obtain ⟨n0, n1, n2, n3, n4, n5, n6, n7, n9, n10⟩ := hI.2.2.1
  have nl := hI.2.2.2
  have h1 : f_X9_busyTime sR a1 = some (0, (mo_i (mo_i sR 2 0) 2 1)) := by
    simp [f_X9_busyTime, f_X9_tellDisk, f_X9_isDisk, f_X9_isArray, f_X9_disks, f_X9_refuse, f_X9_ofDisk, f_in_none, mo_i_1, mo_i_2, q0, q1, q6, q8, n0, n1, n2, n3, n4, n5, n6, n7, n9, n10, nl, pm_loop, pm_lst, pm_fu, nb_0_26, nb_0_18186, nb_1_26, nb_1_18186, nb_2_26, nb_2_18186, nb_3_26, nb_3_18186, nb_4_26, nb_4_18186, nb_5_26, nb_5_18186, nb_6_26, nb_6_18186, nb_7_26, nb_7_18186, nb_8_18186, nb_9_18186, nb_10_18186, tc_0, tc_1, tc_2, tc_3, tc_4, tc_5, tc_6, tc_7, tc_8, tc_9, tc_10, tc_42]
  exact ⟨_, _, rfl, h1, rfl, iv_N_ii hI⟩
theorem p_25_N {IE : t_IE} : ps_25_N_N iv_N IE := by
  intro j s0 sR a1 a2 hj hI
  obtain ⟨q0, q1, q6, q8⟩ := rf_N_p hI.2
  obtain ⟨n0, n1, n2, n3, n4, n5, n6, n7, n9, n10⟩ := hI.2.2.1
  have nl := hI.2.2.2
  have h1 : f_X9_behind sR a1 a2 = some (0, (mo_i sR 2 1)) := by
    simp [f_X9_behind, f_X9_isDisk, f_X9_isArray, f_X9_disks, f_X9_firstOf, f_X9_isTenant, f_X9_queueOf, f_X9_ofQueue, f_X9_of, f_X9_tagOf, f_X9_down, f_in_none, mo_i_1, mo_i_2, q0, q1, q6, q8, n0, n1, n2, n3, n4, n5, n6, n7, n9, n10, nl, pm_loop, pm_lst, pm_fu, nb_0_26, nb_0_18186, nb_1_26, nb_1_18186, nb_2_26, nb_2_18186, nb_3_26, nb_3_18186, nb_4_26, nb_4_18186, nb_5_26, nb_5_18186, nb_6_26, nb_6_18186, nb_7_26, nb_7_18186, nb_8_18186, nb_9_18186, nb_10_18186, tc_0, tc_1, tc_2, tc_3, tc_4, tc_5, tc_6, tc_7, tc_8, tc_9, tc_10, tc_42]
  exact ⟨_, _, rfl, h1, rfl, iv_N_i hI⟩
theorem p_26_N {IE : t_IE} : ps_26_N_N iv_N IE := by
  intro j s0 sR a1 a2 hj hI
  obtain ⟨q0, q1, q6, q8⟩ := rf_N_p hI.2
  obtain ⟨n0, n1, n2, n3, n4, n5, n6, n7, n9, n10⟩ := hI.2.2.1
  have nl := hI.2.2.2
  have h1 : f_X9_chosen sR a1 a2 = some (0, (mo_i (mo_i sR 2 0) 2 1)) := by
    simp [f_X9_chosen, f_X9_isTenant, f_X9_refuse, f_X9_ofTenant, f_in_none, mo_i_1, mo_i_2, q0, q1, q6, q8, n0, n1, n2, n3, n4, n5, n6, n7, n9, n10, nl, pm_loop, pm_lst, pm_fu, nb_0_26, nb_0_18186, nb_1_26, nb_1_18186, nb_2_26, nb_2_18186, nb_3_26, nb_3_18186, nb_4_26, nb_4_18186, nb_5_26, nb_5_18186, nb_6_26, nb_6_18186, nb_7_26, nb_7_18186, nb_8_18186, nb_9_18186, nb_10_18186, tc_0, tc_1, tc_2, tc_3, tc_4, tc_5, tc_6, tc_7, tc_8, tc_9, tc_10, tc_42]
  exact ⟨_, _, rfl, h1, rfl, iv_N_ii hI⟩
theorem p_27_N {IE : t_IE} : ps_27_N_N iv_N IE := by
  intro j s0 sR hj hI
  obtain ⟨q0, q1, q6, q8⟩ := rf_N_p hI.2
  obtain ⟨n0, n1, n2, n3, n4, n5, n6, n7, n9, n10⟩ := hI.2.2.1
  have nl := hI.2.2.2
  have h1 : f_X9_requestCount sR = some (0, (mo_i sR 2 0)) := by
    simp [f_X9_requestCount, f_X9_told, f_in_none, mo_i_1, mo_i_2, q0, q1, q6, q8, n0, n1, n2, n3, n4, n5, n6, n7, n9, n10, nl, pm_loop, pm_lst, pm_fu, nb_0_26, nb_0_18186, nb_1_26, nb_1_18186, nb_2_26, nb_2_18186, nb_3_26, nb_3_18186, nb_4_26, nb_4_18186, nb_5_26, nb_5_18186, nb_6_26, nb_6_18186, nb_7_26, nb_7_18186, nb_8_18186, nb_9_18186, nb_10_18186, tc_0, tc_1, tc_2, tc_3, tc_4, tc_5, tc_6, tc_7, tc_8, tc_9, tc_10, tc_42]
  exact ⟨_, _, rfl, h1, iv_N_i hI⟩
theorem p_28_N {IE : t_IE} : ps_28_N_N iv_N IE := by
  intro j s0 sR hj hI
  obtain ⟨q0, q1, q6, q8⟩ := rf_N_p hI.2
  obtain ⟨n0, n1, n2, n3, n4, n5, n6, n7, n9, n10⟩ := hI.2.2.1
  have nl := hI.2.2.2
  have h1 : f_X9_lostLines sR = some (0, (mo_i sR 2 0)) := by
    simp [f_X9_lostLines, f_X9_told, f_in_none, mo_i_1, mo_i_2, q0, q1, q6, q8, n0, n1, n2, n3, n4, n5, n6, n7, n9, n10, nl, pm_loop, pm_lst, pm_fu, nb_0_26, nb_0_18186, nb_1_26, nb_1_18186, nb_2_26, nb_2_18186, nb_3_26, nb_3_18186, nb_4_26, nb_4_18186, nb_5_26, nb_5_18186, nb_6_26, nb_6_18186, nb_7_26, nb_7_18186, nb_8_18186, nb_9_18186, nb_10_18186, tc_0, tc_1, tc_2, tc_3, tc_4, tc_5, tc_6, tc_7, tc_8, tc_9, tc_10, tc_42]
  exact ⟨_, _, rfl, h1, iv_N_i hI⟩
theorem p_29_N {IE : t_IE} : ps_29_N_N iv_N IE := by
  intro j s0 sR hj hI
  obtain ⟨q0, q1, q6, q8⟩ := rf_N_p hI.2
  obtain ⟨n0, n1, n2, n3, n4, n5, n6, n7, n9, n10⟩ := hI.2.2.1
  have nl := hI.2.2.2
  have h1 : f_X9_traceLines sR = some (0, (mo_i sR 2 0)) := by
    simp [f_X9_traceLines, f_X9_told, f_in_none, mo_i_1, mo_i_2, q0, q1, q6, q8, n0, n1, n2, n3, n4, n5, n6, n7, n9, n10, nl, pm_loop, pm_lst, pm_fu, nb_0_26, nb_0_18186, nb_1_26, nb_1_18186, nb_2_26, nb_2_18186, nb_3_26, nb_3_18186, nb_4_26, nb_4_18186, nb_5_26, nb_5_18186, nb_6_26, nb_6_18186, nb_7_26, nb_7_18186, nb_8_18186, nb_9_18186, nb_10_18186, tc_0, tc_1, tc_2, tc_3, tc_4, tc_5, tc_6, tc_7, tc_8, tc_9, tc_10, tc_42]
  exact ⟨_, _, rfl, h1, iv_N_i hI⟩
theorem p_30_N {IE : t_IE} : ps_30_N_N iv_N IE := by
  intro j s0 sR a1 hj hI
  obtain ⟨q0, q1, q6, q8⟩ := rf_N_p hI.2
  obtain ⟨n0, n1, n2, n3, n4, n5, n6, n7, n9, n10⟩ := hI.2.2.1
  have nl := hI.2.2.2
  have h1 : f_X9_finishedAt sR a1 = some (0, (mo_i (mo_i sR 2 0) 2 1)) := by
    simp [f_X9_finishedAt, f_X9_isRequest, f_X9_refuse, f_X9_ofRequest, f_in_none, mo_i_1, mo_i_2, q0, q1, q6, q8, n0, n1, n2, n3, n4, n5, n6, n7, n9, n10, nl, pm_loop, pm_lst, pm_fu, nb_0_26, nb_0_18186, nb_1_26, nb_1_18186, nb_2_26, nb_2_18186, nb_3_26, nb_3_18186, nb_4_26, nb_4_18186, nb_5_26, nb_5_18186, nb_6_26, nb_6_18186, nb_7_26, nb_7_18186, nb_8_18186, nb_9_18186, nb_10_18186, tc_0, tc_1, tc_2, tc_3, tc_4, tc_5, tc_6, tc_7, tc_8, tc_9, tc_10, tc_42]
  exact ⟨_, _, rfl, h1, rfl, iv_N_ii hI⟩
theorem p_31_N {IE : t_IE} : ps_31_N_N iv_N IE := by
  intro j s0 sR a1 hj hI
  obtain ⟨q0, q1, q6, q8⟩ := rf_N_p hI.2
  obtain ⟨n0, n1, n2, n3, n4, n5, n6, n7, n9, n10⟩ := hI.2.2.1
  have nl := hI.2.2.2
  have h1 : f_X9_pending sR a1 = some (0, (mo_i (mo_i sR 2 0) 2 1)) := by
    simp [f_X9_pending, f_X9_isRequest, f_X9_refuse, f_X9_ofRequest, f_in_none, mo_i_1, mo_i_2, q0, q1, q6, q8, n0, n1, n2, n3, n4, n5, n6, n7, n9, n10, nl, pm_loop, pm_lst, pm_fu, nb_0_26, nb_0_18186, nb_1_26, nb_1_18186, nb_2_26, nb_2_18186, nb_3_26, nb_3_18186, nb_4_26, nb_4_18186, nb_5_26, nb_5_18186, nb_6_26, nb_6_18186, nb_7_26, nb_7_18186, nb_8_18186, nb_9_18186, nb_10_18186, tc_0, tc_1, tc_2, tc_3, tc_4, tc_5, tc_6, tc_7, tc_8, tc_9, tc_10, tc_42]
  exact ⟨_, _, rfl, h1, rfl, iv_N_ii hI⟩
theorem p_32_N {IE : t_IE} : ps_32_N_N iv_N IE := by
  intro j s0 sR a1 hj hI
  obtain ⟨q0, q1, q6, q8⟩ := rf_N_p hI.2
  obtain ⟨n0, n1, n2, n3, n4, n5, n6, n7, n9, n10⟩ := hI.2.2.1
  have nl := hI.2.2.2
  have h1 : f_X9_finished sR a1 = some (0, (mo_i (mo_i sR 2 0) 2 1)) := by
    simp [f_X9_finished, f_X9_tellClient, f_X9_isClient, f_X9_isTenant, f_X9_refuse, f_X9_ofTenant, f_in_none, mo_i_1, mo_i_2, q0, q1, q6, q8, n0, n1, n2, n3, n4, n5, n6, n7, n9, n10, nl, pm_loop, pm_lst, pm_fu, nb_0_26, nb_0_18186, nb_1_26, nb_1_18186, nb_2_26, nb_2_18186, nb_3_26, nb_3_18186, nb_4_26, nb_4_18186, nb_5_26, nb_5_18186, nb_6_26, nb_6_18186, nb_7_26, nb_7_18186, nb_8_18186, nb_9_18186, nb_10_18186, tc_0, tc_1, tc_2, tc_3, tc_4, tc_5, tc_6, tc_7, tc_8, tc_9, tc_10, tc_42]
  exact ⟨_, _, rfl, h1, rfl, iv_N_ii hI⟩
theorem p_33_N {IE : t_IE} : ps_33_N_N iv_N IE := by
  intro j s0 sR a1 hj hI
  obtain ⟨q0, q1, q6, q8⟩ := rf_N_p hI.2
  obtain ⟨n0, n1, n2, n3, n4, n5, n6, n7, n9, n10⟩ := hI.2.2.1
  have nl := hI.2.2.2
  have h1 : f_X9_totalLatency sR a1 = some (0, (mo_i (mo_i sR 2 0) 2 1)) := by
    simp [f_X9_totalLatency, f_X9_tellClient, f_X9_isClient, f_X9_isTenant, f_X9_refuse, f_X9_ofTenant, f_in_none, mo_i_1, mo_i_2, q0, q1, q6, q8, n0, n1, n2, n3, n4, n5, n6, n7, n9, n10, nl, pm_loop, pm_lst, pm_fu, nb_0_26, nb_0_18186, nb_1_26, nb_1_18186, nb_2_26, nb_2_18186, nb_3_26, nb_3_18186, nb_4_26, nb_4_18186, nb_5_26, nb_5_18186, nb_6_26, nb_6_18186, nb_7_26, nb_7_18186, nb_8_18186, nb_9_18186, nb_10_18186, tc_0, tc_1, tc_2, tc_3, tc_4, tc_5, tc_6, tc_7, tc_8, tc_9, tc_10, tc_42]
  exact ⟨_, _, rfl, h1, rfl, iv_N_ii hI⟩
theorem p_34_N {IE : t_IE} : ps_34_N_N iv_N IE := by
  intro j s0 sR a1 hj hI
  obtain ⟨q0, q1, q6, q8⟩ := rf_N_p hI.2
  obtain ⟨n0, n1, n2, n3, n4, n5, n6, n7, n9, n10⟩ := hI.2.2.1
  have nl := hI.2.2.2
  have h1 : f_X9_worstLatency sR a1 = some (0, (mo_i (mo_i sR 2 0) 2 1)) := by
    simp [f_X9_worstLatency, f_X9_tellClient, f_X9_isClient, f_X9_isTenant, f_X9_refuse, f_X9_ofTenant, f_in_none, mo_i_1, mo_i_2, q0, q1, q6, q8, n0, n1, n2, n3, n4, n5, n6, n7, n9, n10, nl, pm_loop, pm_lst, pm_fu, nb_0_26, nb_0_18186, nb_1_26, nb_1_18186, nb_2_26, nb_2_18186, nb_3_26, nb_3_18186, nb_4_26, nb_4_18186, nb_5_26, nb_5_18186, nb_6_26, nb_6_18186, nb_7_26, nb_7_18186, nb_8_18186, nb_9_18186, nb_10_18186, tc_0, tc_1, tc_2, tc_3, tc_4, tc_5, tc_6, tc_7, tc_8, tc_9, tc_10, tc_42]
  exact ⟨_, _, rfl, h1, rfl, iv_N_ii hI⟩
theorem p_35_N {IE : t_IE} : ps_35_N_N iv_N IE := by
  intro j s0 sR a1 hj hI
  obtain ⟨q0, q1, q6, q8⟩ := rf_N_p hI.2
  obtain ⟨n0, n1, n2, n3, n4, n5, n6, n7, n9, n10⟩ := hI.2.2.1
  have nl := hI.2.2.2
  have h1 : f_X9_late sR a1 = some (0, (mo_i (mo_i sR 2 0) 2 1)) := by
    simp [f_X9_late, f_X9_tellClient, f_X9_isClient, f_X9_isTenant, f_X9_refuse, f_X9_ofTenant, f_in_none, mo_i_1, mo_i_2, q0, q1, q6, q8, n0, n1, n2, n3, n4, n5, n6, n7, n9, n10, nl, pm_loop, pm_lst, pm_fu, nb_0_26, nb_0_18186, nb_1_26, nb_1_18186, nb_2_26, nb_2_18186, nb_3_26, nb_3_18186, nb_4_26, nb_4_18186, nb_5_26, nb_5_18186, nb_6_26, nb_6_18186, nb_7_26, nb_7_18186, nb_8_18186, nb_9_18186, nb_10_18186, tc_0, tc_1, tc_2, tc_3, tc_4, tc_5, tc_6, tc_7, tc_8, tc_9, tc_10, tc_42]
  exact ⟨_, _, rfl, h1, rfl, iv_N_ii hI⟩
theorem p_36_N {IE : t_IE} : ps_36_N_N iv_N IE := by
  intro j s0 sR a1 hj hI
  obtain ⟨q0, q1, q6, q8⟩ := rf_N_p hI.2
  obtain ⟨n0, n1, n2, n3, n4, n5, n6, n7, n9, n10⟩ := hI.2.2.1
  have nl := hI.2.2.2
  have h1 : f_X9_stripeState sR a1 = some (0, (mo_i (mo_i sR 2 0) 2 1)) := by
    simp [f_X9_stripeState, f_X9_isStripe, f_X9_refuse, f_X9_stateOf, f_in_none, mo_i_1, mo_i_2, q0, q1, q6, q8, n0, n1, n2, n3, n4, n5, n6, n7, n9, n10, nl, pm_loop, pm_lst, pm_fu, nb_0_26, nb_0_18186, nb_1_26, nb_1_18186, nb_2_26, nb_2_18186, nb_3_26, nb_3_18186, nb_4_26, nb_4_18186, nb_5_26, nb_5_18186, nb_6_26, nb_6_18186, nb_7_26, nb_7_18186, nb_8_18186, nb_9_18186, nb_10_18186, tc_0, tc_1, tc_2, tc_3, tc_4, tc_5, tc_6, tc_7, tc_8, tc_9, tc_10, tc_42]
  exact ⟨_, _, rfl, h1, rfl, iv_N_ii hI⟩
theorem p_37_N {IE : t_IE} : ps_37_N_N iv_N IE := by
  intro j s0 sR a1 a2 hj hI
  obtain ⟨q0, q1, q6, q8⟩ := rf_N_p hI.2
  obtain ⟨n0, n1, n2, n3, n4, n5, n6, n7, n9, n10⟩ := hI.2.2.1
  have nl := hI.2.2.2
  have h1 : f_X9_isHeld sR a1 a2 = some (0, (mo_i sR 2 1)) := by
    simp [f_X9_isHeld, f_X9_isArray, f_X9_isHeldOn, f_X9_disks, f_X9_isStripe, f_in_none, mo_i_1, mo_i_2, q0, q1, q6, q8, n0, n1, n2, n3, n4, n5, n6, n7, n9, n10, nl, pm_loop, pm_lst, pm_fu, nb_0_26, nb_0_18186, nb_1_26, nb_1_18186, nb_2_26, nb_2_18186, nb_3_26, nb_3_18186, nb_4_26, nb_4_18186, nb_5_26, nb_5_18186, nb_6_26, nb_6_18186, nb_7_26, nb_7_18186, nb_8_18186, nb_9_18186, nb_10_18186, tc_0, tc_1, tc_2, tc_3, tc_4, tc_5, tc_6, tc_7, tc_8, tc_9, tc_10, tc_42]
  exact ⟨_, _, rfl, h1, rfl, iv_N_i hI⟩
theorem p_38_N {IE : t_IE} : ps_38_N_N iv_N IE := by
  intro j s0 sR hj hI
  obtain ⟨q0, q1, q6, q8⟩ := rf_N_p hI.2
  obtain ⟨n0, n1, n2, n3, n4, n5, n6, n7, n9, n10⟩ := hI.2.2.1
  have nl := hI.2.2.2
  have h1 : f_X9_cachedUnits sR = some (0, (mo_i sR 2 0)) := by
    simp [f_X9_cachedUnits, f_X9_cached, lb_X9_cached_4, lb_X9_cached_16, f_X9_disks, f_X9_stateOf, f_X9_isHeldOn, f_X9_told, f_in_none, mo_i_1, mo_i_2, q0, q1, q6, q8, n0, n1, n2, n3, n4, n5, n6, n7, n9, n10, nl, pm_loop, pm_lst, pm_fu, nb_0_26, nb_0_18186, nb_1_26, nb_1_18186, nb_2_26, nb_2_18186, nb_3_26, nb_3_18186, nb_4_26, nb_4_18186, nb_5_26, nb_5_18186, nb_6_26, nb_6_18186, nb_7_26, nb_7_18186, nb_8_18186, nb_9_18186, nb_10_18186, tc_0, tc_1, tc_2, tc_3, tc_4, tc_5, tc_6, tc_7, tc_8, tc_9, tc_10, tc_42]
  exact ⟨_, _, rfl, h1, iv_N_i hI⟩
theorem p_39_N {IE : t_IE} : ps_39_N_N iv_N IE := by
  intro j s0 sR hj hI
  obtain ⟨q0, q1, q6, q8⟩ := rf_N_p hI.2
  obtain ⟨n0, n1, n2, n3, n4, n5, n6, n7, n9, n10⟩ := hI.2.2.1
  have nl := hI.2.2.2
  have h1 : f_X9_rebuiltCount sR = some (0, (mo_i sR 2 0)) := by
    simp [f_X9_rebuiltCount, f_X9_rebuilt, lb_X9_rebuilt_4, f_X9_stateOf, f_X9_told, f_in_none, mo_i_1, mo_i_2, q0, q1, q6, q8, n0, n1, n2, n3, n4, n5, n6, n7, n9, n10, nl, pm_loop, pm_lst, pm_fu, nb_0_26, nb_0_18186, nb_1_26, nb_1_18186, nb_2_26, nb_2_18186, nb_3_26, nb_3_18186, nb_4_26, nb_4_18186, nb_5_26, nb_5_18186, nb_6_26, nb_6_18186, nb_7_26, nb_7_18186, nb_8_18186, nb_9_18186, nb_10_18186, tc_0, tc_1, tc_2, tc_3, tc_4, tc_5, tc_6, tc_7, tc_8, tc_9, tc_10, tc_42]
  exact ⟨_, _, rfl, h1, iv_N_i hI⟩
theorem p_40_N {IE : t_IE} : ps_40_N_N iv_N IE := by
  intro j s0 sR hj hI
  obtain ⟨q0, q1, q6, q8⟩ := rf_N_p hI.2
  obtain ⟨n0, n1, n2, n3, n4, n5, n6, n7, n9, n10⟩ := hI.2.2.1
  have nl := hI.2.2.2
  have h1 : f_X9_completedAt sR = some ((-1), (mo_i sR 2 0)) := by
    simp [f_X9_completedAt, f_X9_told, f_in_none, mo_i_1, mo_i_2, q0, q1, q6, q8, n0, n1, n2, n3, n4, n5, n6, n7, n9, n10, nl, pm_loop, pm_lst, pm_fu, nb_0_26, nb_0_18186, nb_1_26, nb_1_18186, nb_2_26, nb_2_18186, nb_3_26, nb_3_18186, nb_4_26, nb_4_18186, nb_5_26, nb_5_18186, nb_6_26, nb_6_18186, nb_7_26, nb_7_18186, nb_8_18186, nb_9_18186, nb_10_18186, tc_0, tc_1, tc_2, tc_3, tc_4, tc_5, tc_6, tc_7, tc_8, tc_9, tc_10, tc_42]
  exact ⟨_, _, rfl, h1, iv_N_i hI⟩
theorem p_41_N {IE : t_IE} : ps_41_N_N iv_N IE := by
  intro j s0 sR hj hI
  obtain ⟨q0, q1, q6, q8⟩ := rf_N_p hI.2
  obtain ⟨n0, n1, n2, n3, n4, n5, n6, n7, n9, n10⟩ := hI.2.2.1
  have nl := hI.2.2.2
  have h1 : f_X9_savedReads sR = some (0, (mo_i sR 2 0)) := by
    simp [f_X9_savedReads, f_X9_told, f_in_none, mo_i_1, mo_i_2, q0, q1, q6, q8, n0, n1, n2, n3, n4, n5, n6, n7, n9, n10, nl, pm_loop, pm_lst, pm_fu, nb_0_26, nb_0_18186, nb_1_26, nb_1_18186, nb_2_26, nb_2_18186, nb_3_26, nb_3_18186, nb_4_26, nb_4_18186, nb_5_26, nb_5_18186, nb_6_26, nb_6_18186, nb_7_26, nb_7_18186, nb_8_18186, nb_9_18186, nb_10_18186, tc_0, tc_1, tc_2, tc_3, tc_4, tc_5, tc_6, tc_7, tc_8, tc_9, tc_10, tc_42]
  exact ⟨_, _, rfl, h1, iv_N_i hI⟩
theorem p_42_N {IE : t_IE} : ps_42_N_N iv_N IE := by
  intro j s0 sR hj hI
  obtain ⟨q0, q1, q6, q8⟩ := rf_N_p hI.2
  obtain ⟨n0, n1, n2, n3, n4, n5, n6, n7, n9, n10⟩ := hI.2.2.1
  have nl := hI.2.2.2
  have h1 : f_X9_piggybackedReads sR = some (0, (mo_i sR 2 0)) := by
    simp [f_X9_piggybackedReads, f_X9_told, f_in_none, mo_i_1, mo_i_2, q0, q1, q6, q8, n0, n1, n2, n3, n4, n5, n6, n7, n9, n10, nl, pm_loop, pm_lst, pm_fu, nb_0_26, nb_0_18186, nb_1_26, nb_1_18186, nb_2_26, nb_2_18186, nb_3_26, nb_3_18186, nb_4_26, nb_4_18186, nb_5_26, nb_5_18186, nb_6_26, nb_6_18186, nb_7_26, nb_7_18186, nb_8_18186, nb_9_18186, nb_10_18186, tc_0, tc_1, tc_2, tc_3, tc_4, tc_5, tc_6, tc_7, tc_8, tc_9, tc_10, tc_42]
  exact ⟨_, _, rfl, h1, iv_N_i hI⟩
theorem p_43_N {IE : t_IE} : ps_43_N_N iv_N IE := by
  intro j s0 sR a1 hj hI
  obtain ⟨q0, q1, q6, q8⟩ := rf_N_p hI.2
  obtain ⟨n0, n1, n2, n3, n4, n5, n6, n7, n9, n10⟩ := hI.2.2.1
  have nl := hI.2.2.2
  have h1 : f_X9_stripeDeadline sR a1 = some (0, (mo_i (mo_i sR 2 0) 2 1)) := by
    simp [f_X9_stripeDeadline, f_X9_isStripe, f_X9_refuse, f_X9_deadlineOf, f_in_none, mo_i_1, mo_i_2, q0, q1, q6, q8, n0, n1, n2, n3, n4, n5, n6, n7, n9, n10, nl, pm_loop, pm_lst, pm_fu, nb_0_26, nb_0_18186, nb_1_26, nb_1_18186, nb_2_26, nb_2_18186, nb_3_26, nb_3_18186, nb_4_26, nb_4_18186, nb_5_26, nb_5_18186, nb_6_26, nb_6_18186, nb_7_26, nb_7_18186, nb_8_18186, nb_9_18186, nb_10_18186, tc_0, tc_1, tc_2, tc_3, tc_4, tc_5, tc_6, tc_7, tc_8, tc_9, tc_10, tc_42]
  exact ⟨_, _, rfl, h1, rfl, iv_N_ii hI⟩
theorem p_45_N {IE : t_IE} : ps_45_N_N iv_N IE := by
  intro j s0 sR hj hI
  obtain ⟨q0, q1, q6, q8⟩ := rf_N_p hI.2
  obtain ⟨n0, n1, n2, n3, n4, n5, n6, n7, n9, n10⟩ := hI.2.2.1
  have nl := hI.2.2.2
  have h1 : f_X9_bound sR = some ((-1), (mo_i sR 2 0)) := by
    simp [f_X9_bound, f_X9_isArray, f_X9_shareOf, lb_X9_bound_43, f_X9_disks, lb_X9_bound_57, f_X9_isSurviving, f_X9_stateOf, f_X9_isHeldOn, f_in_none, mo_i_1, mo_i_2, q0, q1, q6, q8, n0, n1, n2, n3, n4, n5, n6, n7, n9, n10, nl, pm_loop, pm_lst, pm_fu, nb_0_26, nb_0_18186, nb_1_26, nb_1_18186, nb_2_26, nb_2_18186, nb_3_26, nb_3_18186, nb_4_26, nb_4_18186, nb_5_26, nb_5_18186, nb_6_26, nb_6_18186, nb_7_26, nb_7_18186, nb_8_18186, nb_9_18186, nb_10_18186, tc_0, tc_1, tc_2, tc_3, tc_4, tc_5, tc_6, tc_7, tc_8, tc_9, tc_10, tc_42]
  exact ⟨_, _, rfl, h1, iv_N_i hI⟩
