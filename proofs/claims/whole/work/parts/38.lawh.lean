/-! The law's helpers, by program (wip/whole/decl.py). -/
theorem px_l0 : Cond.classLink (pm_cn 10) 13 "java/lang/IllegalStateException" ∈ pm_ws := pm_mem2 (by decide +kernel) rfl
theorem px_c0 : Cond.castable "java/lang/IllegalStateException" "java/lang/IllegalStateException" ∈ pm_nb := List.mem_filter.mpr ⟨of_decide_eq_true (by decide +kernel), rfl⟩
theorem px_l1 : Cond.classLink (pm_cn 10) 19 "java/lang/IllegalArgumentException" ∈ pm_ws := pm_mem2 (by decide +kernel) rfl
theorem px_c1 : Cond.castable "java/lang/IllegalArgumentException" "java/lang/IllegalArgumentException" ∈ pm_nb := List.mem_filter.mpr ⟨of_decide_eq_true (by decide +kernel), rfl⟩
theorem px_l2 : Cond.classLink (pm_cn 10) 27 "java/util/NoSuchElementException" ∈ pm_ws := pm_mem2 (by decide +kernel) rfl
theorem px_c2 : Cond.castable "java/util/NoSuchElementException" "java/util/NoSuchElementException" ∈ pm_nb := List.mem_filter.mpr ⟨of_decide_eq_true (by decide +kernel), rfl⟩

def tb_L_feed : List pm_I := [(0, .aload 6, 0, 0), (2, .iconst 0, 2, 0), (3, .aload_n 0, 0, 0), (4, .iload_n 1, 0, 0), (5, .iload_n 2, 0, 0), (6, .iload_n 3, 0, 0), (7, .iload 4, 0, 0), (9, .iload 5, 0, 0), (11, .invokevirtual 7, 94, 0), (14, .i2l, 0, 0), (15, .lastore, 0, 0), (16, .goto 7, 23, 0), (19, .astore 7, 0, 0), (21, .iconst 1, 3, 0), (22, .ireturn, 0, 0), (23, .iconst 0, 2, 0), (24, .ireturn, 0, 0)]
theorem tk_L_feed : ∀ e ∈ tb_L_feed, pm_ck 309 e = true := List.all_eq_true.mp (by decide +kernel)

set_option maxRecDepth 20000 in
set_option maxHeartbeats 20000000 in
theorem e_L_feed_A {d : Nat} (hd : 7 ≤ d) {g1 g3 g4 g5 g6 g7 g8 g9 : List pm_E} {v1 v2 v3 : Value} {q : Nat × Nat × Nat} {s0 : cs_S} {a0 : Int32} {a1 : Int32} {a2 : Int32} {a3 : Int32} {a4 : Int32} {r : Int32} {z0 : cs_S} {o : Nat → Int64} (H : f_X8_feed_A s0 a0 a1 a2 a3 a4 = some (.inl r, z0)) : pm_Mt 309 d [.ref 0, .int a0, .int a1, .int a2, .int a3, .int a4, .ref 128] (cl_h (ct_x v1 v2 v3 s0) g1 [.inl (1, 1, .inr (.inl (o)))] g3 g4 g5 g6 g7 g8 g9 q) (.inl (some (.int 0))) (cl_h (ct_x v1 v2 v3 z0) g1 [.inl (1, 1, .inr (.inl (vp_updL o (Int32.toNatClampNeg 0) (Int32.toInt64 r))))] g3 g4 g5 g6 g7 g8 g9 q) := by
  refine pm_Mt.ofH (by decide) (by decide +kernel) rfl rfl ?_
  obtain ⟨d, rfl⟩ : ∃ d', d = d' + 1 := ⟨d - 1, by omega⟩
  refine pm_Wg.path (k := 8) (ds := []) (f' := (11, [some (.ref 0), some (.int a0), some (.int a1), some (.int a2), some (.int a3), some (.int a4), some (.ref 128), none], [.int a4, .int a3, .int a2, .int a1, .int a0, .ref 0, .int 0, .ref 128], cl_h (ct_x v1 v2 v3 s0) g1 [.inl (1, 1, .inr (.inl (o)))] g3 g4 g5 g6 g7 g8 g9 q)) tk_L_feed (by omega) rfl trivial ?_
  refine pm_Wg.callV (m' := 97) (ix := 7) (rr := 94) (pl := 763) (b := 0) (As := [.int a0, .int a1, .int a2, .int a3, .int a4]) (S := [.int 0, .ref 128]) (by decide) rfl (pm_dec tk_L_feed rfl) rfl rfl (by decide) rfl rfl (by decide) (Nat.le_of_ble_eq_true rfl) rfl (e_X8_feed_A (by omega) H) ?_
  refine pm_Wg.path (k := 4) (ds := []) (f' := (24, [some (.ref 0), some (.int a0), some (.int a1), some (.int a2), some (.int a3), some (.int a4), some (.ref 128), none], [.int 0], cl_h (ct_x v1 v2 v3 z0) g1 [.inl (1, 1, .inr (.inl (vp_updL o (Int32.toNatClampNeg 0) (Int32.toInt64 r))))] g3 g4 g5 g6 g7 g8 g9 q)) tk_L_feed (by omega) rfl ⟨pm_inb_vp (i := 0) (n := 1) rfl, trivial⟩ ?_
  exact pm_Wg.iret (pm_dec tk_L_feed rfl) rfl rfl
set_option maxRecDepth 20000 in
set_option maxHeartbeats 20000000 in
theorem e_L_feed_A_t0 {d : Nat} (hd : 7 ≤ d) {g1 g3 g4 g5 g6 g7 g8 g9 : List pm_E} {v1 v2 v3 : Value} {q : Nat × Nat × Nat} {s0 : cs_S} {a0 : Int32} {a1 : Int32} {a2 : Int32} {a3 : Int32} {a4 : Int32} {z0 : cs_S} {o : Nat → Int64} (H : f_X8_feed_A s0 a0 a1 a2 a3 a4 = some (.inr 0, z0)) : pm_Mt 309 d [.ref 0, .int a0, .int a1, .int a2, .int a3, .int a4, .ref 128] (cl_h (ct_x v1 v2 v3 s0) g1 [.inl (1, 1, .inr (.inl (o)))] g3 g4 g5 g6 g7 g8 g9 q) (.inl (some (.int 1))) (cl_h (ct_x v1 v2 v3 z0) g1 [.inl (1, 1, .inr (.inl (o)))] g3 g4 g5 g6 g7 g8 g9 (q.1, q.2.1 + 1, q.2.2 + 6)) := by
  refine pm_Mt.ofH (by decide) (by decide +kernel) rfl rfl ?_
  obtain ⟨d, rfl⟩ : ∃ d', d = d' + 1 := ⟨d - 1, by omega⟩
  refine pm_Wg.path (k := 8) (ds := []) (f' := (11, [some (.ref 0), some (.int a0), some (.int a1), some (.int a2), some (.int a3), some (.int a4), some (.ref 128), none], [.int a4, .int a3, .int a2, .int a1, .int a0, .ref 0, .int 0, .ref 128], cl_h (ct_x v1 v2 v3 s0) g1 [.inl (1, 1, .inr (.inl (o)))] g3 g4 g5 g6 g7 g8 g9 q)) tk_L_feed (by omega) rfl trivial ?_
  refine pm_Wg.callC (m' := 97) (ix := 7) (rr := 94) (pl := 763) (b := 0) (As := [.int a0, .int a1, .int a2, .int a3, .int a4]) (S := [.int 0, .ref 128]) (k := 7) (nx := 21) (pre := []) (x := (0, 16, 19, 13)) (suf := []) (by decide) rfl (pm_dec tk_L_feed rfl) rfl rfl (by decide) rfl rfl (by decide) (Nat.le_of_ble_eq_true rfl) rfl rfl (fun z hz => by cases hz) (by decide +kernel) (by decide) px_l0 px_c0 (Or.inr ⟨by decide +kernel, rfl⟩) (Nat.le_of_ble_eq_true rfl) (fun z hz => by cases hz) (e_X8_feed_A_t0 (by omega) H) ?_
  refine pm_Wg.path (k := 1) (ds := []) (f' := (22, [some (.ref 0), some (.int a0), some (.int a1), some (.int a2), some (.int a3), some (.int a4), some (.ref 128), none], [.int 1], cl_h (ct_x v1 v2 v3 z0) g1 [.inl (1, 1, .inr (.inl (o)))] g3 g4 g5 g6 g7 g8 g9 (q.1, q.2.1 + 1, q.2.2 + 6))) tk_L_feed (by omega) rfl trivial ?_
  exact pm_Wg.iret (pm_dec tk_L_feed rfl) rfl rfl

def tb_L_stripeOf : List pm_I := [(0, .aload_n 2, 0, 0), (1, .iconst 0, 2, 0), (2, .aload_n 0, 0, 0), (3, .iload_n 1, 0, 0), (4, .invokevirtual 24, 150, 0), (7, .i2l, 0, 0), (8, .lastore, 0, 0), (9, .goto 6, 15, 0), (12, .astore_n 3, 0, 0), (13, .iconst 1, 3, 0), (14, .ireturn, 0, 0), (15, .iconst 0, 2, 0), (16, .ireturn, 0, 0)]
theorem tk_L_stripeOf : ∀ e ∈ tb_L_stripeOf, pm_ck 312 e = true := List.all_eq_true.mp (by decide +kernel)

set_option maxRecDepth 20000 in
set_option maxHeartbeats 20000000 in
theorem e_L_stripeOf_N_t2 {d : Nat} (hd : 7 ≤ d) {g1 g3 g4 g5 g6 g7 g8 g9 : List pm_E} {v1 v3 : Value} {q : Nat × Nat × Nat} {s0 : cs_S} {a0 : Int32} {o : Nat → Int64} (H : f_X8_stripeOf_N s0 a0 = some (.inr 2)) : pm_Mt 312 d [.ref 0, .int a0, .ref 128] (cl_h (ct_x v1 (.null) v3 s0) g1 [.inl (1, 1, .inr (.inl (o)))] g3 g4 g5 g6 g7 g8 g9 q) (.inl (some (.int 1))) (cl_h (ct_x v1 (.null) v3 s0) g1 [.inl (1, 1, .inr (.inl (o)))] g3 g4 g5 g6 g7 g8 g9 (q.1, q.2.1 + 1, q.2.2 + 6)) := by
  refine pm_Mt.ofH (by decide) (by decide +kernel) rfl rfl ?_
  obtain ⟨d, rfl⟩ : ∃ d', d = d' + 1 := ⟨d - 1, by omega⟩
  refine pm_Wg.path (k := 4) (ds := []) (f' := (4, [some (.ref 0), some (.int a0), some (.ref 128), none], [.int a0, .ref 0, .int 0, .ref 128], cl_h (ct_x v1 (.null) v3 s0) g1 [.inl (1, 1, .inr (.inl (o)))] g3 g4 g5 g6 g7 g8 g9 q)) tk_L_stripeOf (by omega) rfl trivial ?_
  refine pm_Wg.callC (m' := 105) (ix := 24) (rr := 150) (pl := 1139) (b := 0) (As := [.int a0]) (S := [.int 0, .ref 128]) (k := 3) (nx := 13) (pre := []) (x := (0, 9, 12, 27)) (suf := []) (by decide) rfl (pm_dec tk_L_stripeOf rfl) rfl rfl (by decide) rfl rfl (by decide) (Nat.le_of_ble_eq_true rfl) rfl rfl (fun z hz => by cases hz) (by decide +kernel) (by decide) px_l2 px_c2 (Or.inl ⟨3, by decide +kernel, rfl, rfl⟩) (Nat.le_of_ble_eq_true rfl) (fun z hz => by cases hz) (e_X8_stripeOf_N_t2 (by omega) H) ?_
  refine pm_Wg.path (k := 1) (ds := []) (f' := (14, [some (.ref 0), some (.int a0), some (.ref 128), none], [.int 1], cl_h (ct_x v1 (.null) v3 s0) g1 [.inl (1, 1, .inr (.inl (o)))] g3 g4 g5 g6 g7 g8 g9 (q.1, q.2.1 + 1, q.2.2 + 6))) tk_L_stripeOf (by omega) rfl trivial ?_
  exact pm_Wg.iret (pm_dec tk_L_stripeOf rfl) rfl rfl

set_option maxRecDepth 20000 in
set_option maxHeartbeats 20000000 in
theorem e_L_stripeOf_E {d : Nat} (hd : 7 ≤ d) {g1 g3 g6 g7 g8 g9 : List pm_E} {v1 v3 : Value} {q : Nat × Nat × Nat} {s0 : cs_S} {s4 : cs_S} {s5 : cs_S} {a0 : Int32} {r : Int32} {o : Nat → Int64} (H : f_X8_stripeOf_E s0 s4 s5 a0 = some (.inl r)) : pm_Mt 312 d [.ref 0, .int a0, .ref 128] (cl_h (ct_x v1 (.ref 320) v3 s0) g1 [.inl (1, 1, .inr (.inl (o)))] g3 (ct_p4 s4) (ct_e5 (.ref 256) (.ref 384) s5) g6 g7 g8 g9 q) (.inl (some (.int 0))) (cl_h (ct_x v1 (.ref 320) v3 s0) g1 [.inl (1, 1, .inr (.inl (vp_updL o (Int32.toNatClampNeg 0) (Int32.toInt64 r))))] g3 (ct_p4 s4) (ct_e5 (.ref 256) (.ref 384) s5) g6 g7 g8 g9 q) := by
  refine pm_Mt.ofH (by decide) (by decide +kernel) rfl rfl ?_
  obtain ⟨d, rfl⟩ : ∃ d', d = d' + 1 := ⟨d - 1, by omega⟩
  refine pm_Wg.path (k := 4) (ds := []) (f' := (4, [some (.ref 0), some (.int a0), some (.ref 128), none], [.int a0, .ref 0, .int 0, .ref 128], cl_h (ct_x v1 (.ref 320) v3 s0) g1 [.inl (1, 1, .inr (.inl (o)))] g3 (ct_p4 s4) (ct_e5 (.ref 256) (.ref 384) s5) g6 g7 g8 g9 q)) tk_L_stripeOf (by omega) rfl trivial ?_
  refine pm_Wg.callV (m' := 105) (ix := 24) (rr := 150) (pl := 1139) (b := 0) (As := [.int a0]) (S := [.int 0, .ref 128]) (by decide) rfl (pm_dec tk_L_stripeOf rfl) rfl rfl (by decide) rfl rfl (by decide) (Nat.le_of_ble_eq_true rfl) rfl (e_X8_stripeOf_E (by omega) H) ?_
  refine pm_Wg.path (k := 4) (ds := []) (f' := (16, [some (.ref 0), some (.int a0), some (.ref 128), none], [.int 0], cl_h (ct_x v1 (.ref 320) v3 s0) g1 [.inl (1, 1, .inr (.inl (vp_updL o (Int32.toNatClampNeg 0) (Int32.toInt64 r))))] g3 (ct_p4 s4) (ct_e5 (.ref 256) (.ref 384) s5) g6 g7 g8 g9 q)) tk_L_stripeOf (by omega) rfl ⟨pm_inb_vp (i := 0) (n := 1) rfl, trivial⟩ ?_
  exact pm_Wg.iret (pm_dec tk_L_stripeOf rfl) rfl rfl
set_option maxRecDepth 20000 in
set_option maxHeartbeats 20000000 in
theorem e_L_stripeOf_E_t2 {d : Nat} (hd : 7 ≤ d) {g1 g3 g6 g7 g8 g9 : List pm_E} {v1 v3 : Value} {q : Nat × Nat × Nat} {s0 : cs_S} {s4 : cs_S} {s5 : cs_S} {a0 : Int32} {o : Nat → Int64} (H : f_X8_stripeOf_E s0 s4 s5 a0 = some (.inr 2)) : pm_Mt 312 d [.ref 0, .int a0, .ref 128] (cl_h (ct_x v1 (.ref 320) v3 s0) g1 [.inl (1, 1, .inr (.inl (o)))] g3 (ct_p4 s4) (ct_e5 (.ref 256) (.ref 384) s5) g6 g7 g8 g9 q) (.inl (some (.int 1))) (cl_h (ct_x v1 (.ref 320) v3 s0) g1 [.inl (1, 1, .inr (.inl (o)))] g3 (ct_p4 s4) (ct_e5 (.ref 256) (.ref 384) s5) g6 g7 g8 g9 (q.1, q.2.1 + 1, q.2.2 + 6)) := by
  refine pm_Mt.ofH (by decide) (by decide +kernel) rfl rfl ?_
  obtain ⟨d, rfl⟩ : ∃ d', d = d' + 1 := ⟨d - 1, by omega⟩
  refine pm_Wg.path (k := 4) (ds := []) (f' := (4, [some (.ref 0), some (.int a0), some (.ref 128), none], [.int a0, .ref 0, .int 0, .ref 128], cl_h (ct_x v1 (.ref 320) v3 s0) g1 [.inl (1, 1, .inr (.inl (o)))] g3 (ct_p4 s4) (ct_e5 (.ref 256) (.ref 384) s5) g6 g7 g8 g9 q)) tk_L_stripeOf (by omega) rfl trivial ?_
  refine pm_Wg.callC (m' := 105) (ix := 24) (rr := 150) (pl := 1139) (b := 0) (As := [.int a0]) (S := [.int 0, .ref 128]) (k := 3) (nx := 13) (pre := []) (x := (0, 9, 12, 27)) (suf := []) (by decide) rfl (pm_dec tk_L_stripeOf rfl) rfl rfl (by decide) rfl rfl (by decide) (Nat.le_of_ble_eq_true rfl) rfl rfl (fun z hz => by cases hz) (by decide +kernel) (by decide) px_l2 px_c2 (Or.inl ⟨3, by decide +kernel, rfl, rfl⟩) (Nat.le_of_ble_eq_true rfl) (fun z hz => by cases hz) (e_X8_stripeOf_E_t2 (by omega) H) ?_
  refine pm_Wg.path (k := 1) (ds := []) (f' := (14, [some (.ref 0), some (.int a0), some (.ref 128), none], [.int 1], cl_h (ct_x v1 (.ref 320) v3 s0) g1 [.inl (1, 1, .inr (.inl (o)))] g3 (ct_p4 s4) (ct_e5 (.ref 256) (.ref 384) s5) g6 g7 g8 g9 (q.1, q.2.1 + 1, q.2.2 + 6))) tk_L_stripeOf (by omega) rfl trivial ?_
  exact pm_Wg.iret (pm_dec tk_L_stripeOf rfl) rfl rfl

def tb_L_diskOf : List pm_I := [(0, .aload_n 2, 0, 0), (1, .iconst 0, 2, 0), (2, .aload_n 0, 0, 0), (3, .iload_n 1, 0, 0), (4, .invokevirtual 29, 155, 0), (7, .i2l, 0, 0), (8, .lastore, 0, 0), (9, .goto 6, 15, 0), (12, .astore_n 3, 0, 0), (13, .iconst 1, 3, 0), (14, .ireturn, 0, 0), (15, .iconst 0, 2, 0), (16, .ireturn, 0, 0)]
theorem tk_L_diskOf : ∀ e ∈ tb_L_diskOf, pm_ck 313 e = true := List.all_eq_true.mp (by decide +kernel)

set_option maxRecDepth 20000 in
set_option maxHeartbeats 20000000 in
theorem e_L_diskOf_N_t2 {d : Nat} (hd : 7 ≤ d) {g1 g3 g4 g5 g6 g7 g8 g9 : List pm_E} {v1 v3 : Value} {q : Nat × Nat × Nat} {s0 : cs_S} {a0 : Int32} {o : Nat → Int64} (H : f_X8_diskOf_N s0 a0 = some (.inr 2)) : pm_Mt 313 d [.ref 0, .int a0, .ref 128] (cl_h (ct_x v1 (.null) v3 s0) g1 [.inl (1, 1, .inr (.inl (o)))] g3 g4 g5 g6 g7 g8 g9 q) (.inl (some (.int 1))) (cl_h (ct_x v1 (.null) v3 s0) g1 [.inl (1, 1, .inr (.inl (o)))] g3 g4 g5 g6 g7 g8 g9 (q.1, q.2.1 + 1, q.2.2 + 6)) := by
  refine pm_Mt.ofH (by decide) (by decide +kernel) rfl rfl ?_
  obtain ⟨d, rfl⟩ : ∃ d', d = d' + 1 := ⟨d - 1, by omega⟩
  refine pm_Wg.path (k := 4) (ds := []) (f' := (4, [some (.ref 0), some (.int a0), some (.ref 128), none], [.int a0, .ref 0, .int 0, .ref 128], cl_h (ct_x v1 (.null) v3 s0) g1 [.inl (1, 1, .inr (.inl (o)))] g3 g4 g5 g6 g7 g8 g9 q)) tk_L_diskOf (by omega) rfl trivial ?_
  refine pm_Wg.callC (m' := 106) (ix := 29) (rr := 155) (pl := 1168) (b := 0) (As := [.int a0]) (S := [.int 0, .ref 128]) (k := 3) (nx := 13) (pre := []) (x := (0, 9, 12, 27)) (suf := []) (by decide) rfl (pm_dec tk_L_diskOf rfl) rfl rfl (by decide) rfl rfl (by decide) (Nat.le_of_ble_eq_true rfl) rfl rfl (fun z hz => by cases hz) (by decide +kernel) (by decide) px_l2 px_c2 (Or.inl ⟨3, by decide +kernel, rfl, rfl⟩) (Nat.le_of_ble_eq_true rfl) (fun z hz => by cases hz) (e_X8_diskOf_N_t2 (by omega) H) ?_
  refine pm_Wg.path (k := 1) (ds := []) (f' := (14, [some (.ref 0), some (.int a0), some (.ref 128), none], [.int 1], cl_h (ct_x v1 (.null) v3 s0) g1 [.inl (1, 1, .inr (.inl (o)))] g3 g4 g5 g6 g7 g8 g9 (q.1, q.2.1 + 1, q.2.2 + 6))) tk_L_diskOf (by omega) rfl trivial ?_
  exact pm_Wg.iret (pm_dec tk_L_diskOf rfl) rfl rfl

set_option maxRecDepth 20000 in
set_option maxHeartbeats 20000000 in
theorem e_L_diskOf_E {d : Nat} (hd : 7 ≤ d) {g1 g3 g6 g7 g8 g9 : List pm_E} {v1 v3 : Value} {q : Nat × Nat × Nat} {s0 : cs_S} {s4 : cs_S} {s5 : cs_S} {a0 : Int32} {r : Int32} {o : Nat → Int64} (H : f_X8_diskOf_E s0 s4 s5 a0 = some (.inl r)) : pm_Mt 313 d [.ref 0, .int a0, .ref 128] (cl_h (ct_x v1 (.ref 320) v3 s0) g1 [.inl (1, 1, .inr (.inl (o)))] g3 (ct_p4 s4) (ct_e5 (.ref 256) (.ref 384) s5) g6 g7 g8 g9 q) (.inl (some (.int 0))) (cl_h (ct_x v1 (.ref 320) v3 s0) g1 [.inl (1, 1, .inr (.inl (vp_updL o (Int32.toNatClampNeg 0) (Int32.toInt64 r))))] g3 (ct_p4 s4) (ct_e5 (.ref 256) (.ref 384) s5) g6 g7 g8 g9 q) := by
  refine pm_Mt.ofH (by decide) (by decide +kernel) rfl rfl ?_
  obtain ⟨d, rfl⟩ : ∃ d', d = d' + 1 := ⟨d - 1, by omega⟩
  refine pm_Wg.path (k := 4) (ds := []) (f' := (4, [some (.ref 0), some (.int a0), some (.ref 128), none], [.int a0, .ref 0, .int 0, .ref 128], cl_h (ct_x v1 (.ref 320) v3 s0) g1 [.inl (1, 1, .inr (.inl (o)))] g3 (ct_p4 s4) (ct_e5 (.ref 256) (.ref 384) s5) g6 g7 g8 g9 q)) tk_L_diskOf (by omega) rfl trivial ?_
  refine pm_Wg.callV (m' := 106) (ix := 29) (rr := 155) (pl := 1168) (b := 0) (As := [.int a0]) (S := [.int 0, .ref 128]) (by decide) rfl (pm_dec tk_L_diskOf rfl) rfl rfl (by decide) rfl rfl (by decide) (Nat.le_of_ble_eq_true rfl) rfl (e_X8_diskOf_E (by omega) H) ?_
  refine pm_Wg.path (k := 4) (ds := []) (f' := (16, [some (.ref 0), some (.int a0), some (.ref 128), none], [.int 0], cl_h (ct_x v1 (.ref 320) v3 s0) g1 [.inl (1, 1, .inr (.inl (vp_updL o (Int32.toNatClampNeg 0) (Int32.toInt64 r))))] g3 (ct_p4 s4) (ct_e5 (.ref 256) (.ref 384) s5) g6 g7 g8 g9 q)) tk_L_diskOf (by omega) rfl ⟨pm_inb_vp (i := 0) (n := 1) rfl, trivial⟩ ?_
  exact pm_Wg.iret (pm_dec tk_L_diskOf rfl) rfl rfl
set_option maxRecDepth 20000 in
set_option maxHeartbeats 20000000 in
theorem e_L_diskOf_E_t2 {d : Nat} (hd : 7 ≤ d) {g1 g3 g6 g7 g8 g9 : List pm_E} {v1 v3 : Value} {q : Nat × Nat × Nat} {s0 : cs_S} {s4 : cs_S} {s5 : cs_S} {a0 : Int32} {o : Nat → Int64} (H : f_X8_diskOf_E s0 s4 s5 a0 = some (.inr 2)) : pm_Mt 313 d [.ref 0, .int a0, .ref 128] (cl_h (ct_x v1 (.ref 320) v3 s0) g1 [.inl (1, 1, .inr (.inl (o)))] g3 (ct_p4 s4) (ct_e5 (.ref 256) (.ref 384) s5) g6 g7 g8 g9 q) (.inl (some (.int 1))) (cl_h (ct_x v1 (.ref 320) v3 s0) g1 [.inl (1, 1, .inr (.inl (o)))] g3 (ct_p4 s4) (ct_e5 (.ref 256) (.ref 384) s5) g6 g7 g8 g9 (q.1, q.2.1 + 1, q.2.2 + 6)) := by
  refine pm_Mt.ofH (by decide) (by decide +kernel) rfl rfl ?_
  obtain ⟨d, rfl⟩ : ∃ d', d = d' + 1 := ⟨d - 1, by omega⟩
  refine pm_Wg.path (k := 4) (ds := []) (f' := (4, [some (.ref 0), some (.int a0), some (.ref 128), none], [.int a0, .ref 0, .int 0, .ref 128], cl_h (ct_x v1 (.ref 320) v3 s0) g1 [.inl (1, 1, .inr (.inl (o)))] g3 (ct_p4 s4) (ct_e5 (.ref 256) (.ref 384) s5) g6 g7 g8 g9 q)) tk_L_diskOf (by omega) rfl trivial ?_
  refine pm_Wg.callC (m' := 106) (ix := 29) (rr := 155) (pl := 1168) (b := 0) (As := [.int a0]) (S := [.int 0, .ref 128]) (k := 3) (nx := 13) (pre := []) (x := (0, 9, 12, 27)) (suf := []) (by decide) rfl (pm_dec tk_L_diskOf rfl) rfl rfl (by decide) rfl rfl (by decide) (Nat.le_of_ble_eq_true rfl) rfl rfl (fun z hz => by cases hz) (by decide +kernel) (by decide) px_l2 px_c2 (Or.inl ⟨3, by decide +kernel, rfl, rfl⟩) (Nat.le_of_ble_eq_true rfl) (fun z hz => by cases hz) (e_X8_diskOf_E_t2 (by omega) H) ?_
  refine pm_Wg.path (k := 1) (ds := []) (f' := (14, [some (.ref 0), some (.int a0), some (.ref 128), none], [.int 1], cl_h (ct_x v1 (.ref 320) v3 s0) g1 [.inl (1, 1, .inr (.inl (o)))] g3 (ct_p4 s4) (ct_e5 (.ref 256) (.ref 384) s5) g6 g7 g8 g9 (q.1, q.2.1 + 1, q.2.2 + 6))) tk_L_diskOf (by omega) rfl trivial ?_
  exact pm_Wg.iret (pm_dec tk_L_diskOf rfl) rfl rfl

def tb_L_parityDisk : List pm_I := [(0, .aload_n 2, 0, 0), (1, .iconst 0, 2, 0), (2, .aload_n 0, 0, 0), (3, .iload_n 1, 0, 0), (4, .invokevirtual 32, 158, 0), (7, .i2l, 0, 0), (8, .lastore, 0, 0), (9, .goto 6, 15, 0), (12, .astore_n 3, 0, 0), (13, .iconst 1, 3, 0), (14, .ireturn, 0, 0), (15, .iconst 0, 2, 0), (16, .ireturn, 0, 0)]
theorem tk_L_parityDisk : ∀ e ∈ tb_L_parityDisk, pm_ck 314 e = true := List.all_eq_true.mp (by decide +kernel)

set_option maxRecDepth 20000 in
set_option maxHeartbeats 20000000 in
theorem e_L_parityDisk_N_t2 {d : Nat} (hd : 7 ≤ d) {g1 g3 g4 g5 g6 g7 g8 g9 : List pm_E} {v1 v3 : Value} {q : Nat × Nat × Nat} {s0 : cs_S} {a0 : Int32} {o : Nat → Int64} (H : f_X8_parityDisk_N s0 a0 = some (.inr 2)) : pm_Mt 314 d [.ref 0, .int a0, .ref 128] (cl_h (ct_x v1 (.null) v3 s0) g1 [.inl (1, 1, .inr (.inl (o)))] g3 g4 g5 g6 g7 g8 g9 q) (.inl (some (.int 1))) (cl_h (ct_x v1 (.null) v3 s0) g1 [.inl (1, 1, .inr (.inl (o)))] g3 g4 g5 g6 g7 g8 g9 (q.1, q.2.1 + 1, q.2.2 + 6)) := by
  refine pm_Mt.ofH (by decide) (by decide +kernel) rfl rfl ?_
  obtain ⟨d, rfl⟩ : ∃ d', d = d' + 1 := ⟨d - 1, by omega⟩
  refine pm_Wg.path (k := 4) (ds := []) (f' := (4, [some (.ref 0), some (.int a0), some (.ref 128), none], [.int a0, .ref 0, .int 0, .ref 128], cl_h (ct_x v1 (.null) v3 s0) g1 [.inl (1, 1, .inr (.inl (o)))] g3 g4 g5 g6 g7 g8 g9 q)) tk_L_parityDisk (by omega) rfl trivial ?_
  refine pm_Wg.callC (m' := 107) (ix := 32) (rr := 158) (pl := 1176) (b := 0) (As := [.int a0]) (S := [.int 0, .ref 128]) (k := 3) (nx := 13) (pre := []) (x := (0, 9, 12, 27)) (suf := []) (by decide) rfl (pm_dec tk_L_parityDisk rfl) rfl rfl (by decide) rfl rfl (by decide) (Nat.le_of_ble_eq_true rfl) rfl rfl (fun z hz => by cases hz) (by decide +kernel) (by decide) px_l2 px_c2 (Or.inl ⟨3, by decide +kernel, rfl, rfl⟩) (Nat.le_of_ble_eq_true rfl) (fun z hz => by cases hz) (e_X8_parityDisk_N_t2 (by omega) H) ?_
  refine pm_Wg.path (k := 1) (ds := []) (f' := (14, [some (.ref 0), some (.int a0), some (.ref 128), none], [.int 1], cl_h (ct_x v1 (.null) v3 s0) g1 [.inl (1, 1, .inr (.inl (o)))] g3 g4 g5 g6 g7 g8 g9 (q.1, q.2.1 + 1, q.2.2 + 6))) tk_L_parityDisk (by omega) rfl trivial ?_
  exact pm_Wg.iret (pm_dec tk_L_parityDisk rfl) rfl rfl

set_option maxRecDepth 20000 in
set_option maxHeartbeats 20000000 in
theorem e_L_parityDisk_E {d : Nat} (hd : 7 ≤ d) {g1 g3 g6 g7 g8 g9 : List pm_E} {v1 v3 : Value} {q : Nat × Nat × Nat} {s0 : cs_S} {s4 : cs_S} {s5 : cs_S} {a0 : Int32} {r : Int32} {o : Nat → Int64} (H : f_X8_parityDisk_E s0 s4 s5 a0 = some (.inl r)) : pm_Mt 314 d [.ref 0, .int a0, .ref 128] (cl_h (ct_x v1 (.ref 320) v3 s0) g1 [.inl (1, 1, .inr (.inl (o)))] g3 (ct_p4 s4) (ct_e5 (.ref 256) (.ref 384) s5) g6 g7 g8 g9 q) (.inl (some (.int 0))) (cl_h (ct_x v1 (.ref 320) v3 s0) g1 [.inl (1, 1, .inr (.inl (vp_updL o (Int32.toNatClampNeg 0) (Int32.toInt64 r))))] g3 (ct_p4 s4) (ct_e5 (.ref 256) (.ref 384) s5) g6 g7 g8 g9 q) := by
  refine pm_Mt.ofH (by decide) (by decide +kernel) rfl rfl ?_
  obtain ⟨d, rfl⟩ : ∃ d', d = d' + 1 := ⟨d - 1, by omega⟩
  refine pm_Wg.path (k := 4) (ds := []) (f' := (4, [some (.ref 0), some (.int a0), some (.ref 128), none], [.int a0, .ref 0, .int 0, .ref 128], cl_h (ct_x v1 (.ref 320) v3 s0) g1 [.inl (1, 1, .inr (.inl (o)))] g3 (ct_p4 s4) (ct_e5 (.ref 256) (.ref 384) s5) g6 g7 g8 g9 q)) tk_L_parityDisk (by omega) rfl trivial ?_
  refine pm_Wg.callV (m' := 107) (ix := 32) (rr := 158) (pl := 1176) (b := 0) (As := [.int a0]) (S := [.int 0, .ref 128]) (by decide) rfl (pm_dec tk_L_parityDisk rfl) rfl rfl (by decide) rfl rfl (by decide) (Nat.le_of_ble_eq_true rfl) rfl (e_X8_parityDisk_E (by omega) H) ?_
  refine pm_Wg.path (k := 4) (ds := []) (f' := (16, [some (.ref 0), some (.int a0), some (.ref 128), none], [.int 0], cl_h (ct_x v1 (.ref 320) v3 s0) g1 [.inl (1, 1, .inr (.inl (vp_updL o (Int32.toNatClampNeg 0) (Int32.toInt64 r))))] g3 (ct_p4 s4) (ct_e5 (.ref 256) (.ref 384) s5) g6 g7 g8 g9 q)) tk_L_parityDisk (by omega) rfl ⟨pm_inb_vp (i := 0) (n := 1) rfl, trivial⟩ ?_
  exact pm_Wg.iret (pm_dec tk_L_parityDisk rfl) rfl rfl
set_option maxRecDepth 20000 in
set_option maxHeartbeats 20000000 in
theorem e_L_parityDisk_E_t2 {d : Nat} (hd : 7 ≤ d) {g1 g3 g6 g7 g8 g9 : List pm_E} {v1 v3 : Value} {q : Nat × Nat × Nat} {s0 : cs_S} {s4 : cs_S} {s5 : cs_S} {a0 : Int32} {o : Nat → Int64} (H : f_X8_parityDisk_E s0 s4 s5 a0 = some (.inr 2)) : pm_Mt 314 d [.ref 0, .int a0, .ref 128] (cl_h (ct_x v1 (.ref 320) v3 s0) g1 [.inl (1, 1, .inr (.inl (o)))] g3 (ct_p4 s4) (ct_e5 (.ref 256) (.ref 384) s5) g6 g7 g8 g9 q) (.inl (some (.int 1))) (cl_h (ct_x v1 (.ref 320) v3 s0) g1 [.inl (1, 1, .inr (.inl (o)))] g3 (ct_p4 s4) (ct_e5 (.ref 256) (.ref 384) s5) g6 g7 g8 g9 (q.1, q.2.1 + 1, q.2.2 + 6)) := by
  refine pm_Mt.ofH (by decide) (by decide +kernel) rfl rfl ?_
  obtain ⟨d, rfl⟩ : ∃ d', d = d' + 1 := ⟨d - 1, by omega⟩
  refine pm_Wg.path (k := 4) (ds := []) (f' := (4, [some (.ref 0), some (.int a0), some (.ref 128), none], [.int a0, .ref 0, .int 0, .ref 128], cl_h (ct_x v1 (.ref 320) v3 s0) g1 [.inl (1, 1, .inr (.inl (o)))] g3 (ct_p4 s4) (ct_e5 (.ref 256) (.ref 384) s5) g6 g7 g8 g9 q)) tk_L_parityDisk (by omega) rfl trivial ?_
  refine pm_Wg.callC (m' := 107) (ix := 32) (rr := 158) (pl := 1176) (b := 0) (As := [.int a0]) (S := [.int 0, .ref 128]) (k := 3) (nx := 13) (pre := []) (x := (0, 9, 12, 27)) (suf := []) (by decide) rfl (pm_dec tk_L_parityDisk rfl) rfl rfl (by decide) rfl rfl (by decide) (Nat.le_of_ble_eq_true rfl) rfl rfl (fun z hz => by cases hz) (by decide +kernel) (by decide) px_l2 px_c2 (Or.inl ⟨3, by decide +kernel, rfl, rfl⟩) (Nat.le_of_ble_eq_true rfl) (fun z hz => by cases hz) (e_X8_parityDisk_E_t2 (by omega) H) ?_
  refine pm_Wg.path (k := 1) (ds := []) (f' := (14, [some (.ref 0), some (.int a0), some (.ref 128), none], [.int 1], cl_h (ct_x v1 (.ref 320) v3 s0) g1 [.inl (1, 1, .inr (.inl (o)))] g3 (ct_p4 s4) (ct_e5 (.ref 256) (.ref 384) s5) g6 g7 g8 g9 (q.1, q.2.1 + 1, q.2.2 + 6))) tk_L_parityDisk (by omega) rfl trivial ?_
  exact pm_Wg.iret (pm_dec tk_L_parityDisk rfl) rfl rfl

def tb_L_share : List pm_I := [(0, .aload_n 3, 0, 0), (1, .iconst 0, 2, 0), (2, .aload_n 0, 0, 0), (3, .iload_n 1, 0, 0), (4, .iload_n 2, 0, 0), (5, .invokevirtual 35, 162, 0), (8, .i2l, 0, 0), (9, .lastore, 0, 0), (10, .goto 11, 21, 0), (13, .astore 4, 0, 0), (15, .iconst 1, 3, 0), (16, .ireturn, 0, 0), (17, .astore 4, 0, 0), (19, .iconst 2, 4, 0), (20, .ireturn, 0, 0), (21, .iconst 0, 2, 0), (22, .ireturn, 0, 0)]
theorem tk_L_share : ∀ e ∈ tb_L_share, pm_ck 315 e = true := List.all_eq_true.mp (by decide +kernel)

set_option maxRecDepth 20000 in
set_option maxHeartbeats 20000000 in
theorem e_L_share_N_t2 {d : Nat} (hd : 7 ≤ d) {g1 g3 g4 g5 g6 g7 g8 g9 : List pm_E} {v1 v3 : Value} {q : Nat × Nat × Nat} {s0 : cs_S} {a0 : Int32} {a1 : Int32} {o : Nat → Int64} (H : f_X8_share_N s0 a0 a1 = some (.inr 2)) : pm_Mt 315 d [.ref 0, .int a0, .int a1, .ref 128] (cl_h (ct_x v1 (.null) v3 s0) g1 [.inl (1, 1, .inr (.inl (o)))] g3 g4 g5 g6 g7 g8 g9 q) (.inl (some (.int 1))) (cl_h (ct_x v1 (.null) v3 s0) g1 [.inl (1, 1, .inr (.inl (o)))] g3 g4 g5 g6 g7 g8 g9 (q.1, q.2.1 + 1, q.2.2 + 6)) := by
  refine pm_Mt.ofH (by decide) (by decide +kernel) rfl rfl ?_
  obtain ⟨d, rfl⟩ : ∃ d', d = d' + 1 := ⟨d - 1, by omega⟩
  refine pm_Wg.path (k := 5) (ds := []) (f' := (5, [some (.ref 0), some (.int a0), some (.int a1), some (.ref 128), none], [.int a1, .int a0, .ref 0, .int 0, .ref 128], cl_h (ct_x v1 (.null) v3 s0) g1 [.inl (1, 1, .inr (.inl (o)))] g3 g4 g5 g6 g7 g8 g9 q)) tk_L_share (by omega) rfl trivial ?_
  refine pm_Wg.callC (m' := 108) (ix := 35) (rr := 162) (pl := 1189) (b := 0) (As := [.int a0, .int a1]) (S := [.int 0, .ref 128]) (k := 4) (nx := 15) (pre := []) (x := (0, 10, 13, 27)) (suf := [(0, 10, 17, 19)]) (by decide) rfl (pm_dec tk_L_share rfl) rfl rfl (by decide) rfl rfl (by decide) (Nat.le_of_ble_eq_true rfl) rfl rfl (fun z hz => by cases hz) (by decide +kernel) (by decide) px_l2 px_c2 (Or.inr ⟨by decide +kernel, rfl⟩) (Nat.le_of_ble_eq_true rfl) (fun z hz => by cases hz) (e_X8_share_N_t2 (by omega) H) ?_
  refine pm_Wg.path (k := 1) (ds := []) (f' := (16, [some (.ref 0), some (.int a0), some (.int a1), some (.ref 128), none], [.int 1], cl_h (ct_x v1 (.null) v3 s0) g1 [.inl (1, 1, .inr (.inl (o)))] g3 g4 g5 g6 g7 g8 g9 (q.1, q.2.1 + 1, q.2.2 + 6))) tk_L_share (by omega) rfl trivial ?_
  exact pm_Wg.iret (pm_dec tk_L_share rfl) rfl rfl

set_option maxRecDepth 20000 in
set_option maxHeartbeats 20000000 in
theorem e_L_share_E {d : Nat} (hd : 7 ≤ d) {g1 g3 g6 g7 g8 g9 : List pm_E} {v1 v3 : Value} {q : Nat × Nat × Nat} {s0 : cs_S} {s4 : cs_S} {s5 : cs_S} {a0 : Int32} {a1 : Int32} {r : Int32} {o : Nat → Int64} (H : f_X8_share_E s0 s4 s5 a0 a1 = some (.inl r)) : pm_Mt 315 d [.ref 0, .int a0, .int a1, .ref 128] (cl_h (ct_x v1 (.ref 320) v3 s0) g1 [.inl (1, 1, .inr (.inl (o)))] g3 (ct_p4 s4) (ct_e5 (.ref 256) (.ref 384) s5) g6 g7 g8 g9 q) (.inl (some (.int 0))) (cl_h (ct_x v1 (.ref 320) v3 s0) g1 [.inl (1, 1, .inr (.inl (vp_updL o (Int32.toNatClampNeg 0) (Int32.toInt64 r))))] g3 (ct_p4 s4) (ct_e5 (.ref 256) (.ref 384) s5) g6 g7 g8 g9 q) := by
  refine pm_Mt.ofH (by decide) (by decide +kernel) rfl rfl ?_
  obtain ⟨d, rfl⟩ : ∃ d', d = d' + 1 := ⟨d - 1, by omega⟩
  refine pm_Wg.path (k := 5) (ds := []) (f' := (5, [some (.ref 0), some (.int a0), some (.int a1), some (.ref 128), none], [.int a1, .int a0, .ref 0, .int 0, .ref 128], cl_h (ct_x v1 (.ref 320) v3 s0) g1 [.inl (1, 1, .inr (.inl (o)))] g3 (ct_p4 s4) (ct_e5 (.ref 256) (.ref 384) s5) g6 g7 g8 g9 q)) tk_L_share (by omega) rfl trivial ?_
  refine pm_Wg.callV (m' := 108) (ix := 35) (rr := 162) (pl := 1189) (b := 0) (As := [.int a0, .int a1]) (S := [.int 0, .ref 128]) (by decide) rfl (pm_dec tk_L_share rfl) rfl rfl (by decide) rfl rfl (by decide) (Nat.le_of_ble_eq_true rfl) rfl (e_X8_share_E (by omega) H) ?_
  refine pm_Wg.path (k := 4) (ds := []) (f' := (22, [some (.ref 0), some (.int a0), some (.int a1), some (.ref 128), none], [.int 0], cl_h (ct_x v1 (.ref 320) v3 s0) g1 [.inl (1, 1, .inr (.inl (vp_updL o (Int32.toNatClampNeg 0) (Int32.toInt64 r))))] g3 (ct_p4 s4) (ct_e5 (.ref 256) (.ref 384) s5) g6 g7 g8 g9 q)) tk_L_share (by omega) rfl ⟨pm_inb_vp (i := 0) (n := 1) rfl, trivial⟩ ?_
  exact pm_Wg.iret (pm_dec tk_L_share rfl) rfl rfl
set_option maxRecDepth 20000 in
set_option maxHeartbeats 20000000 in
theorem e_L_share_E_t1 {d : Nat} (hd : 7 ≤ d) {g1 g3 g6 g7 g8 g9 : List pm_E} {v1 v3 : Value} {q : Nat × Nat × Nat} {s0 : cs_S} {s4 : cs_S} {s5 : cs_S} {a0 : Int32} {a1 : Int32} {o : Nat → Int64} (H : f_X8_share_E s0 s4 s5 a0 a1 = some (.inr 1)) : pm_Mt 315 d [.ref 0, .int a0, .int a1, .ref 128] (cl_h (ct_x v1 (.ref 320) v3 s0) g1 [.inl (1, 1, .inr (.inl (o)))] g3 (ct_p4 s4) (ct_e5 (.ref 256) (.ref 384) s5) g6 g7 g8 g9 q) (.inl (some (.int 2))) (cl_h (ct_x v1 (.ref 320) v3 s0) g1 [.inl (1, 1, .inr (.inl (o)))] g3 (ct_p4 s4) (ct_e5 (.ref 256) (.ref 384) s5) g6 g7 g8 g9 (q.1, q.2.1 + 1, q.2.2 + 6)) := by
  refine pm_Mt.ofH (by decide) (by decide +kernel) rfl rfl ?_
  obtain ⟨d, rfl⟩ : ∃ d', d = d' + 1 := ⟨d - 1, by omega⟩
  refine pm_Wg.path (k := 5) (ds := []) (f' := (5, [some (.ref 0), some (.int a0), some (.int a1), some (.ref 128), none], [.int a1, .int a0, .ref 0, .int 0, .ref 128], cl_h (ct_x v1 (.ref 320) v3 s0) g1 [.inl (1, 1, .inr (.inl (o)))] g3 (ct_p4 s4) (ct_e5 (.ref 256) (.ref 384) s5) g6 g7 g8 g9 q)) tk_L_share (by omega) rfl trivial ?_
  refine pm_Wg.callC (m' := 108) (ix := 35) (rr := 162) (pl := 1189) (b := 0) (As := [.int a0, .int a1]) (S := [.int 0, .ref 128]) (k := 4) (nx := 19) (pre := [(0, 10, 13, 27)]) (x := (0, 10, 17, 19)) (suf := []) (by decide) rfl (pm_dec tk_L_share rfl) rfl rfl (by decide) rfl rfl (by decide) (Nat.le_of_ble_eq_true rfl) rfl rfl (fun z hz => by
    rcases List.mem_cons.mp hz with hz0 | hz
    · subst hz0; exact ⟨by decide, _, px_l2, by decide +kernel⟩
    cases hz) (by decide +kernel) (by decide) px_l1 px_c1 (Or.inr ⟨by decide +kernel, rfl⟩) (Nat.le_of_ble_eq_true rfl) (fun z hz => by cases hz) (e_X8_share_E_t1 (by omega) H) ?_
  refine pm_Wg.path (k := 1) (ds := []) (f' := (20, [some (.ref 0), some (.int a0), some (.int a1), some (.ref 128), none], [.int 2], cl_h (ct_x v1 (.ref 320) v3 s0) g1 [.inl (1, 1, .inr (.inl (o)))] g3 (ct_p4 s4) (ct_e5 (.ref 256) (.ref 384) s5) g6 g7 g8 g9 (q.1, q.2.1 + 1, q.2.2 + 6))) tk_L_share (by omega) rfl trivial ?_
  exact pm_Wg.iret (pm_dec tk_L_share rfl) rfl rfl
set_option maxRecDepth 20000 in
set_option maxHeartbeats 20000000 in
theorem e_L_share_E_t2 {d : Nat} (hd : 7 ≤ d) {g1 g3 g6 g7 g8 g9 : List pm_E} {v1 v3 : Value} {q : Nat × Nat × Nat} {s0 : cs_S} {s4 : cs_S} {s5 : cs_S} {a0 : Int32} {a1 : Int32} {o : Nat → Int64} (H : f_X8_share_E s0 s4 s5 a0 a1 = some (.inr 2)) : pm_Mt 315 d [.ref 0, .int a0, .int a1, .ref 128] (cl_h (ct_x v1 (.ref 320) v3 s0) g1 [.inl (1, 1, .inr (.inl (o)))] g3 (ct_p4 s4) (ct_e5 (.ref 256) (.ref 384) s5) g6 g7 g8 g9 q) (.inl (some (.int 1))) (cl_h (ct_x v1 (.ref 320) v3 s0) g1 [.inl (1, 1, .inr (.inl (o)))] g3 (ct_p4 s4) (ct_e5 (.ref 256) (.ref 384) s5) g6 g7 g8 g9 (q.1, q.2.1 + 1, q.2.2 + 6)) := by
  refine pm_Mt.ofH (by decide) (by decide +kernel) rfl rfl ?_
  obtain ⟨d, rfl⟩ : ∃ d', d = d' + 1 := ⟨d - 1, by omega⟩
  refine pm_Wg.path (k := 5) (ds := []) (f' := (5, [some (.ref 0), some (.int a0), some (.int a1), some (.ref 128), none], [.int a1, .int a0, .ref 0, .int 0, .ref 128], cl_h (ct_x v1 (.ref 320) v3 s0) g1 [.inl (1, 1, .inr (.inl (o)))] g3 (ct_p4 s4) (ct_e5 (.ref 256) (.ref 384) s5) g6 g7 g8 g9 q)) tk_L_share (by omega) rfl trivial ?_
  refine pm_Wg.callC (m' := 108) (ix := 35) (rr := 162) (pl := 1189) (b := 0) (As := [.int a0, .int a1]) (S := [.int 0, .ref 128]) (k := 4) (nx := 15) (pre := []) (x := (0, 10, 13, 27)) (suf := [(0, 10, 17, 19)]) (by decide) rfl (pm_dec tk_L_share rfl) rfl rfl (by decide) rfl rfl (by decide) (Nat.le_of_ble_eq_true rfl) rfl rfl (fun z hz => by cases hz) (by decide +kernel) (by decide) px_l2 px_c2 (Or.inr ⟨by decide +kernel, rfl⟩) (Nat.le_of_ble_eq_true rfl) (fun z hz => by cases hz) (e_X8_share_E_t2 (by omega) H) ?_
  refine pm_Wg.path (k := 1) (ds := []) (f' := (16, [some (.ref 0), some (.int a0), some (.int a1), some (.ref 128), none], [.int 1], cl_h (ct_x v1 (.ref 320) v3 s0) g1 [.inl (1, 1, .inr (.inl (o)))] g3 (ct_p4 s4) (ct_e5 (.ref 256) (.ref 384) s5) g6 g7 g8 g9 (q.1, q.2.1 + 1, q.2.2 + 6))) tk_L_share (by omega) rfl trivial ?_
  exact pm_Wg.iret (pm_dec tk_L_share rfl) rfl rfl

def tb_L_submit : List pm_I := [(0, .aload 5, 0, 0), (2, .iconst 0, 2, 0), (3, .aload_n 0, 0, 0), (4, .iload_n 1, 0, 0), (5, .iload_n 2, 0, 0), (6, .iload_n 3, 0, 0), (7, .iload 4, 0, 0), (9, .invokevirtual 39, 165, 0), (12, .i2l, 0, 0), (13, .lastore, 0, 0), (14, .goto 15, 29, 0), (17, .astore 6, 0, 0), (19, .iconst 1, 3, 0), (20, .ireturn, 0, 0), (21, .astore 6, 0, 0), (23, .iconst 2, 4, 0), (24, .ireturn, 0, 0), (25, .astore 6, 0, 0), (27, .iconst 3, 5, 0), (28, .ireturn, 0, 0), (29, .iconst 0, 2, 0), (30, .ireturn, 0, 0)]
theorem tk_L_submit : ∀ e ∈ tb_L_submit, pm_ck 316 e = true := List.all_eq_true.mp (by decide +kernel)

set_option maxRecDepth 20000 in
set_option maxHeartbeats 20000000 in
theorem e_L_submit_N_t2 {d : Nat} (hd : 7 ≤ d) {g1 g3 g4 g5 g6 g7 g8 g9 : List pm_E} {v1 v3 : Value} {q : Nat × Nat × Nat} {s0 : cs_S} {a0 : Int32} {a1 : Int32} {a2 : Int32} {a3 : Int32} {o : Nat → Int64} (H : f_X8_submit_N s0 a0 a1 a2 a3 = some (.inr 2)) : pm_Mt 316 d [.ref 0, .int a0, .int a1, .int a2, .int a3, .ref 128] (cl_h (ct_x v1 (.null) v3 s0) g1 [.inl (1, 1, .inr (.inl (o)))] g3 g4 g5 g6 g7 g8 g9 q) (.inl (some (.int 1))) (cl_h (ct_x v1 (.null) v3 s0) g1 [.inl (1, 1, .inr (.inl (o)))] g3 g4 g5 g6 g7 g8 g9 (q.1, q.2.1 + 1, q.2.2 + 6)) := by
  refine pm_Mt.ofH (by decide) (by decide +kernel) rfl rfl ?_
  obtain ⟨d, rfl⟩ : ∃ d', d = d' + 1 := ⟨d - 1, by omega⟩
  refine pm_Wg.path (k := 7) (ds := []) (f' := (9, [some (.ref 0), some (.int a0), some (.int a1), some (.int a2), some (.int a3), some (.ref 128), none], [.int a3, .int a2, .int a1, .int a0, .ref 0, .int 0, .ref 128], cl_h (ct_x v1 (.null) v3 s0) g1 [.inl (1, 1, .inr (.inl (o)))] g3 g4 g5 g6 g7 g8 g9 q)) tk_L_submit (by omega) rfl trivial ?_
  refine pm_Wg.callC (m' := 109) (ix := 39) (rr := 165) (pl := 1202) (b := 0) (As := [.int a0, .int a1, .int a2, .int a3]) (S := [.int 0, .ref 128]) (k := 6) (nx := 19) (pre := []) (x := (0, 14, 17, 27)) (suf := [(0, 14, 21, 19), (0, 14, 25, 13)]) (by decide) rfl (pm_dec tk_L_submit rfl) rfl rfl (by decide) rfl rfl (by decide) (Nat.le_of_ble_eq_true rfl) rfl rfl (fun z hz => by cases hz) (by decide +kernel) (by decide) px_l2 px_c2 (Or.inr ⟨by decide +kernel, rfl⟩) (Nat.le_of_ble_eq_true rfl) (fun z hz => by cases hz) (e_X8_submit_N_t2 (by omega) H) ?_
  refine pm_Wg.path (k := 1) (ds := []) (f' := (20, [some (.ref 0), some (.int a0), some (.int a1), some (.int a2), some (.int a3), some (.ref 128), none], [.int 1], cl_h (ct_x v1 (.null) v3 s0) g1 [.inl (1, 1, .inr (.inl (o)))] g3 g4 g5 g6 g7 g8 g9 (q.1, q.2.1 + 1, q.2.2 + 6))) tk_L_submit (by omega) rfl trivial ?_
  exact pm_Wg.iret (pm_dec tk_L_submit rfl) rfl rfl

set_option maxRecDepth 20000 in
set_option maxHeartbeats 20000000 in
theorem e_L_submit_E {d : Nat} (hd : 7 ≤ d) {g1 g3 g6 g7 g8 g9 : List pm_E} {v1 v3 : Value} {q : Nat × Nat × Nat} {s0 : cs_S} {s4 : cs_S} {s5 : cs_S} {a0 : Int32} {a1 : Int32} {a2 : Int32} {a3 : Int32} {r : Int32} {z5 : cs_S} {o : Nat → Int64} (H : f_X8_submit_E s0 s4 s5 a0 a1 a2 a3 = some (.inl r, z5)) : pm_Mt 316 d [.ref 0, .int a0, .int a1, .int a2, .int a3, .ref 128] (cl_h (ct_x v1 (.ref 320) v3 s0) g1 [.inl (1, 1, .inr (.inl (o)))] g3 (ct_p4 s4) (ct_e5 (.ref 256) (.ref 384) s5) g6 g7 g8 g9 q) (.inl (some (.int 0))) (cl_h (ct_x v1 (.ref 320) v3 s0) g1 [.inl (1, 1, .inr (.inl (vp_updL o (Int32.toNatClampNeg 0) (Int32.toInt64 r))))] g3 (ct_p4 s4) (ct_e5 (.ref 256) (.ref 384) z5) g6 g7 g8 g9 q) := by
  refine pm_Mt.ofH (by decide) (by decide +kernel) rfl rfl ?_
  obtain ⟨d, rfl⟩ : ∃ d', d = d' + 1 := ⟨d - 1, by omega⟩
  refine pm_Wg.path (k := 7) (ds := []) (f' := (9, [some (.ref 0), some (.int a0), some (.int a1), some (.int a2), some (.int a3), some (.ref 128), none], [.int a3, .int a2, .int a1, .int a0, .ref 0, .int 0, .ref 128], cl_h (ct_x v1 (.ref 320) v3 s0) g1 [.inl (1, 1, .inr (.inl (o)))] g3 (ct_p4 s4) (ct_e5 (.ref 256) (.ref 384) s5) g6 g7 g8 g9 q)) tk_L_submit (by omega) rfl trivial ?_
  refine pm_Wg.callV (m' := 109) (ix := 39) (rr := 165) (pl := 1202) (b := 0) (As := [.int a0, .int a1, .int a2, .int a3]) (S := [.int 0, .ref 128]) (by decide) rfl (pm_dec tk_L_submit rfl) rfl rfl (by decide) rfl rfl (by decide) (Nat.le_of_ble_eq_true rfl) rfl (e_X8_submit_E (by omega) H) ?_
  refine pm_Wg.path (k := 4) (ds := []) (f' := (30, [some (.ref 0), some (.int a0), some (.int a1), some (.int a2), some (.int a3), some (.ref 128), none], [.int 0], cl_h (ct_x v1 (.ref 320) v3 s0) g1 [.inl (1, 1, .inr (.inl (vp_updL o (Int32.toNatClampNeg 0) (Int32.toInt64 r))))] g3 (ct_p4 s4) (ct_e5 (.ref 256) (.ref 384) z5) g6 g7 g8 g9 q)) tk_L_submit (by omega) rfl ⟨pm_inb_vp (i := 0) (n := 1) rfl, trivial⟩ ?_
  exact pm_Wg.iret (pm_dec tk_L_submit rfl) rfl rfl
set_option maxRecDepth 20000 in
set_option maxHeartbeats 20000000 in
theorem e_L_submit_E_t0 {d : Nat} (hd : 7 ≤ d) {g1 g3 g6 g7 g8 g9 : List pm_E} {v1 v3 : Value} {q : Nat × Nat × Nat} {s0 : cs_S} {s4 : cs_S} {s5 : cs_S} {a0 : Int32} {a1 : Int32} {a2 : Int32} {a3 : Int32} {z5 : cs_S} {o : Nat → Int64} (H : f_X8_submit_E s0 s4 s5 a0 a1 a2 a3 = some (.inr 0, z5)) : pm_Mt 316 d [.ref 0, .int a0, .int a1, .int a2, .int a3, .ref 128] (cl_h (ct_x v1 (.ref 320) v3 s0) g1 [.inl (1, 1, .inr (.inl (o)))] g3 (ct_p4 s4) (ct_e5 (.ref 256) (.ref 384) s5) g6 g7 g8 g9 q) (.inl (some (.int 3))) (cl_h (ct_x v1 (.ref 320) v3 s0) g1 [.inl (1, 1, .inr (.inl (o)))] g3 (ct_p4 s4) (ct_e5 (.ref 256) (.ref 384) z5) g6 g7 g8 g9 (q.1, q.2.1 + 1, q.2.2 + 6)) := by
  refine pm_Mt.ofH (by decide) (by decide +kernel) rfl rfl ?_
  obtain ⟨d, rfl⟩ : ∃ d', d = d' + 1 := ⟨d - 1, by omega⟩
  refine pm_Wg.path (k := 7) (ds := []) (f' := (9, [some (.ref 0), some (.int a0), some (.int a1), some (.int a2), some (.int a3), some (.ref 128), none], [.int a3, .int a2, .int a1, .int a0, .ref 0, .int 0, .ref 128], cl_h (ct_x v1 (.ref 320) v3 s0) g1 [.inl (1, 1, .inr (.inl (o)))] g3 (ct_p4 s4) (ct_e5 (.ref 256) (.ref 384) s5) g6 g7 g8 g9 q)) tk_L_submit (by omega) rfl trivial ?_
  refine pm_Wg.callC (m' := 109) (ix := 39) (rr := 165) (pl := 1202) (b := 0) (As := [.int a0, .int a1, .int a2, .int a3]) (S := [.int 0, .ref 128]) (k := 6) (nx := 27) (pre := [(0, 14, 17, 27), (0, 14, 21, 19)]) (x := (0, 14, 25, 13)) (suf := []) (by decide) rfl (pm_dec tk_L_submit rfl) rfl rfl (by decide) rfl rfl (by decide) (Nat.le_of_ble_eq_true rfl) rfl rfl (fun z hz => by
    rcases List.mem_cons.mp hz with hz0 | hz
    · subst hz0; exact ⟨by decide, _, px_l2, by decide +kernel⟩
    rcases List.mem_cons.mp hz with hz1 | hz
    · subst hz1; exact ⟨by decide, _, px_l1, by decide +kernel⟩
    cases hz) (by decide +kernel) (by decide) px_l0 px_c0 (Or.inr ⟨by decide +kernel, rfl⟩) (Nat.le_of_ble_eq_true rfl) (fun z hz => by cases hz) (e_X8_submit_E_t0 (by omega) H) ?_
  refine pm_Wg.path (k := 1) (ds := []) (f' := (28, [some (.ref 0), some (.int a0), some (.int a1), some (.int a2), some (.int a3), some (.ref 128), none], [.int 3], cl_h (ct_x v1 (.ref 320) v3 s0) g1 [.inl (1, 1, .inr (.inl (o)))] g3 (ct_p4 s4) (ct_e5 (.ref 256) (.ref 384) z5) g6 g7 g8 g9 (q.1, q.2.1 + 1, q.2.2 + 6))) tk_L_submit (by omega) rfl trivial ?_
  exact pm_Wg.iret (pm_dec tk_L_submit rfl) rfl rfl
set_option maxRecDepth 20000 in
set_option maxHeartbeats 20000000 in
theorem e_L_submit_E_t1 {d : Nat} (hd : 7 ≤ d) {g1 g3 g6 g7 g8 g9 : List pm_E} {v1 v3 : Value} {q : Nat × Nat × Nat} {s0 : cs_S} {s4 : cs_S} {s5 : cs_S} {a0 : Int32} {a1 : Int32} {a2 : Int32} {a3 : Int32} {z5 : cs_S} {o : Nat → Int64} (H : f_X8_submit_E s0 s4 s5 a0 a1 a2 a3 = some (.inr 1, z5)) : pm_Mt 316 d [.ref 0, .int a0, .int a1, .int a2, .int a3, .ref 128] (cl_h (ct_x v1 (.ref 320) v3 s0) g1 [.inl (1, 1, .inr (.inl (o)))] g3 (ct_p4 s4) (ct_e5 (.ref 256) (.ref 384) s5) g6 g7 g8 g9 q) (.inl (some (.int 2))) (cl_h (ct_x v1 (.ref 320) v3 s0) g1 [.inl (1, 1, .inr (.inl (o)))] g3 (ct_p4 s4) (ct_e5 (.ref 256) (.ref 384) z5) g6 g7 g8 g9 (q.1, q.2.1 + 1, q.2.2 + 6)) := by
  refine pm_Mt.ofH (by decide) (by decide +kernel) rfl rfl ?_
  obtain ⟨d, rfl⟩ : ∃ d', d = d' + 1 := ⟨d - 1, by omega⟩
  refine pm_Wg.path (k := 7) (ds := []) (f' := (9, [some (.ref 0), some (.int a0), some (.int a1), some (.int a2), some (.int a3), some (.ref 128), none], [.int a3, .int a2, .int a1, .int a0, .ref 0, .int 0, .ref 128], cl_h (ct_x v1 (.ref 320) v3 s0) g1 [.inl (1, 1, .inr (.inl (o)))] g3 (ct_p4 s4) (ct_e5 (.ref 256) (.ref 384) s5) g6 g7 g8 g9 q)) tk_L_submit (by omega) rfl trivial ?_
  refine pm_Wg.callC (m' := 109) (ix := 39) (rr := 165) (pl := 1202) (b := 0) (As := [.int a0, .int a1, .int a2, .int a3]) (S := [.int 0, .ref 128]) (k := 6) (nx := 23) (pre := [(0, 14, 17, 27)]) (x := (0, 14, 21, 19)) (suf := [(0, 14, 25, 13)]) (by decide) rfl (pm_dec tk_L_submit rfl) rfl rfl (by decide) rfl rfl (by decide) (Nat.le_of_ble_eq_true rfl) rfl rfl (fun z hz => by
    rcases List.mem_cons.mp hz with hz0 | hz
    · subst hz0; exact ⟨by decide, _, px_l2, by decide +kernel⟩
    cases hz) (by decide +kernel) (by decide) px_l1 px_c1 (Or.inr ⟨by decide +kernel, rfl⟩) (Nat.le_of_ble_eq_true rfl) (fun z hz => by cases hz) (e_X8_submit_E_t1 (by omega) H) ?_
  refine pm_Wg.path (k := 1) (ds := []) (f' := (24, [some (.ref 0), some (.int a0), some (.int a1), some (.int a2), some (.int a3), some (.ref 128), none], [.int 2], cl_h (ct_x v1 (.ref 320) v3 s0) g1 [.inl (1, 1, .inr (.inl (o)))] g3 (ct_p4 s4) (ct_e5 (.ref 256) (.ref 384) z5) g6 g7 g8 g9 (q.1, q.2.1 + 1, q.2.2 + 6))) tk_L_submit (by omega) rfl trivial ?_
  exact pm_Wg.iret (pm_dec tk_L_submit rfl) rfl rfl
set_option maxRecDepth 20000 in
set_option maxHeartbeats 20000000 in
theorem e_L_submit_E_t2 {d : Nat} (hd : 7 ≤ d) {g1 g3 g6 g7 g8 g9 : List pm_E} {v1 v3 : Value} {q : Nat × Nat × Nat} {s0 : cs_S} {s4 : cs_S} {s5 : cs_S} {a0 : Int32} {a1 : Int32} {a2 : Int32} {a3 : Int32} {z5 : cs_S} {o : Nat → Int64} (H : f_X8_submit_E s0 s4 s5 a0 a1 a2 a3 = some (.inr 2, z5)) : pm_Mt 316 d [.ref 0, .int a0, .int a1, .int a2, .int a3, .ref 128] (cl_h (ct_x v1 (.ref 320) v3 s0) g1 [.inl (1, 1, .inr (.inl (o)))] g3 (ct_p4 s4) (ct_e5 (.ref 256) (.ref 384) s5) g6 g7 g8 g9 q) (.inl (some (.int 1))) (cl_h (ct_x v1 (.ref 320) v3 s0) g1 [.inl (1, 1, .inr (.inl (o)))] g3 (ct_p4 s4) (ct_e5 (.ref 256) (.ref 384) z5) g6 g7 g8 g9 (q.1, q.2.1 + 1, q.2.2 + 6)) := by
  refine pm_Mt.ofH (by decide) (by decide +kernel) rfl rfl ?_
  obtain ⟨d, rfl⟩ : ∃ d', d = d' + 1 := ⟨d - 1, by omega⟩
  refine pm_Wg.path (k := 7) (ds := []) (f' := (9, [some (.ref 0), some (.int a0), some (.int a1), some (.int a2), some (.int a3), some (.ref 128), none], [.int a3, .int a2, .int a1, .int a0, .ref 0, .int 0, .ref 128], cl_h (ct_x v1 (.ref 320) v3 s0) g1 [.inl (1, 1, .inr (.inl (o)))] g3 (ct_p4 s4) (ct_e5 (.ref 256) (.ref 384) s5) g6 g7 g8 g9 q)) tk_L_submit (by omega) rfl trivial ?_
  refine pm_Wg.callC (m' := 109) (ix := 39) (rr := 165) (pl := 1202) (b := 0) (As := [.int a0, .int a1, .int a2, .int a3]) (S := [.int 0, .ref 128]) (k := 6) (nx := 19) (pre := []) (x := (0, 14, 17, 27)) (suf := [(0, 14, 21, 19), (0, 14, 25, 13)]) (by decide) rfl (pm_dec tk_L_submit rfl) rfl rfl (by decide) rfl rfl (by decide) (Nat.le_of_ble_eq_true rfl) rfl rfl (fun z hz => by cases hz) (by decide +kernel) (by decide) px_l2 px_c2 (Or.inr ⟨by decide +kernel, rfl⟩) (Nat.le_of_ble_eq_true rfl) (fun z hz => by cases hz) (e_X8_submit_E_t2 (by omega) H) ?_
  refine pm_Wg.path (k := 1) (ds := []) (f' := (20, [some (.ref 0), some (.int a0), some (.int a1), some (.int a2), some (.int a3), some (.ref 128), none], [.int 1], cl_h (ct_x v1 (.ref 320) v3 s0) g1 [.inl (1, 1, .inr (.inl (o)))] g3 (ct_p4 s4) (ct_e5 (.ref 256) (.ref 384) z5) g6 g7 g8 g9 (q.1, q.2.1 + 1, q.2.2 + 6))) tk_L_submit (by omega) rfl trivial ?_
  exact pm_Wg.iret (pm_dec tk_L_submit rfl) rfl rfl

def tb_L_fail : List pm_I := [(0, .aload_n 2, 0, 0), (1, .iconst 0, 2, 0), (2, .aload_n 0, 0, 0), (3, .iload_n 1, 0, 0), (4, .invokevirtual 43, 168, 0), (7, .i2l, 0, 0), (8, .lastore, 0, 0), (9, .goto 9, 18, 0), (12, .astore_n 3, 0, 0), (13, .iconst 1, 3, 0), (14, .ireturn, 0, 0), (15, .astore_n 3, 0, 0), (16, .iconst 2, 4, 0), (17, .ireturn, 0, 0), (18, .iconst 0, 2, 0), (19, .ireturn, 0, 0)]
theorem tk_L_fail : ∀ e ∈ tb_L_fail, pm_ck 317 e = true := List.all_eq_true.mp (by decide +kernel)

set_option maxRecDepth 20000 in
set_option maxHeartbeats 20000000 in
theorem e_L_fail_N_t2 {d : Nat} (hd : 8 ≤ d) {g1 g3 g4 g5 g6 g7 g8 g9 : List pm_E} {v1 v3 : Value} {q : Nat × Nat × Nat} {s0 : cs_S} {a0 : Int32} {o : Nat → Int64} (H : f_X8_fail_N s0 a0 = some (.inr 2)) : pm_Mt 317 d [.ref 0, .int a0, .ref 128] (cl_h (ct_x v1 (.null) v3 s0) g1 [.inl (1, 1, .inr (.inl (o)))] g3 g4 g5 g6 g7 g8 g9 q) (.inl (some (.int 1))) (cl_h (ct_x v1 (.null) v3 s0) g1 [.inl (1, 1, .inr (.inl (o)))] g3 g4 g5 g6 g7 g8 g9 (q.1, q.2.1 + 1, q.2.2 + 6)) := by
  refine pm_Mt.ofH (by decide) (by decide +kernel) rfl rfl ?_
  obtain ⟨d, rfl⟩ : ∃ d', d = d' + 1 := ⟨d - 1, by omega⟩
  refine pm_Wg.path (k := 4) (ds := []) (f' := (4, [some (.ref 0), some (.int a0), some (.ref 128), none], [.int a0, .ref 0, .int 0, .ref 128], cl_h (ct_x v1 (.null) v3 s0) g1 [.inl (1, 1, .inr (.inl (o)))] g3 g4 g5 g6 g7 g8 g9 q)) tk_L_fail (by omega) rfl trivial ?_
  refine pm_Wg.callC (m' := 110) (ix := 43) (rr := 168) (pl := 1213) (b := 0) (As := [.int a0]) (S := [.int 0, .ref 128]) (k := 3) (nx := 13) (pre := []) (x := (0, 9, 12, 27)) (suf := [(0, 9, 15, 13)]) (by decide) rfl (pm_dec tk_L_fail rfl) rfl rfl (by decide) rfl rfl (by decide) (Nat.le_of_ble_eq_true rfl) rfl rfl (fun z hz => by cases hz) (by decide +kernel) (by decide) px_l2 px_c2 (Or.inl ⟨3, by decide +kernel, rfl, rfl⟩) (Nat.le_of_ble_eq_true rfl) (fun z hz => by cases hz) (e_X8_fail_N_t2 (by omega) H) ?_
  refine pm_Wg.path (k := 1) (ds := []) (f' := (14, [some (.ref 0), some (.int a0), some (.ref 128), none], [.int 1], cl_h (ct_x v1 (.null) v3 s0) g1 [.inl (1, 1, .inr (.inl (o)))] g3 g4 g5 g6 g7 g8 g9 (q.1, q.2.1 + 1, q.2.2 + 6))) tk_L_fail (by omega) rfl trivial ?_
  exact pm_Wg.iret (pm_dec tk_L_fail rfl) rfl rfl

set_option maxRecDepth 20000 in
set_option maxHeartbeats 20000000 in
theorem e_L_fail_E {d : Nat} (hd : 8 ≤ d) {g1 g3 g6 g7 g8 g9 : List pm_E} {v1 v3 : Value} {q : Nat × Nat × Nat} {s0 : cs_S} {s4 : cs_S} {s5 : cs_S} {a0 : Int32} {r : Int32} {z5 : cs_S} {o : Nat → Int64} (H : f_X8_fail_E s0 s4 s5 a0 = some (.inl r, z5)) : pm_Mt 317 d [.ref 0, .int a0, .ref 128] (cl_h (ct_x v1 (.ref 320) v3 s0) g1 [.inl (1, 1, .inr (.inl (o)))] g3 (ct_p4 s4) (ct_e5 (.ref 256) (.ref 384) s5) g6 g7 g8 g9 q) (.inl (some (.int 0))) (cl_h (ct_x v1 (.ref 320) v3 s0) g1 [.inl (1, 1, .inr (.inl (vp_updL o (Int32.toNatClampNeg 0) (Int32.toInt64 r))))] g3 (ct_p4 s4) (ct_e5 (.ref 256) (.ref 384) z5) g6 g7 g8 g9 q) := by
  refine pm_Mt.ofH (by decide) (by decide +kernel) rfl rfl ?_
  obtain ⟨d, rfl⟩ : ∃ d', d = d' + 1 := ⟨d - 1, by omega⟩
  refine pm_Wg.path (k := 4) (ds := []) (f' := (4, [some (.ref 0), some (.int a0), some (.ref 128), none], [.int a0, .ref 0, .int 0, .ref 128], cl_h (ct_x v1 (.ref 320) v3 s0) g1 [.inl (1, 1, .inr (.inl (o)))] g3 (ct_p4 s4) (ct_e5 (.ref 256) (.ref 384) s5) g6 g7 g8 g9 q)) tk_L_fail (by omega) rfl trivial ?_
  refine pm_Wg.callV (m' := 110) (ix := 43) (rr := 168) (pl := 1213) (b := 0) (As := [.int a0]) (S := [.int 0, .ref 128]) (by decide) rfl (pm_dec tk_L_fail rfl) rfl rfl (by decide) rfl rfl (by decide) (Nat.le_of_ble_eq_true rfl) rfl (e_X8_fail_E (by omega) H) ?_
  refine pm_Wg.path (k := 4) (ds := []) (f' := (19, [some (.ref 0), some (.int a0), some (.ref 128), none], [.int 0], cl_h (ct_x v1 (.ref 320) v3 s0) g1 [.inl (1, 1, .inr (.inl (vp_updL o (Int32.toNatClampNeg 0) (Int32.toInt64 r))))] g3 (ct_p4 s4) (ct_e5 (.ref 256) (.ref 384) z5) g6 g7 g8 g9 q)) tk_L_fail (by omega) rfl ⟨pm_inb_vp (i := 0) (n := 1) rfl, trivial⟩ ?_
  exact pm_Wg.iret (pm_dec tk_L_fail rfl) rfl rfl
set_option maxRecDepth 20000 in
set_option maxHeartbeats 20000000 in
theorem e_L_fail_E_t0 {d : Nat} (hd : 8 ≤ d) {g1 g3 g6 g7 g8 g9 : List pm_E} {v1 v3 : Value} {q : Nat × Nat × Nat} {s0 : cs_S} {s4 : cs_S} {s5 : cs_S} {a0 : Int32} {z5 : cs_S} {o : Nat → Int64} (H : f_X8_fail_E s0 s4 s5 a0 = some (.inr 0, z5)) : pm_Mt 317 d [.ref 0, .int a0, .ref 128] (cl_h (ct_x v1 (.ref 320) v3 s0) g1 [.inl (1, 1, .inr (.inl (o)))] g3 (ct_p4 s4) (ct_e5 (.ref 256) (.ref 384) s5) g6 g7 g8 g9 q) (.inl (some (.int 2))) (cl_h (ct_x v1 (.ref 320) v3 s0) g1 [.inl (1, 1, .inr (.inl (o)))] g3 (ct_p4 s4) (ct_e5 (.ref 256) (.ref 384) z5) g6 g7 g8 g9 (q.1, q.2.1 + 1, q.2.2 + 6)) := by
  refine pm_Mt.ofH (by decide) (by decide +kernel) rfl rfl ?_
  obtain ⟨d, rfl⟩ : ∃ d', d = d' + 1 := ⟨d - 1, by omega⟩
  refine pm_Wg.path (k := 4) (ds := []) (f' := (4, [some (.ref 0), some (.int a0), some (.ref 128), none], [.int a0, .ref 0, .int 0, .ref 128], cl_h (ct_x v1 (.ref 320) v3 s0) g1 [.inl (1, 1, .inr (.inl (o)))] g3 (ct_p4 s4) (ct_e5 (.ref 256) (.ref 384) s5) g6 g7 g8 g9 q)) tk_L_fail (by omega) rfl trivial ?_
  refine pm_Wg.callC (m' := 110) (ix := 43) (rr := 168) (pl := 1213) (b := 0) (As := [.int a0]) (S := [.int 0, .ref 128]) (k := 3) (nx := 16) (pre := [(0, 9, 12, 27)]) (x := (0, 9, 15, 13)) (suf := []) (by decide) rfl (pm_dec tk_L_fail rfl) rfl rfl (by decide) rfl rfl (by decide) (Nat.le_of_ble_eq_true rfl) rfl rfl (fun z hz => by
    rcases List.mem_cons.mp hz with hz0 | hz
    · subst hz0; exact ⟨by decide, _, px_l2, by decide +kernel⟩
    cases hz) (by decide +kernel) (by decide) px_l0 px_c0 (Or.inl ⟨3, by decide +kernel, rfl, rfl⟩) (Nat.le_of_ble_eq_true rfl) (fun z hz => by cases hz) (e_X8_fail_E_t0 (by omega) H) ?_
  refine pm_Wg.path (k := 1) (ds := []) (f' := (17, [some (.ref 0), some (.int a0), some (.ref 128), none], [.int 2], cl_h (ct_x v1 (.ref 320) v3 s0) g1 [.inl (1, 1, .inr (.inl (o)))] g3 (ct_p4 s4) (ct_e5 (.ref 256) (.ref 384) z5) g6 g7 g8 g9 (q.1, q.2.1 + 1, q.2.2 + 6))) tk_L_fail (by omega) rfl trivial ?_
  exact pm_Wg.iret (pm_dec tk_L_fail rfl) rfl rfl
set_option maxRecDepth 20000 in
set_option maxHeartbeats 20000000 in
theorem e_L_fail_E_t2 {d : Nat} (hd : 8 ≤ d) {g1 g3 g6 g7 g8 g9 : List pm_E} {v1 v3 : Value} {q : Nat × Nat × Nat} {s0 : cs_S} {s4 : cs_S} {s5 : cs_S} {a0 : Int32} {z5 : cs_S} {o : Nat → Int64} (H : f_X8_fail_E s0 s4 s5 a0 = some (.inr 2, z5)) : pm_Mt 317 d [.ref 0, .int a0, .ref 128] (cl_h (ct_x v1 (.ref 320) v3 s0) g1 [.inl (1, 1, .inr (.inl (o)))] g3 (ct_p4 s4) (ct_e5 (.ref 256) (.ref 384) s5) g6 g7 g8 g9 q) (.inl (some (.int 1))) (cl_h (ct_x v1 (.ref 320) v3 s0) g1 [.inl (1, 1, .inr (.inl (o)))] g3 (ct_p4 s4) (ct_e5 (.ref 256) (.ref 384) z5) g6 g7 g8 g9 (q.1, q.2.1 + 1, q.2.2 + 6)) := by
  refine pm_Mt.ofH (by decide) (by decide +kernel) rfl rfl ?_
  obtain ⟨d, rfl⟩ : ∃ d', d = d' + 1 := ⟨d - 1, by omega⟩
  refine pm_Wg.path (k := 4) (ds := []) (f' := (4, [some (.ref 0), some (.int a0), some (.ref 128), none], [.int a0, .ref 0, .int 0, .ref 128], cl_h (ct_x v1 (.ref 320) v3 s0) g1 [.inl (1, 1, .inr (.inl (o)))] g3 (ct_p4 s4) (ct_e5 (.ref 256) (.ref 384) s5) g6 g7 g8 g9 q)) tk_L_fail (by omega) rfl trivial ?_
  refine pm_Wg.callC (m' := 110) (ix := 43) (rr := 168) (pl := 1213) (b := 0) (As := [.int a0]) (S := [.int 0, .ref 128]) (k := 3) (nx := 13) (pre := []) (x := (0, 9, 12, 27)) (suf := [(0, 9, 15, 13)]) (by decide) rfl (pm_dec tk_L_fail rfl) rfl rfl (by decide) rfl rfl (by decide) (Nat.le_of_ble_eq_true rfl) rfl rfl (fun z hz => by cases hz) (by decide +kernel) (by decide) px_l2 px_c2 (Or.inl ⟨3, by decide +kernel, rfl, rfl⟩) (Nat.le_of_ble_eq_true rfl) (fun z hz => by cases hz) (e_X8_fail_E_t2 (by omega) H) ?_
  refine pm_Wg.path (k := 1) (ds := []) (f' := (14, [some (.ref 0), some (.int a0), some (.ref 128), none], [.int 1], cl_h (ct_x v1 (.ref 320) v3 s0) g1 [.inl (1, 1, .inr (.inl (o)))] g3 (ct_p4 s4) (ct_e5 (.ref 256) (.ref 384) z5) g6 g7 g8 g9 (q.1, q.2.1 + 1, q.2.2 + 6))) tk_L_fail (by omega) rfl trivial ?_
  exact pm_Wg.iret (pm_dec tk_L_fail rfl) rfl rfl

def tb_L_advance : List pm_I := [(0, .aload_n 2, 0, 0), (1, .iconst 0, 2, 0), (2, .aload_n 0, 0, 0), (3, .iload_n 1, 0, 0), (4, .invokevirtual 46, 172, 0), (7, .i2l, 0, 0), (8, .lastore, 0, 0), (9, .goto 9, 18, 0), (12, .astore_n 3, 0, 0), (13, .iconst 1, 3, 0), (14, .ireturn, 0, 0), (15, .astore_n 3, 0, 0), (16, .iconst 2, 4, 0), (17, .ireturn, 0, 0), (18, .iconst 0, 2, 0), (19, .ireturn, 0, 0)]
theorem tk_L_advance : ∀ e ∈ tb_L_advance, pm_ck 318 e = true := List.all_eq_true.mp (by decide +kernel)

set_option maxRecDepth 20000 in
set_option maxHeartbeats 20000000 in
theorem e_L_advance_N_t0 {d : Nat} (hd : 8 ≤ d) {g1 g3 g4 g5 g6 g7 g8 g9 : List pm_E} {v1 v3 : Value} {q : Nat × Nat × Nat} {s0 : cs_S} {a0 : Int32} {o : Nat → Int64} (H : f_X8_advance_N s0 a0 = some (.inr 0)) : pm_Mt 318 d [.ref 0, .int a0, .ref 128] (cl_h (ct_x v1 (.null) v3 s0) g1 [.inl (1, 1, .inr (.inl (o)))] g3 g4 g5 g6 g7 g8 g9 q) (.inl (some (.int 2))) (cl_h (ct_x v1 (.null) v3 s0) g1 [.inl (1, 1, .inr (.inl (o)))] g3 g4 g5 g6 g7 g8 g9 (q.1, q.2.1 + 1, q.2.2 + 6)) := by
  refine pm_Mt.ofH (by decide) (by decide +kernel) rfl rfl ?_
  obtain ⟨d, rfl⟩ : ∃ d', d = d' + 1 := ⟨d - 1, by omega⟩
  refine pm_Wg.path (k := 4) (ds := []) (f' := (4, [some (.ref 0), some (.int a0), some (.ref 128), none], [.int a0, .ref 0, .int 0, .ref 128], cl_h (ct_x v1 (.null) v3 s0) g1 [.inl (1, 1, .inr (.inl (o)))] g3 g4 g5 g6 g7 g8 g9 q)) tk_L_advance (by omega) rfl trivial ?_
  refine pm_Wg.callC (m' := 111) (ix := 46) (rr := 172) (pl := 1230) (b := 0) (As := [.int a0]) (S := [.int 0, .ref 128]) (k := 3) (nx := 16) (pre := [(0, 9, 12, 19)]) (x := (0, 9, 15, 13)) (suf := []) (by decide) rfl (pm_dec tk_L_advance rfl) rfl rfl (by decide) rfl rfl (by decide) (Nat.le_of_ble_eq_true rfl) rfl rfl (fun z hz => by
    rcases List.mem_cons.mp hz with hz0 | hz
    · subst hz0; exact ⟨by decide, _, px_l1, by decide +kernel⟩
    cases hz) (by decide +kernel) (by decide) px_l0 px_c0 (Or.inl ⟨3, by decide +kernel, rfl, rfl⟩) (Nat.le_of_ble_eq_true rfl) (fun z hz => by cases hz) (e_X8_advance_N_t0 (by omega) H) ?_
  refine pm_Wg.path (k := 1) (ds := []) (f' := (17, [some (.ref 0), some (.int a0), some (.ref 128), none], [.int 2], cl_h (ct_x v1 (.null) v3 s0) g1 [.inl (1, 1, .inr (.inl (o)))] g3 g4 g5 g6 g7 g8 g9 (q.1, q.2.1 + 1, q.2.2 + 6))) tk_L_advance (by omega) rfl trivial ?_
  exact pm_Wg.iret (pm_dec tk_L_advance rfl) rfl rfl
set_option maxRecDepth 20000 in
set_option maxHeartbeats 20000000 in
theorem e_L_advance_N_t1 {d : Nat} (hd : 8 ≤ d) {g1 g3 g4 g5 g6 g7 g8 g9 : List pm_E} {v1 v3 : Value} {q : Nat × Nat × Nat} {s0 : cs_S} {a0 : Int32} {o : Nat → Int64} (H : f_X8_advance_N s0 a0 = some (.inr 1)) : pm_Mt 318 d [.ref 0, .int a0, .ref 128] (cl_h (ct_x v1 (.null) v3 s0) g1 [.inl (1, 1, .inr (.inl (o)))] g3 g4 g5 g6 g7 g8 g9 q) (.inl (some (.int 1))) (cl_h (ct_x v1 (.null) v3 s0) g1 [.inl (1, 1, .inr (.inl (o)))] g3 g4 g5 g6 g7 g8 g9 (q.1, q.2.1 + 1, q.2.2 + 6)) := by
  refine pm_Mt.ofH (by decide) (by decide +kernel) rfl rfl ?_
  obtain ⟨d, rfl⟩ : ∃ d', d = d' + 1 := ⟨d - 1, by omega⟩
  refine pm_Wg.path (k := 4) (ds := []) (f' := (4, [some (.ref 0), some (.int a0), some (.ref 128), none], [.int a0, .ref 0, .int 0, .ref 128], cl_h (ct_x v1 (.null) v3 s0) g1 [.inl (1, 1, .inr (.inl (o)))] g3 g4 g5 g6 g7 g8 g9 q)) tk_L_advance (by omega) rfl trivial ?_
  refine pm_Wg.callC (m' := 111) (ix := 46) (rr := 172) (pl := 1230) (b := 0) (As := [.int a0]) (S := [.int 0, .ref 128]) (k := 3) (nx := 13) (pre := []) (x := (0, 9, 12, 19)) (suf := [(0, 9, 15, 13)]) (by decide) rfl (pm_dec tk_L_advance rfl) rfl rfl (by decide) rfl rfl (by decide) (Nat.le_of_ble_eq_true rfl) rfl rfl (fun z hz => by cases hz) (by decide +kernel) (by decide) px_l1 px_c1 (Or.inl ⟨3, by decide +kernel, rfl, rfl⟩) (Nat.le_of_ble_eq_true rfl) (fun z hz => by cases hz) (e_X8_advance_N_t1 (by omega) H) ?_
  refine pm_Wg.path (k := 1) (ds := []) (f' := (14, [some (.ref 0), some (.int a0), some (.ref 128), none], [.int 1], cl_h (ct_x v1 (.null) v3 s0) g1 [.inl (1, 1, .inr (.inl (o)))] g3 g4 g5 g6 g7 g8 g9 (q.1, q.2.1 + 1, q.2.2 + 6))) tk_L_advance (by omega) rfl trivial ?_
  exact pm_Wg.iret (pm_dec tk_L_advance rfl) rfl rfl

set_option maxRecDepth 20000 in
set_option maxHeartbeats 20000000 in
theorem e_L_advance_E {d : Nat} (hd : 8 ≤ d) {g1 g3 g7 g8 g9 : List pm_E} {v1 v3 : Value} {q : Nat × Nat × Nat} {s0 : cs_S} {s4 : cs_S} {s5 : cs_S} {s6 : cs_S} {a0 : Int32} {r : Int32} {z5 : cs_S} {o : Nat → Int64} (H : f_X8_advance_E s0 s4 s5 s6 a0 = some (.inl r, z5)) : pm_Mt 318 d [.ref 0, .int a0, .ref 128] (cl_h (ct_x v1 (.ref 320) v3 s0) g1 [.inl (1, 1, .inr (.inl (o)))] g3 (ct_p4 s4) (ct_e5 (.ref 256) (.ref 384) s5) (ct_t6 s6) g7 g8 g9 q) (.inl (some (.int 0))) (cl_h (ct_x v1 (.ref 320) v3 s0) g1 [.inl (1, 1, .inr (.inl (vp_updL o (Int32.toNatClampNeg 0) (Int32.toInt64 r))))] g3 (ct_p4 s4) (ct_e5 (.ref 256) (.ref 384) z5) (ct_t6 s6) g7 g8 g9 q) := by
  refine pm_Mt.ofH (by decide) (by decide +kernel) rfl rfl ?_
  obtain ⟨d, rfl⟩ : ∃ d', d = d' + 1 := ⟨d - 1, by omega⟩
  refine pm_Wg.path (k := 4) (ds := []) (f' := (4, [some (.ref 0), some (.int a0), some (.ref 128), none], [.int a0, .ref 0, .int 0, .ref 128], cl_h (ct_x v1 (.ref 320) v3 s0) g1 [.inl (1, 1, .inr (.inl (o)))] g3 (ct_p4 s4) (ct_e5 (.ref 256) (.ref 384) s5) (ct_t6 s6) g7 g8 g9 q)) tk_L_advance (by omega) rfl trivial ?_
  refine pm_Wg.callV (m' := 111) (ix := 46) (rr := 172) (pl := 1230) (b := 0) (As := [.int a0]) (S := [.int 0, .ref 128]) (by decide) rfl (pm_dec tk_L_advance rfl) rfl rfl (by decide) rfl rfl (by decide) (Nat.le_of_ble_eq_true rfl) rfl (e_X8_advance_E (by omega) H) ?_
  refine pm_Wg.path (k := 4) (ds := []) (f' := (19, [some (.ref 0), some (.int a0), some (.ref 128), none], [.int 0], cl_h (ct_x v1 (.ref 320) v3 s0) g1 [.inl (1, 1, .inr (.inl (vp_updL o (Int32.toNatClampNeg 0) (Int32.toInt64 r))))] g3 (ct_p4 s4) (ct_e5 (.ref 256) (.ref 384) z5) (ct_t6 s6) g7 g8 g9 q)) tk_L_advance (by omega) rfl ⟨pm_inb_vp (i := 0) (n := 1) rfl, trivial⟩ ?_
  exact pm_Wg.iret (pm_dec tk_L_advance rfl) rfl rfl
set_option maxRecDepth 20000 in
set_option maxHeartbeats 20000000 in
theorem e_L_advance_E_t1 {d : Nat} (hd : 8 ≤ d) {g1 g3 g7 g8 g9 : List pm_E} {v1 v3 : Value} {q : Nat × Nat × Nat} {s0 : cs_S} {s4 : cs_S} {s5 : cs_S} {s6 : cs_S} {a0 : Int32} {z5 : cs_S} {o : Nat → Int64} (H : f_X8_advance_E s0 s4 s5 s6 a0 = some (.inr 1, z5)) : pm_Mt 318 d [.ref 0, .int a0, .ref 128] (cl_h (ct_x v1 (.ref 320) v3 s0) g1 [.inl (1, 1, .inr (.inl (o)))] g3 (ct_p4 s4) (ct_e5 (.ref 256) (.ref 384) s5) (ct_t6 s6) g7 g8 g9 q) (.inl (some (.int 1))) (cl_h (ct_x v1 (.ref 320) v3 s0) g1 [.inl (1, 1, .inr (.inl (o)))] g3 (ct_p4 s4) (ct_e5 (.ref 256) (.ref 384) z5) (ct_t6 s6) g7 g8 g9 (q.1, q.2.1 + 1, q.2.2 + 6)) := by
  refine pm_Mt.ofH (by decide) (by decide +kernel) rfl rfl ?_
  obtain ⟨d, rfl⟩ : ∃ d', d = d' + 1 := ⟨d - 1, by omega⟩
  refine pm_Wg.path (k := 4) (ds := []) (f' := (4, [some (.ref 0), some (.int a0), some (.ref 128), none], [.int a0, .ref 0, .int 0, .ref 128], cl_h (ct_x v1 (.ref 320) v3 s0) g1 [.inl (1, 1, .inr (.inl (o)))] g3 (ct_p4 s4) (ct_e5 (.ref 256) (.ref 384) s5) (ct_t6 s6) g7 g8 g9 q)) tk_L_advance (by omega) rfl trivial ?_
  refine pm_Wg.callC (m' := 111) (ix := 46) (rr := 172) (pl := 1230) (b := 0) (As := [.int a0]) (S := [.int 0, .ref 128]) (k := 3) (nx := 13) (pre := []) (x := (0, 9, 12, 19)) (suf := [(0, 9, 15, 13)]) (by decide) rfl (pm_dec tk_L_advance rfl) rfl rfl (by decide) rfl rfl (by decide) (Nat.le_of_ble_eq_true rfl) rfl rfl (fun z hz => by cases hz) (by decide +kernel) (by decide) px_l1 px_c1 (Or.inl ⟨3, by decide +kernel, rfl, rfl⟩) (Nat.le_of_ble_eq_true rfl) (fun z hz => by cases hz) (e_X8_advance_E_t1 (by omega) H) ?_
  refine pm_Wg.path (k := 1) (ds := []) (f' := (14, [some (.ref 0), some (.int a0), some (.ref 128), none], [.int 1], cl_h (ct_x v1 (.ref 320) v3 s0) g1 [.inl (1, 1, .inr (.inl (o)))] g3 (ct_p4 s4) (ct_e5 (.ref 256) (.ref 384) z5) (ct_t6 s6) g7 g8 g9 (q.1, q.2.1 + 1, q.2.2 + 6))) tk_L_advance (by omega) rfl trivial ?_
  exact pm_Wg.iret (pm_dec tk_L_advance rfl) rfl rfl

def tb_L_promise : List pm_I := [(0, .aload_n 2, 0, 0), (1, .iconst 0, 2, 0), (2, .aload_n 0, 0, 0), (3, .iload_n 1, 0, 0), (4, .invokevirtual 49, 175, 0), (7, .i2l, 0, 0), (8, .lastore, 0, 0), (9, .goto 9, 18, 0), (12, .astore_n 3, 0, 0), (13, .iconst 1, 3, 0), (14, .ireturn, 0, 0), (15, .astore_n 3, 0, 0), (16, .iconst 2, 4, 0), (17, .ireturn, 0, 0), (18, .iconst 0, 2, 0), (19, .ireturn, 0, 0)]
theorem tk_L_promise : ∀ e ∈ tb_L_promise, pm_ck 319 e = true := List.all_eq_true.mp (by decide +kernel)

set_option maxRecDepth 20000 in
set_option maxHeartbeats 20000000 in
theorem e_L_promise_N_t0 {d : Nat} (hd : 7 ≤ d) {g1 g3 g4 g5 g6 g7 g8 g9 : List pm_E} {v1 v3 : Value} {q : Nat × Nat × Nat} {s0 : cs_S} {a0 : Int32} {o : Nat → Int64} (H : f_X8_promise_N s0 a0 = some (.inr 0)) : pm_Mt 319 d [.ref 0, .int a0, .ref 128] (cl_h (ct_x v1 (.null) v3 s0) g1 [.inl (1, 1, .inr (.inl (o)))] g3 g4 g5 g6 g7 g8 g9 q) (.inl (some (.int 2))) (cl_h (ct_x v1 (.null) v3 s0) g1 [.inl (1, 1, .inr (.inl (o)))] g3 g4 g5 g6 g7 g8 g9 (q.1, q.2.1 + 1, q.2.2 + 6)) := by
  refine pm_Mt.ofH (by decide) (by decide +kernel) rfl rfl ?_
  obtain ⟨d, rfl⟩ : ∃ d', d = d' + 1 := ⟨d - 1, by omega⟩
  refine pm_Wg.path (k := 4) (ds := []) (f' := (4, [some (.ref 0), some (.int a0), some (.ref 128), none], [.int a0, .ref 0, .int 0, .ref 128], cl_h (ct_x v1 (.null) v3 s0) g1 [.inl (1, 1, .inr (.inl (o)))] g3 g4 g5 g6 g7 g8 g9 q)) tk_L_promise (by omega) rfl trivial ?_
  refine pm_Wg.callC (m' := 112) (ix := 49) (rr := 175) (pl := 1239) (b := 0) (As := [.int a0]) (S := [.int 0, .ref 128]) (k := 3) (nx := 16) (pre := [(0, 9, 12, 19)]) (x := (0, 9, 15, 13)) (suf := []) (by decide) rfl (pm_dec tk_L_promise rfl) rfl rfl (by decide) rfl rfl (by decide) (Nat.le_of_ble_eq_true rfl) rfl rfl (fun z hz => by
    rcases List.mem_cons.mp hz with hz0 | hz
    · subst hz0; exact ⟨by decide, _, px_l1, by decide +kernel⟩
    cases hz) (by decide +kernel) (by decide) px_l0 px_c0 (Or.inl ⟨3, by decide +kernel, rfl, rfl⟩) (Nat.le_of_ble_eq_true rfl) (fun z hz => by cases hz) (e_X8_promise_N_t0 (by omega) H) ?_
  refine pm_Wg.path (k := 1) (ds := []) (f' := (17, [some (.ref 0), some (.int a0), some (.ref 128), none], [.int 2], cl_h (ct_x v1 (.null) v3 s0) g1 [.inl (1, 1, .inr (.inl (o)))] g3 g4 g5 g6 g7 g8 g9 (q.1, q.2.1 + 1, q.2.2 + 6))) tk_L_promise (by omega) rfl trivial ?_
  exact pm_Wg.iret (pm_dec tk_L_promise rfl) rfl rfl
set_option maxRecDepth 20000 in
set_option maxHeartbeats 20000000 in
theorem e_L_promise_N_t1 {d : Nat} (hd : 7 ≤ d) {g1 g3 g4 g5 g6 g7 g8 g9 : List pm_E} {v1 v3 : Value} {q : Nat × Nat × Nat} {s0 : cs_S} {a0 : Int32} {o : Nat → Int64} (H : f_X8_promise_N s0 a0 = some (.inr 1)) : pm_Mt 319 d [.ref 0, .int a0, .ref 128] (cl_h (ct_x v1 (.null) v3 s0) g1 [.inl (1, 1, .inr (.inl (o)))] g3 g4 g5 g6 g7 g8 g9 q) (.inl (some (.int 1))) (cl_h (ct_x v1 (.null) v3 s0) g1 [.inl (1, 1, .inr (.inl (o)))] g3 g4 g5 g6 g7 g8 g9 (q.1, q.2.1 + 1, q.2.2 + 6)) := by
  refine pm_Mt.ofH (by decide) (by decide +kernel) rfl rfl ?_
  obtain ⟨d, rfl⟩ : ∃ d', d = d' + 1 := ⟨d - 1, by omega⟩
  refine pm_Wg.path (k := 4) (ds := []) (f' := (4, [some (.ref 0), some (.int a0), some (.ref 128), none], [.int a0, .ref 0, .int 0, .ref 128], cl_h (ct_x v1 (.null) v3 s0) g1 [.inl (1, 1, .inr (.inl (o)))] g3 g4 g5 g6 g7 g8 g9 q)) tk_L_promise (by omega) rfl trivial ?_
  refine pm_Wg.callC (m' := 112) (ix := 49) (rr := 175) (pl := 1239) (b := 0) (As := [.int a0]) (S := [.int 0, .ref 128]) (k := 3) (nx := 13) (pre := []) (x := (0, 9, 12, 19)) (suf := [(0, 9, 15, 13)]) (by decide) rfl (pm_dec tk_L_promise rfl) rfl rfl (by decide) rfl rfl (by decide) (Nat.le_of_ble_eq_true rfl) rfl rfl (fun z hz => by cases hz) (by decide +kernel) (by decide) px_l1 px_c1 (Or.inl ⟨3, by decide +kernel, rfl, rfl⟩) (Nat.le_of_ble_eq_true rfl) (fun z hz => by cases hz) (e_X8_promise_N_t1 (by omega) H) ?_
  refine pm_Wg.path (k := 1) (ds := []) (f' := (14, [some (.ref 0), some (.int a0), some (.ref 128), none], [.int 1], cl_h (ct_x v1 (.null) v3 s0) g1 [.inl (1, 1, .inr (.inl (o)))] g3 g4 g5 g6 g7 g8 g9 (q.1, q.2.1 + 1, q.2.2 + 6))) tk_L_promise (by omega) rfl trivial ?_
  exact pm_Wg.iret (pm_dec tk_L_promise rfl) rfl rfl

set_option maxRecDepth 20000 in
set_option maxHeartbeats 20000000 in
theorem e_L_promise_E {d : Nat} (hd : 7 ≤ d) {g1 g3 g4 g6 g7 g8 g9 : List pm_E} {v1 v3 : Value} {q : Nat × Nat × Nat} {s0 : cs_S} {s5 : cs_S} {a0 : Int32} {r : Int32} {z5 : cs_S} {o : Nat → Int64} (H : f_X8_promise_E s0 s5 a0 = some (.inl r, z5)) : pm_Mt 319 d [.ref 0, .int a0, .ref 128] (cl_h (ct_x v1 (.ref 320) v3 s0) g1 [.inl (1, 1, .inr (.inl (o)))] g3 g4 (ct_e5 (.ref 256) (.ref 384) s5) g6 g7 g8 g9 q) (.inl (some (.int 0))) (cl_h (ct_x v1 (.ref 320) v3 s0) g1 [.inl (1, 1, .inr (.inl (vp_updL o (Int32.toNatClampNeg 0) (Int32.toInt64 r))))] g3 g4 (ct_e5 (.ref 256) (.ref 384) z5) g6 g7 g8 g9 q) := by
  refine pm_Mt.ofH (by decide) (by decide +kernel) rfl rfl ?_
  obtain ⟨d, rfl⟩ : ∃ d', d = d' + 1 := ⟨d - 1, by omega⟩
  refine pm_Wg.path (k := 4) (ds := []) (f' := (4, [some (.ref 0), some (.int a0), some (.ref 128), none], [.int a0, .ref 0, .int 0, .ref 128], cl_h (ct_x v1 (.ref 320) v3 s0) g1 [.inl (1, 1, .inr (.inl (o)))] g3 g4 (ct_e5 (.ref 256) (.ref 384) s5) g6 g7 g8 g9 q)) tk_L_promise (by omega) rfl trivial ?_
  refine pm_Wg.callV (m' := 112) (ix := 49) (rr := 175) (pl := 1239) (b := 0) (As := [.int a0]) (S := [.int 0, .ref 128]) (by decide) rfl (pm_dec tk_L_promise rfl) rfl rfl (by decide) rfl rfl (by decide) (Nat.le_of_ble_eq_true rfl) rfl (e_X8_promise_E (by omega) H) ?_
  refine pm_Wg.path (k := 4) (ds := []) (f' := (19, [some (.ref 0), some (.int a0), some (.ref 128), none], [.int 0], cl_h (ct_x v1 (.ref 320) v3 s0) g1 [.inl (1, 1, .inr (.inl (vp_updL o (Int32.toNatClampNeg 0) (Int32.toInt64 r))))] g3 g4 (ct_e5 (.ref 256) (.ref 384) z5) g6 g7 g8 g9 q)) tk_L_promise (by omega) rfl ⟨pm_inb_vp (i := 0) (n := 1) rfl, trivial⟩ ?_
  exact pm_Wg.iret (pm_dec tk_L_promise rfl) rfl rfl
set_option maxRecDepth 20000 in
set_option maxHeartbeats 20000000 in
theorem e_L_promise_E_t1 {d : Nat} (hd : 7 ≤ d) {g1 g3 g4 g6 g7 g8 g9 : List pm_E} {v1 v3 : Value} {q : Nat × Nat × Nat} {s0 : cs_S} {s5 : cs_S} {a0 : Int32} {z5 : cs_S} {o : Nat → Int64} (H : f_X8_promise_E s0 s5 a0 = some (.inr 1, z5)) : pm_Mt 319 d [.ref 0, .int a0, .ref 128] (cl_h (ct_x v1 (.ref 320) v3 s0) g1 [.inl (1, 1, .inr (.inl (o)))] g3 g4 (ct_e5 (.ref 256) (.ref 384) s5) g6 g7 g8 g9 q) (.inl (some (.int 1))) (cl_h (ct_x v1 (.ref 320) v3 s0) g1 [.inl (1, 1, .inr (.inl (o)))] g3 g4 (ct_e5 (.ref 256) (.ref 384) z5) g6 g7 g8 g9 (q.1, q.2.1 + 1, q.2.2 + 6)) := by
  refine pm_Mt.ofH (by decide) (by decide +kernel) rfl rfl ?_
  obtain ⟨d, rfl⟩ : ∃ d', d = d' + 1 := ⟨d - 1, by omega⟩
  refine pm_Wg.path (k := 4) (ds := []) (f' := (4, [some (.ref 0), some (.int a0), some (.ref 128), none], [.int a0, .ref 0, .int 0, .ref 128], cl_h (ct_x v1 (.ref 320) v3 s0) g1 [.inl (1, 1, .inr (.inl (o)))] g3 g4 (ct_e5 (.ref 256) (.ref 384) s5) g6 g7 g8 g9 q)) tk_L_promise (by omega) rfl trivial ?_
  refine pm_Wg.callC (m' := 112) (ix := 49) (rr := 175) (pl := 1239) (b := 0) (As := [.int a0]) (S := [.int 0, .ref 128]) (k := 3) (nx := 13) (pre := []) (x := (0, 9, 12, 19)) (suf := [(0, 9, 15, 13)]) (by decide) rfl (pm_dec tk_L_promise rfl) rfl rfl (by decide) rfl rfl (by decide) (Nat.le_of_ble_eq_true rfl) rfl rfl (fun z hz => by cases hz) (by decide +kernel) (by decide) px_l1 px_c1 (Or.inl ⟨3, by decide +kernel, rfl, rfl⟩) (Nat.le_of_ble_eq_true rfl) (fun z hz => by cases hz) (e_X8_promise_E_t1 (by omega) H) ?_
  refine pm_Wg.path (k := 1) (ds := []) (f' := (14, [some (.ref 0), some (.int a0), some (.ref 128), none], [.int 1], cl_h (ct_x v1 (.ref 320) v3 s0) g1 [.inl (1, 1, .inr (.inl (o)))] g3 g4 (ct_e5 (.ref 256) (.ref 384) z5) g6 g7 g8 g9 (q.1, q.2.1 + 1, q.2.2 + 6))) tk_L_promise (by omega) rfl trivial ?_
  exact pm_Wg.iret (pm_dec tk_L_promise rfl) rfl rfl

def tb_L_setShare : List pm_I := [(0, .aload 5, 0, 0), (2, .iconst 0, 2, 0), (3, .aload_n 0, 0, 0), (4, .iload_n 1, 0, 0), (5, .iload_n 2, 0, 0), (6, .iload_n 3, 0, 0), (7, .iload 4, 0, 0), (9, .invokevirtual 52, 177, 0), (12, .i2l, 0, 0), (13, .lastore, 0, 0), (14, .goto 11, 25, 0), (17, .astore 6, 0, 0), (19, .iconst 1, 3, 0), (20, .ireturn, 0, 0), (21, .astore 6, 0, 0), (23, .iconst 2, 4, 0), (24, .ireturn, 0, 0), (25, .iconst 0, 2, 0), (26, .ireturn, 0, 0)]
theorem tk_L_setShare : ∀ e ∈ tb_L_setShare, pm_ck 320 e = true := List.all_eq_true.mp (by decide +kernel)

set_option maxRecDepth 20000 in
set_option maxHeartbeats 20000000 in
theorem e_L_setShare_N_t2 {d : Nat} (hd : 7 ≤ d) {g1 g3 g4 g5 g6 g7 g8 g9 : List pm_E} {v1 v3 : Value} {q : Nat × Nat × Nat} {s0 : cs_S} {a0 : Int32} {a1 : Int32} {a2 : Int32} {a3 : Int32} {o : Nat → Int64} (H : f_X8_setShare_N s0 a0 a1 a2 a3 = some (.inr 2)) : pm_Mt 320 d [.ref 0, .int a0, .int a1, .int a2, .int a3, .ref 128] (cl_h (ct_x v1 (.null) v3 s0) g1 [.inl (1, 1, .inr (.inl (o)))] g3 g4 g5 g6 g7 g8 g9 q) (.inl (some (.int 1))) (cl_h (ct_x v1 (.null) v3 s0) g1 [.inl (1, 1, .inr (.inl (o)))] g3 g4 g5 g6 g7 g8 g9 (q.1, q.2.1 + 1, q.2.2 + 6)) := by
  refine pm_Mt.ofH (by decide) (by decide +kernel) rfl rfl ?_
  obtain ⟨d, rfl⟩ : ∃ d', d = d' + 1 := ⟨d - 1, by omega⟩
  refine pm_Wg.path (k := 7) (ds := []) (f' := (9, [some (.ref 0), some (.int a0), some (.int a1), some (.int a2), some (.int a3), some (.ref 128), none], [.int a3, .int a2, .int a1, .int a0, .ref 0, .int 0, .ref 128], cl_h (ct_x v1 (.null) v3 s0) g1 [.inl (1, 1, .inr (.inl (o)))] g3 g4 g5 g6 g7 g8 g9 q)) tk_L_setShare (by omega) rfl trivial ?_
  refine pm_Wg.callC (m' := 113) (ix := 52) (rr := 177) (pl := 1247) (b := 0) (As := [.int a0, .int a1, .int a2, .int a3]) (S := [.int 0, .ref 128]) (k := 6) (nx := 19) (pre := []) (x := (0, 14, 17, 27)) (suf := [(0, 14, 21, 19)]) (by decide) rfl (pm_dec tk_L_setShare rfl) rfl rfl (by decide) rfl rfl (by decide) (Nat.le_of_ble_eq_true rfl) rfl rfl (fun z hz => by cases hz) (by decide +kernel) (by decide) px_l2 px_c2 (Or.inr ⟨by decide +kernel, rfl⟩) (Nat.le_of_ble_eq_true rfl) (fun z hz => by cases hz) (e_X8_setShare_N_t2 (by omega) H) ?_
  refine pm_Wg.path (k := 1) (ds := []) (f' := (20, [some (.ref 0), some (.int a0), some (.int a1), some (.int a2), some (.int a3), some (.ref 128), none], [.int 1], cl_h (ct_x v1 (.null) v3 s0) g1 [.inl (1, 1, .inr (.inl (o)))] g3 g4 g5 g6 g7 g8 g9 (q.1, q.2.1 + 1, q.2.2 + 6))) tk_L_setShare (by omega) rfl trivial ?_
  exact pm_Wg.iret (pm_dec tk_L_setShare rfl) rfl rfl

set_option maxRecDepth 20000 in
set_option maxHeartbeats 20000000 in
theorem e_L_setShare_E {d : Nat} (hd : 7 ≤ d) {g1 g3 g6 g7 g8 g9 : List pm_E} {v1 v3 : Value} {q : Nat × Nat × Nat} {s0 : cs_S} {s4 : cs_S} {s5 : cs_S} {a0 : Int32} {a1 : Int32} {a2 : Int32} {a3 : Int32} {r : Int32} {z4 : cs_S} {o : Nat → Int64} (H : f_X8_setShare_E s0 s4 s5 a0 a1 a2 a3 = some (.inl r, z4)) : pm_Mt 320 d [.ref 0, .int a0, .int a1, .int a2, .int a3, .ref 128] (cl_h (ct_x v1 (.ref 320) v3 s0) g1 [.inl (1, 1, .inr (.inl (o)))] g3 (ct_p4 s4) (ct_e5 (.ref 256) (.ref 384) s5) g6 g7 g8 g9 q) (.inl (some (.int 0))) (cl_h (ct_x v1 (.ref 320) v3 s0) g1 [.inl (1, 1, .inr (.inl (vp_updL o (Int32.toNatClampNeg 0) (Int32.toInt64 r))))] g3 (ct_p4 z4) (ct_e5 (.ref 256) (.ref 384) s5) g6 g7 g8 g9 q) := by
  refine pm_Mt.ofH (by decide) (by decide +kernel) rfl rfl ?_
  obtain ⟨d, rfl⟩ : ∃ d', d = d' + 1 := ⟨d - 1, by omega⟩
  refine pm_Wg.path (k := 7) (ds := []) (f' := (9, [some (.ref 0), some (.int a0), some (.int a1), some (.int a2), some (.int a3), some (.ref 128), none], [.int a3, .int a2, .int a1, .int a0, .ref 0, .int 0, .ref 128], cl_h (ct_x v1 (.ref 320) v3 s0) g1 [.inl (1, 1, .inr (.inl (o)))] g3 (ct_p4 s4) (ct_e5 (.ref 256) (.ref 384) s5) g6 g7 g8 g9 q)) tk_L_setShare (by omega) rfl trivial ?_
  refine pm_Wg.callV (m' := 113) (ix := 52) (rr := 177) (pl := 1247) (b := 0) (As := [.int a0, .int a1, .int a2, .int a3]) (S := [.int 0, .ref 128]) (by decide) rfl (pm_dec tk_L_setShare rfl) rfl rfl (by decide) rfl rfl (by decide) (Nat.le_of_ble_eq_true rfl) rfl (e_X8_setShare_E (by omega) H) ?_
  refine pm_Wg.path (k := 4) (ds := []) (f' := (26, [some (.ref 0), some (.int a0), some (.int a1), some (.int a2), some (.int a3), some (.ref 128), none], [.int 0], cl_h (ct_x v1 (.ref 320) v3 s0) g1 [.inl (1, 1, .inr (.inl (vp_updL o (Int32.toNatClampNeg 0) (Int32.toInt64 r))))] g3 (ct_p4 z4) (ct_e5 (.ref 256) (.ref 384) s5) g6 g7 g8 g9 q)) tk_L_setShare (by omega) rfl ⟨pm_inb_vp (i := 0) (n := 1) rfl, trivial⟩ ?_
  exact pm_Wg.iret (pm_dec tk_L_setShare rfl) rfl rfl
set_option maxRecDepth 20000 in
set_option maxHeartbeats 20000000 in
theorem e_L_setShare_E_t1 {d : Nat} (hd : 7 ≤ d) {g1 g3 g6 g7 g8 g9 : List pm_E} {v1 v3 : Value} {q : Nat × Nat × Nat} {s0 : cs_S} {s4 : cs_S} {s5 : cs_S} {a0 : Int32} {a1 : Int32} {a2 : Int32} {a3 : Int32} {z4 : cs_S} {o : Nat → Int64} (H : f_X8_setShare_E s0 s4 s5 a0 a1 a2 a3 = some (.inr 1, z4)) : pm_Mt 320 d [.ref 0, .int a0, .int a1, .int a2, .int a3, .ref 128] (cl_h (ct_x v1 (.ref 320) v3 s0) g1 [.inl (1, 1, .inr (.inl (o)))] g3 (ct_p4 s4) (ct_e5 (.ref 256) (.ref 384) s5) g6 g7 g8 g9 q) (.inl (some (.int 2))) (cl_h (ct_x v1 (.ref 320) v3 s0) g1 [.inl (1, 1, .inr (.inl (o)))] g3 (ct_p4 z4) (ct_e5 (.ref 256) (.ref 384) s5) g6 g7 g8 g9 (q.1, q.2.1 + 1, q.2.2 + 6)) := by
  refine pm_Mt.ofH (by decide) (by decide +kernel) rfl rfl ?_
  obtain ⟨d, rfl⟩ : ∃ d', d = d' + 1 := ⟨d - 1, by omega⟩
  refine pm_Wg.path (k := 7) (ds := []) (f' := (9, [some (.ref 0), some (.int a0), some (.int a1), some (.int a2), some (.int a3), some (.ref 128), none], [.int a3, .int a2, .int a1, .int a0, .ref 0, .int 0, .ref 128], cl_h (ct_x v1 (.ref 320) v3 s0) g1 [.inl (1, 1, .inr (.inl (o)))] g3 (ct_p4 s4) (ct_e5 (.ref 256) (.ref 384) s5) g6 g7 g8 g9 q)) tk_L_setShare (by omega) rfl trivial ?_
  refine pm_Wg.callC (m' := 113) (ix := 52) (rr := 177) (pl := 1247) (b := 0) (As := [.int a0, .int a1, .int a2, .int a3]) (S := [.int 0, .ref 128]) (k := 6) (nx := 23) (pre := [(0, 14, 17, 27)]) (x := (0, 14, 21, 19)) (suf := []) (by decide) rfl (pm_dec tk_L_setShare rfl) rfl rfl (by decide) rfl rfl (by decide) (Nat.le_of_ble_eq_true rfl) rfl rfl (fun z hz => by
    rcases List.mem_cons.mp hz with hz0 | hz
    · subst hz0; exact ⟨by decide, _, px_l2, by decide +kernel⟩
    cases hz) (by decide +kernel) (by decide) px_l1 px_c1 (Or.inr ⟨by decide +kernel, rfl⟩) (Nat.le_of_ble_eq_true rfl) (fun z hz => by cases hz) (e_X8_setShare_E_t1 (by omega) H) ?_
  refine pm_Wg.path (k := 1) (ds := []) (f' := (24, [some (.ref 0), some (.int a0), some (.int a1), some (.int a2), some (.int a3), some (.ref 128), none], [.int 2], cl_h (ct_x v1 (.ref 320) v3 s0) g1 [.inl (1, 1, .inr (.inl (o)))] g3 (ct_p4 z4) (ct_e5 (.ref 256) (.ref 384) s5) g6 g7 g8 g9 (q.1, q.2.1 + 1, q.2.2 + 6))) tk_L_setShare (by omega) rfl trivial ?_
  exact pm_Wg.iret (pm_dec tk_L_setShare rfl) rfl rfl
set_option maxRecDepth 20000 in
set_option maxHeartbeats 20000000 in
theorem e_L_setShare_E_t2 {d : Nat} (hd : 7 ≤ d) {g1 g3 g6 g7 g8 g9 : List pm_E} {v1 v3 : Value} {q : Nat × Nat × Nat} {s0 : cs_S} {s4 : cs_S} {s5 : cs_S} {a0 : Int32} {a1 : Int32} {a2 : Int32} {a3 : Int32} {z4 : cs_S} {o : Nat → Int64} (H : f_X8_setShare_E s0 s4 s5 a0 a1 a2 a3 = some (.inr 2, z4)) : pm_Mt 320 d [.ref 0, .int a0, .int a1, .int a2, .int a3, .ref 128] (cl_h (ct_x v1 (.ref 320) v3 s0) g1 [.inl (1, 1, .inr (.inl (o)))] g3 (ct_p4 s4) (ct_e5 (.ref 256) (.ref 384) s5) g6 g7 g8 g9 q) (.inl (some (.int 1))) (cl_h (ct_x v1 (.ref 320) v3 s0) g1 [.inl (1, 1, .inr (.inl (o)))] g3 (ct_p4 z4) (ct_e5 (.ref 256) (.ref 384) s5) g6 g7 g8 g9 (q.1, q.2.1 + 1, q.2.2 + 6)) := by
  refine pm_Mt.ofH (by decide) (by decide +kernel) rfl rfl ?_
  obtain ⟨d, rfl⟩ : ∃ d', d = d' + 1 := ⟨d - 1, by omega⟩
  refine pm_Wg.path (k := 7) (ds := []) (f' := (9, [some (.ref 0), some (.int a0), some (.int a1), some (.int a2), some (.int a3), some (.ref 128), none], [.int a3, .int a2, .int a1, .int a0, .ref 0, .int 0, .ref 128], cl_h (ct_x v1 (.ref 320) v3 s0) g1 [.inl (1, 1, .inr (.inl (o)))] g3 (ct_p4 s4) (ct_e5 (.ref 256) (.ref 384) s5) g6 g7 g8 g9 q)) tk_L_setShare (by omega) rfl trivial ?_
  refine pm_Wg.callC (m' := 113) (ix := 52) (rr := 177) (pl := 1247) (b := 0) (As := [.int a0, .int a1, .int a2, .int a3]) (S := [.int 0, .ref 128]) (k := 6) (nx := 19) (pre := []) (x := (0, 14, 17, 27)) (suf := [(0, 14, 21, 19)]) (by decide) rfl (pm_dec tk_L_setShare rfl) rfl rfl (by decide) rfl rfl (by decide) (Nat.le_of_ble_eq_true rfl) rfl rfl (fun z hz => by cases hz) (by decide +kernel) (by decide) px_l2 px_c2 (Or.inr ⟨by decide +kernel, rfl⟩) (Nat.le_of_ble_eq_true rfl) (fun z hz => by cases hz) (e_X8_setShare_E_t2 (by omega) H) ?_
  refine pm_Wg.path (k := 1) (ds := []) (f' := (20, [some (.ref 0), some (.int a0), some (.int a1), some (.int a2), some (.int a3), some (.ref 128), none], [.int 1], cl_h (ct_x v1 (.ref 320) v3 s0) g1 [.inl (1, 1, .inr (.inl (o)))] g3 (ct_p4 z4) (ct_e5 (.ref 256) (.ref 384) s5) g6 g7 g8 g9 (q.1, q.2.1 + 1, q.2.2 + 6))) tk_L_setShare (by omega) rfl trivial ?_
  exact pm_Wg.iret (pm_dec tk_L_setShare rfl) rfl rfl

def tb_L_queueLength : List pm_I := [(0, .aload_n 3, 0, 0), (1, .iconst 0, 2, 0), (2, .aload_n 0, 0, 0), (3, .iload_n 1, 0, 0), (4, .iload_n 2, 0, 0), (5, .invokevirtual 56, 180, 0), (8, .i2l, 0, 0), (9, .lastore, 0, 0), (10, .goto 7, 17, 0), (13, .astore 4, 0, 0), (15, .iconst 1, 3, 0), (16, .ireturn, 0, 0), (17, .iconst 0, 2, 0), (18, .ireturn, 0, 0)]
theorem tk_L_queueLength : ∀ e ∈ tb_L_queueLength, pm_ck 321 e = true := List.all_eq_true.mp (by decide +kernel)

set_option maxRecDepth 20000 in
set_option maxHeartbeats 20000000 in
theorem e_L_queueLength_N_t2 {d : Nat} (hd : 7 ≤ d) {g1 g3 g4 g5 g6 g7 g8 g9 : List pm_E} {v1 v3 : Value} {q : Nat × Nat × Nat} {s0 : cs_S} {a0 : Int32} {a1 : Int32} {o : Nat → Int64} (H : f_X8_queueLength_N s0 a0 a1 = some (.inr 2)) : pm_Mt 321 d [.ref 0, .int a0, .int a1, .ref 128] (cl_h (ct_x v1 (.null) v3 s0) g1 [.inl (1, 1, .inr (.inl (o)))] g3 g4 g5 g6 g7 g8 g9 q) (.inl (some (.int 1))) (cl_h (ct_x v1 (.null) v3 s0) g1 [.inl (1, 1, .inr (.inl (o)))] g3 g4 g5 g6 g7 g8 g9 (q.1, q.2.1 + 1, q.2.2 + 6)) := by
  refine pm_Mt.ofH (by decide) (by decide +kernel) rfl rfl ?_
  obtain ⟨d, rfl⟩ : ∃ d', d = d' + 1 := ⟨d - 1, by omega⟩
  refine pm_Wg.path (k := 5) (ds := []) (f' := (5, [some (.ref 0), some (.int a0), some (.int a1), some (.ref 128), none], [.int a1, .int a0, .ref 0, .int 0, .ref 128], cl_h (ct_x v1 (.null) v3 s0) g1 [.inl (1, 1, .inr (.inl (o)))] g3 g4 g5 g6 g7 g8 g9 q)) tk_L_queueLength (by omega) rfl trivial ?_
  refine pm_Wg.callC (m' := 116) (ix := 56) (rr := 180) (pl := 1258) (b := 0) (As := [.int a0, .int a1]) (S := [.int 0, .ref 128]) (k := 4) (nx := 15) (pre := []) (x := (0, 10, 13, 27)) (suf := []) (by decide) rfl (pm_dec tk_L_queueLength rfl) rfl rfl (by decide) rfl rfl (by decide) (Nat.le_of_ble_eq_true rfl) rfl rfl (fun z hz => by cases hz) (by decide +kernel) (by decide) px_l2 px_c2 (Or.inr ⟨by decide +kernel, rfl⟩) (Nat.le_of_ble_eq_true rfl) (fun z hz => by cases hz) (e_X8_queueLength_N_t2 (by omega) H) ?_
  refine pm_Wg.path (k := 1) (ds := []) (f' := (16, [some (.ref 0), some (.int a0), some (.int a1), some (.ref 128), none], [.int 1], cl_h (ct_x v1 (.null) v3 s0) g1 [.inl (1, 1, .inr (.inl (o)))] g3 g4 g5 g6 g7 g8 g9 (q.1, q.2.1 + 1, q.2.2 + 6))) tk_L_queueLength (by omega) rfl trivial ?_
  exact pm_Wg.iret (pm_dec tk_L_queueLength rfl) rfl rfl

set_option maxRecDepth 20000 in
set_option maxHeartbeats 20000000 in
theorem e_L_queueLength_E {d : Nat} (hd : 7 ≤ d) {g1 g3 g6 g7 g8 g9 : List pm_E} {v1 v3 : Value} {q : Nat × Nat × Nat} {s0 : cs_S} {s4 : cs_S} {s5 : cs_S} {a0 : Int32} {a1 : Int32} {r : Int32} {o : Nat → Int64} (H : f_X8_queueLength_E s0 s4 s5 a0 a1 = some (.inl r)) : pm_Mt 321 d [.ref 0, .int a0, .int a1, .ref 128] (cl_h (ct_x v1 (.ref 320) v3 s0) g1 [.inl (1, 1, .inr (.inl (o)))] g3 (ct_p4 s4) (ct_e5 (.ref 256) (.ref 384) s5) g6 g7 g8 g9 q) (.inl (some (.int 0))) (cl_h (ct_x v1 (.ref 320) v3 s0) g1 [.inl (1, 1, .inr (.inl (vp_updL o (Int32.toNatClampNeg 0) (Int32.toInt64 r))))] g3 (ct_p4 s4) (ct_e5 (.ref 256) (.ref 384) s5) g6 g7 g8 g9 q) := by
  refine pm_Mt.ofH (by decide) (by decide +kernel) rfl rfl ?_
  obtain ⟨d, rfl⟩ : ∃ d', d = d' + 1 := ⟨d - 1, by omega⟩
  refine pm_Wg.path (k := 5) (ds := []) (f' := (5, [some (.ref 0), some (.int a0), some (.int a1), some (.ref 128), none], [.int a1, .int a0, .ref 0, .int 0, .ref 128], cl_h (ct_x v1 (.ref 320) v3 s0) g1 [.inl (1, 1, .inr (.inl (o)))] g3 (ct_p4 s4) (ct_e5 (.ref 256) (.ref 384) s5) g6 g7 g8 g9 q)) tk_L_queueLength (by omega) rfl trivial ?_
  refine pm_Wg.callV (m' := 116) (ix := 56) (rr := 180) (pl := 1258) (b := 0) (As := [.int a0, .int a1]) (S := [.int 0, .ref 128]) (by decide) rfl (pm_dec tk_L_queueLength rfl) rfl rfl (by decide) rfl rfl (by decide) (Nat.le_of_ble_eq_true rfl) rfl (e_X8_queueLength_E (by omega) H) ?_
  refine pm_Wg.path (k := 4) (ds := []) (f' := (18, [some (.ref 0), some (.int a0), some (.int a1), some (.ref 128), none], [.int 0], cl_h (ct_x v1 (.ref 320) v3 s0) g1 [.inl (1, 1, .inr (.inl (vp_updL o (Int32.toNatClampNeg 0) (Int32.toInt64 r))))] g3 (ct_p4 s4) (ct_e5 (.ref 256) (.ref 384) s5) g6 g7 g8 g9 q)) tk_L_queueLength (by omega) rfl ⟨pm_inb_vp (i := 0) (n := 1) rfl, trivial⟩ ?_
  exact pm_Wg.iret (pm_dec tk_L_queueLength rfl) rfl rfl
set_option maxRecDepth 20000 in
set_option maxHeartbeats 20000000 in
theorem e_L_queueLength_E_t2 {d : Nat} (hd : 7 ≤ d) {g1 g3 g6 g7 g8 g9 : List pm_E} {v1 v3 : Value} {q : Nat × Nat × Nat} {s0 : cs_S} {s4 : cs_S} {s5 : cs_S} {a0 : Int32} {a1 : Int32} {o : Nat → Int64} (H : f_X8_queueLength_E s0 s4 s5 a0 a1 = some (.inr 2)) : pm_Mt 321 d [.ref 0, .int a0, .int a1, .ref 128] (cl_h (ct_x v1 (.ref 320) v3 s0) g1 [.inl (1, 1, .inr (.inl (o)))] g3 (ct_p4 s4) (ct_e5 (.ref 256) (.ref 384) s5) g6 g7 g8 g9 q) (.inl (some (.int 1))) (cl_h (ct_x v1 (.ref 320) v3 s0) g1 [.inl (1, 1, .inr (.inl (o)))] g3 (ct_p4 s4) (ct_e5 (.ref 256) (.ref 384) s5) g6 g7 g8 g9 (q.1, q.2.1 + 1, q.2.2 + 6)) := by
  refine pm_Mt.ofH (by decide) (by decide +kernel) rfl rfl ?_
  obtain ⟨d, rfl⟩ : ∃ d', d = d' + 1 := ⟨d - 1, by omega⟩
  refine pm_Wg.path (k := 5) (ds := []) (f' := (5, [some (.ref 0), some (.int a0), some (.int a1), some (.ref 128), none], [.int a1, .int a0, .ref 0, .int 0, .ref 128], cl_h (ct_x v1 (.ref 320) v3 s0) g1 [.inl (1, 1, .inr (.inl (o)))] g3 (ct_p4 s4) (ct_e5 (.ref 256) (.ref 384) s5) g6 g7 g8 g9 q)) tk_L_queueLength (by omega) rfl trivial ?_
  refine pm_Wg.callC (m' := 116) (ix := 56) (rr := 180) (pl := 1258) (b := 0) (As := [.int a0, .int a1]) (S := [.int 0, .ref 128]) (k := 4) (nx := 15) (pre := []) (x := (0, 10, 13, 27)) (suf := []) (by decide) rfl (pm_dec tk_L_queueLength rfl) rfl rfl (by decide) rfl rfl (by decide) (Nat.le_of_ble_eq_true rfl) rfl rfl (fun z hz => by cases hz) (by decide +kernel) (by decide) px_l2 px_c2 (Or.inr ⟨by decide +kernel, rfl⟩) (Nat.le_of_ble_eq_true rfl) (fun z hz => by cases hz) (e_X8_queueLength_E_t2 (by omega) H) ?_
  refine pm_Wg.path (k := 1) (ds := []) (f' := (16, [some (.ref 0), some (.int a0), some (.int a1), some (.ref 128), none], [.int 1], cl_h (ct_x v1 (.ref 320) v3 s0) g1 [.inl (1, 1, .inr (.inl (o)))] g3 (ct_p4 s4) (ct_e5 (.ref 256) (.ref 384) s5) g6 g7 g8 g9 (q.1, q.2.1 + 1, q.2.2 + 6))) tk_L_queueLength (by omega) rfl trivial ?_
  exact pm_Wg.iret (pm_dec tk_L_queueLength rfl) rfl rfl

def tb_L_tag : List pm_I := [(0, .aload 4, 0, 0), (2, .iconst 0, 2, 0), (3, .aload_n 0, 0, 0), (4, .iload_n 1, 0, 0), (5, .iload_n 2, 0, 0), (6, .iload_n 3, 0, 0), (7, .invokevirtual 59, 186, 0), (10, .lastore, 0, 0), (11, .goto 11, 22, 0), (14, .astore 5, 0, 0), (16, .iconst 1, 3, 0), (17, .ireturn, 0, 0), (18, .astore 5, 0, 0), (20, .iconst 2, 4, 0), (21, .ireturn, 0, 0), (22, .iconst 0, 2, 0), (23, .ireturn, 0, 0)]
theorem tk_L_tag : ∀ e ∈ tb_L_tag, pm_ck 322 e = true := List.all_eq_true.mp (by decide +kernel)

set_option maxRecDepth 20000 in
set_option maxHeartbeats 20000000 in
theorem e_L_tag_N_t2 {d : Nat} (hd : 7 ≤ d) {g1 g3 g4 g5 g6 g7 g8 g9 : List pm_E} {v1 v3 : Value} {q : Nat × Nat × Nat} {s0 : cs_S} {a0 : Int32} {a1 : Int32} {a2 : Int32} {o : Nat → Int64} (H : f_X8_tag_N s0 a0 a1 a2 = some (.inr 2)) : pm_Mt 322 d [.ref 0, .int a0, .int a1, .int a2, .ref 128] (cl_h (ct_x v1 (.null) v3 s0) g1 [.inl (1, 1, .inr (.inl (o)))] g3 g4 g5 g6 g7 g8 g9 q) (.inl (some (.int 1))) (cl_h (ct_x v1 (.null) v3 s0) g1 [.inl (1, 1, .inr (.inl (o)))] g3 g4 g5 g6 g7 g8 g9 (q.1, q.2.1 + 1, q.2.2 + 6)) := by
  refine pm_Mt.ofH (by decide) (by decide +kernel) rfl rfl ?_
  obtain ⟨d, rfl⟩ : ∃ d', d = d' + 1 := ⟨d - 1, by omega⟩
  refine pm_Wg.path (k := 6) (ds := []) (f' := (7, [some (.ref 0), some (.int a0), some (.int a1), some (.int a2), some (.ref 128), none], [.int a2, .int a1, .int a0, .ref 0, .int 0, .ref 128], cl_h (ct_x v1 (.null) v3 s0) g1 [.inl (1, 1, .inr (.inl (o)))] g3 g4 g5 g6 g7 g8 g9 q)) tk_L_tag (by omega) rfl trivial ?_
  refine pm_Wg.callC (m' := 117) (ix := 59) (rr := 186) (pl := 1276) (b := 0) (As := [.int a0, .int a1, .int a2]) (S := [.int 0, .ref 128]) (k := 5) (nx := 16) (pre := []) (x := (0, 11, 14, 27)) (suf := [(0, 11, 18, 19)]) (by decide) rfl (pm_dec tk_L_tag rfl) rfl rfl (by decide) rfl rfl (by decide) (Nat.le_of_ble_eq_true rfl) rfl rfl (fun z hz => by cases hz) (by decide +kernel) (by decide) px_l2 px_c2 (Or.inr ⟨by decide +kernel, rfl⟩) (Nat.le_of_ble_eq_true rfl) (fun z hz => by cases hz) (e_X8_tag_N_t2 (by omega) H) ?_
  refine pm_Wg.path (k := 1) (ds := []) (f' := (17, [some (.ref 0), some (.int a0), some (.int a1), some (.int a2), some (.ref 128), none], [.int 1], cl_h (ct_x v1 (.null) v3 s0) g1 [.inl (1, 1, .inr (.inl (o)))] g3 g4 g5 g6 g7 g8 g9 (q.1, q.2.1 + 1, q.2.2 + 6))) tk_L_tag (by omega) rfl trivial ?_
  exact pm_Wg.iret (pm_dec tk_L_tag rfl) rfl rfl

set_option maxRecDepth 20000 in
set_option maxHeartbeats 20000000 in
theorem e_L_tag_E {d : Nat} (hd : 7 ≤ d) {g1 g3 g6 g7 g8 g9 : List pm_E} {v1 v3 : Value} {q : Nat × Nat × Nat} {s0 : cs_S} {s4 : cs_S} {s5 : cs_S} {a0 : Int32} {a1 : Int32} {a2 : Int32} {r : Int64} {o : Nat → Int64} (H : f_X8_tag_E s0 s4 s5 a0 a1 a2 = some (.inl r)) : pm_Mt 322 d [.ref 0, .int a0, .int a1, .int a2, .ref 128] (cl_h (ct_x v1 (.ref 320) v3 s0) g1 [.inl (1, 1, .inr (.inl (o)))] g3 (ct_p4 s4) (ct_e5 (.ref 256) (.ref 384) s5) g6 g7 g8 g9 q) (.inl (some (.int 0))) (cl_h (ct_x v1 (.ref 320) v3 s0) g1 [.inl (1, 1, .inr (.inl (vp_updL o (Int32.toNatClampNeg 0) r)))] g3 (ct_p4 s4) (ct_e5 (.ref 256) (.ref 384) s5) g6 g7 g8 g9 q) := by
  refine pm_Mt.ofH (by decide) (by decide +kernel) rfl rfl ?_
  obtain ⟨d, rfl⟩ : ∃ d', d = d' + 1 := ⟨d - 1, by omega⟩
  refine pm_Wg.path (k := 6) (ds := []) (f' := (7, [some (.ref 0), some (.int a0), some (.int a1), some (.int a2), some (.ref 128), none], [.int a2, .int a1, .int a0, .ref 0, .int 0, .ref 128], cl_h (ct_x v1 (.ref 320) v3 s0) g1 [.inl (1, 1, .inr (.inl (o)))] g3 (ct_p4 s4) (ct_e5 (.ref 256) (.ref 384) s5) g6 g7 g8 g9 q)) tk_L_tag (by omega) rfl trivial ?_
  refine pm_Wg.callV (m' := 117) (ix := 59) (rr := 186) (pl := 1276) (b := 0) (As := [.int a0, .int a1, .int a2]) (S := [.int 0, .ref 128]) (by decide) rfl (pm_dec tk_L_tag rfl) rfl rfl (by decide) rfl rfl (by decide) (Nat.le_of_ble_eq_true rfl) rfl (e_X8_tag_E (by omega) H) ?_
  refine pm_Wg.path (k := 3) (ds := []) (f' := (23, [some (.ref 0), some (.int a0), some (.int a1), some (.int a2), some (.ref 128), none], [.int 0], cl_h (ct_x v1 (.ref 320) v3 s0) g1 [.inl (1, 1, .inr (.inl (vp_updL o (Int32.toNatClampNeg 0) r)))] g3 (ct_p4 s4) (ct_e5 (.ref 256) (.ref 384) s5) g6 g7 g8 g9 q)) tk_L_tag (by omega) rfl ⟨pm_inb_vp (i := 0) (n := 1) rfl, trivial⟩ ?_
  exact pm_Wg.iret (pm_dec tk_L_tag rfl) rfl rfl
set_option maxRecDepth 20000 in
set_option maxHeartbeats 20000000 in
theorem e_L_tag_E_t1 {d : Nat} (hd : 7 ≤ d) {g1 g3 g6 g7 g8 g9 : List pm_E} {v1 v3 : Value} {q : Nat × Nat × Nat} {s0 : cs_S} {s4 : cs_S} {s5 : cs_S} {a0 : Int32} {a1 : Int32} {a2 : Int32} {o : Nat → Int64} (H : f_X8_tag_E s0 s4 s5 a0 a1 a2 = some (.inr 1)) : pm_Mt 322 d [.ref 0, .int a0, .int a1, .int a2, .ref 128] (cl_h (ct_x v1 (.ref 320) v3 s0) g1 [.inl (1, 1, .inr (.inl (o)))] g3 (ct_p4 s4) (ct_e5 (.ref 256) (.ref 384) s5) g6 g7 g8 g9 q) (.inl (some (.int 2))) (cl_h (ct_x v1 (.ref 320) v3 s0) g1 [.inl (1, 1, .inr (.inl (o)))] g3 (ct_p4 s4) (ct_e5 (.ref 256) (.ref 384) s5) g6 g7 g8 g9 (q.1, q.2.1 + 1, q.2.2 + 6)) := by
  refine pm_Mt.ofH (by decide) (by decide +kernel) rfl rfl ?_
  obtain ⟨d, rfl⟩ : ∃ d', d = d' + 1 := ⟨d - 1, by omega⟩
  refine pm_Wg.path (k := 6) (ds := []) (f' := (7, [some (.ref 0), some (.int a0), some (.int a1), some (.int a2), some (.ref 128), none], [.int a2, .int a1, .int a0, .ref 0, .int 0, .ref 128], cl_h (ct_x v1 (.ref 320) v3 s0) g1 [.inl (1, 1, .inr (.inl (o)))] g3 (ct_p4 s4) (ct_e5 (.ref 256) (.ref 384) s5) g6 g7 g8 g9 q)) tk_L_tag (by omega) rfl trivial ?_
  refine pm_Wg.callC (m' := 117) (ix := 59) (rr := 186) (pl := 1276) (b := 0) (As := [.int a0, .int a1, .int a2]) (S := [.int 0, .ref 128]) (k := 5) (nx := 20) (pre := [(0, 11, 14, 27)]) (x := (0, 11, 18, 19)) (suf := []) (by decide) rfl (pm_dec tk_L_tag rfl) rfl rfl (by decide) rfl rfl (by decide) (Nat.le_of_ble_eq_true rfl) rfl rfl (fun z hz => by
    rcases List.mem_cons.mp hz with hz0 | hz
    · subst hz0; exact ⟨by decide, _, px_l2, by decide +kernel⟩
    cases hz) (by decide +kernel) (by decide) px_l1 px_c1 (Or.inr ⟨by decide +kernel, rfl⟩) (Nat.le_of_ble_eq_true rfl) (fun z hz => by cases hz) (e_X8_tag_E_t1 (by omega) H) ?_
  refine pm_Wg.path (k := 1) (ds := []) (f' := (21, [some (.ref 0), some (.int a0), some (.int a1), some (.int a2), some (.ref 128), none], [.int 2], cl_h (ct_x v1 (.ref 320) v3 s0) g1 [.inl (1, 1, .inr (.inl (o)))] g3 (ct_p4 s4) (ct_e5 (.ref 256) (.ref 384) s5) g6 g7 g8 g9 (q.1, q.2.1 + 1, q.2.2 + 6))) tk_L_tag (by omega) rfl trivial ?_
  exact pm_Wg.iret (pm_dec tk_L_tag rfl) rfl rfl
set_option maxRecDepth 20000 in
set_option maxHeartbeats 20000000 in
theorem e_L_tag_E_t2 {d : Nat} (hd : 7 ≤ d) {g1 g3 g6 g7 g8 g9 : List pm_E} {v1 v3 : Value} {q : Nat × Nat × Nat} {s0 : cs_S} {s4 : cs_S} {s5 : cs_S} {a0 : Int32} {a1 : Int32} {a2 : Int32} {o : Nat → Int64} (H : f_X8_tag_E s0 s4 s5 a0 a1 a2 = some (.inr 2)) : pm_Mt 322 d [.ref 0, .int a0, .int a1, .int a2, .ref 128] (cl_h (ct_x v1 (.ref 320) v3 s0) g1 [.inl (1, 1, .inr (.inl (o)))] g3 (ct_p4 s4) (ct_e5 (.ref 256) (.ref 384) s5) g6 g7 g8 g9 q) (.inl (some (.int 1))) (cl_h (ct_x v1 (.ref 320) v3 s0) g1 [.inl (1, 1, .inr (.inl (o)))] g3 (ct_p4 s4) (ct_e5 (.ref 256) (.ref 384) s5) g6 g7 g8 g9 (q.1, q.2.1 + 1, q.2.2 + 6)) := by
  refine pm_Mt.ofH (by decide) (by decide +kernel) rfl rfl ?_
  obtain ⟨d, rfl⟩ : ∃ d', d = d' + 1 := ⟨d - 1, by omega⟩
  refine pm_Wg.path (k := 6) (ds := []) (f' := (7, [some (.ref 0), some (.int a0), some (.int a1), some (.int a2), some (.ref 128), none], [.int a2, .int a1, .int a0, .ref 0, .int 0, .ref 128], cl_h (ct_x v1 (.ref 320) v3 s0) g1 [.inl (1, 1, .inr (.inl (o)))] g3 (ct_p4 s4) (ct_e5 (.ref 256) (.ref 384) s5) g6 g7 g8 g9 q)) tk_L_tag (by omega) rfl trivial ?_
  refine pm_Wg.callC (m' := 117) (ix := 59) (rr := 186) (pl := 1276) (b := 0) (As := [.int a0, .int a1, .int a2]) (S := [.int 0, .ref 128]) (k := 5) (nx := 16) (pre := []) (x := (0, 11, 14, 27)) (suf := [(0, 11, 18, 19)]) (by decide) rfl (pm_dec tk_L_tag rfl) rfl rfl (by decide) rfl rfl (by decide) (Nat.le_of_ble_eq_true rfl) rfl rfl (fun z hz => by cases hz) (by decide +kernel) (by decide) px_l2 px_c2 (Or.inr ⟨by decide +kernel, rfl⟩) (Nat.le_of_ble_eq_true rfl) (fun z hz => by cases hz) (e_X8_tag_E_t2 (by omega) H) ?_
  refine pm_Wg.path (k := 1) (ds := []) (f' := (17, [some (.ref 0), some (.int a0), some (.int a1), some (.int a2), some (.ref 128), none], [.int 1], cl_h (ct_x v1 (.ref 320) v3 s0) g1 [.inl (1, 1, .inr (.inl (o)))] g3 (ct_p4 s4) (ct_e5 (.ref 256) (.ref 384) s5) g6 g7 g8 g9 (q.1, q.2.1 + 1, q.2.2 + 6))) tk_L_tag (by omega) rfl trivial ?_
  exact pm_Wg.iret (pm_dec tk_L_tag rfl) rfl rfl

def tb_L_serving : List pm_I := [(0, .aload_n 2, 0, 0), (1, .iconst 0, 2, 0), (2, .aload_n 0, 0, 0), (3, .iload_n 1, 0, 0), (4, .invokevirtual 63, 189, 0), (7, .i2l, 0, 0), (8, .lastore, 0, 0), (9, .goto 6, 15, 0), (12, .astore_n 3, 0, 0), (13, .iconst 1, 3, 0), (14, .ireturn, 0, 0), (15, .iconst 0, 2, 0), (16, .ireturn, 0, 0)]
theorem tk_L_serving : ∀ e ∈ tb_L_serving, pm_ck 323 e = true := List.all_eq_true.mp (by decide +kernel)

set_option maxRecDepth 20000 in
set_option maxHeartbeats 20000000 in
theorem e_L_serving_N_t2 {d : Nat} (hd : 7 ≤ d) {g1 g3 g4 g5 g6 g7 g8 g9 : List pm_E} {v1 v3 : Value} {q : Nat × Nat × Nat} {s0 : cs_S} {a0 : Int32} {o : Nat → Int64} (H : f_X8_serving_N s0 a0 = some (.inr 2)) : pm_Mt 323 d [.ref 0, .int a0, .ref 128] (cl_h (ct_x v1 (.null) v3 s0) g1 [.inl (1, 1, .inr (.inl (o)))] g3 g4 g5 g6 g7 g8 g9 q) (.inl (some (.int 1))) (cl_h (ct_x v1 (.null) v3 s0) g1 [.inl (1, 1, .inr (.inl (o)))] g3 g4 g5 g6 g7 g8 g9 (q.1, q.2.1 + 1, q.2.2 + 6)) := by
  refine pm_Mt.ofH (by decide) (by decide +kernel) rfl rfl ?_
  obtain ⟨d, rfl⟩ : ∃ d', d = d' + 1 := ⟨d - 1, by omega⟩
  refine pm_Wg.path (k := 4) (ds := []) (f' := (4, [some (.ref 0), some (.int a0), some (.ref 128), none], [.int a0, .ref 0, .int 0, .ref 128], cl_h (ct_x v1 (.null) v3 s0) g1 [.inl (1, 1, .inr (.inl (o)))] g3 g4 g5 g6 g7 g8 g9 q)) tk_L_serving (by omega) rfl trivial ?_
  refine pm_Wg.callC (m' := 118) (ix := 63) (rr := 189) (pl := 1286) (b := 0) (As := [.int a0]) (S := [.int 0, .ref 128]) (k := 3) (nx := 13) (pre := []) (x := (0, 9, 12, 27)) (suf := []) (by decide) rfl (pm_dec tk_L_serving rfl) rfl rfl (by decide) rfl rfl (by decide) (Nat.le_of_ble_eq_true rfl) rfl rfl (fun z hz => by cases hz) (by decide +kernel) (by decide) px_l2 px_c2 (Or.inl ⟨3, by decide +kernel, rfl, rfl⟩) (Nat.le_of_ble_eq_true rfl) (fun z hz => by cases hz) (e_X8_serving_N_t2 (by omega) H) ?_
  refine pm_Wg.path (k := 1) (ds := []) (f' := (14, [some (.ref 0), some (.int a0), some (.ref 128), none], [.int 1], cl_h (ct_x v1 (.null) v3 s0) g1 [.inl (1, 1, .inr (.inl (o)))] g3 g4 g5 g6 g7 g8 g9 (q.1, q.2.1 + 1, q.2.2 + 6))) tk_L_serving (by omega) rfl trivial ?_
  exact pm_Wg.iret (pm_dec tk_L_serving rfl) rfl rfl

set_option maxRecDepth 20000 in
set_option maxHeartbeats 20000000 in
theorem e_L_serving_E {d : Nat} (hd : 7 ≤ d) {g1 g3 g6 g7 g8 g9 : List pm_E} {v1 v3 : Value} {q : Nat × Nat × Nat} {s0 : cs_S} {s4 : cs_S} {s5 : cs_S} {a0 : Int32} {r : Int32} {o : Nat → Int64} (H : f_X8_serving_E s0 s4 s5 a0 = some (.inl r)) : pm_Mt 323 d [.ref 0, .int a0, .ref 128] (cl_h (ct_x v1 (.ref 320) v3 s0) g1 [.inl (1, 1, .inr (.inl (o)))] g3 (ct_p4 s4) (ct_e5 (.ref 256) (.ref 384) s5) g6 g7 g8 g9 q) (.inl (some (.int 0))) (cl_h (ct_x v1 (.ref 320) v3 s0) g1 [.inl (1, 1, .inr (.inl (vp_updL o (Int32.toNatClampNeg 0) (Int32.toInt64 r))))] g3 (ct_p4 s4) (ct_e5 (.ref 256) (.ref 384) s5) g6 g7 g8 g9 q) := by
  refine pm_Mt.ofH (by decide) (by decide +kernel) rfl rfl ?_
  obtain ⟨d, rfl⟩ : ∃ d', d = d' + 1 := ⟨d - 1, by omega⟩
  refine pm_Wg.path (k := 4) (ds := []) (f' := (4, [some (.ref 0), some (.int a0), some (.ref 128), none], [.int a0, .ref 0, .int 0, .ref 128], cl_h (ct_x v1 (.ref 320) v3 s0) g1 [.inl (1, 1, .inr (.inl (o)))] g3 (ct_p4 s4) (ct_e5 (.ref 256) (.ref 384) s5) g6 g7 g8 g9 q)) tk_L_serving (by omega) rfl trivial ?_
  refine pm_Wg.callV (m' := 118) (ix := 63) (rr := 189) (pl := 1286) (b := 0) (As := [.int a0]) (S := [.int 0, .ref 128]) (by decide) rfl (pm_dec tk_L_serving rfl) rfl rfl (by decide) rfl rfl (by decide) (Nat.le_of_ble_eq_true rfl) rfl (e_X8_serving_E (by omega) H) ?_
  refine pm_Wg.path (k := 4) (ds := []) (f' := (16, [some (.ref 0), some (.int a0), some (.ref 128), none], [.int 0], cl_h (ct_x v1 (.ref 320) v3 s0) g1 [.inl (1, 1, .inr (.inl (vp_updL o (Int32.toNatClampNeg 0) (Int32.toInt64 r))))] g3 (ct_p4 s4) (ct_e5 (.ref 256) (.ref 384) s5) g6 g7 g8 g9 q)) tk_L_serving (by omega) rfl ⟨pm_inb_vp (i := 0) (n := 1) rfl, trivial⟩ ?_
  exact pm_Wg.iret (pm_dec tk_L_serving rfl) rfl rfl
set_option maxRecDepth 20000 in
set_option maxHeartbeats 20000000 in
theorem e_L_serving_E_t2 {d : Nat} (hd : 7 ≤ d) {g1 g3 g6 g7 g8 g9 : List pm_E} {v1 v3 : Value} {q : Nat × Nat × Nat} {s0 : cs_S} {s4 : cs_S} {s5 : cs_S} {a0 : Int32} {o : Nat → Int64} (H : f_X8_serving_E s0 s4 s5 a0 = some (.inr 2)) : pm_Mt 323 d [.ref 0, .int a0, .ref 128] (cl_h (ct_x v1 (.ref 320) v3 s0) g1 [.inl (1, 1, .inr (.inl (o)))] g3 (ct_p4 s4) (ct_e5 (.ref 256) (.ref 384) s5) g6 g7 g8 g9 q) (.inl (some (.int 1))) (cl_h (ct_x v1 (.ref 320) v3 s0) g1 [.inl (1, 1, .inr (.inl (o)))] g3 (ct_p4 s4) (ct_e5 (.ref 256) (.ref 384) s5) g6 g7 g8 g9 (q.1, q.2.1 + 1, q.2.2 + 6)) := by
  refine pm_Mt.ofH (by decide) (by decide +kernel) rfl rfl ?_
  obtain ⟨d, rfl⟩ : ∃ d', d = d' + 1 := ⟨d - 1, by omega⟩
  refine pm_Wg.path (k := 4) (ds := []) (f' := (4, [some (.ref 0), some (.int a0), some (.ref 128), none], [.int a0, .ref 0, .int 0, .ref 128], cl_h (ct_x v1 (.ref 320) v3 s0) g1 [.inl (1, 1, .inr (.inl (o)))] g3 (ct_p4 s4) (ct_e5 (.ref 256) (.ref 384) s5) g6 g7 g8 g9 q)) tk_L_serving (by omega) rfl trivial ?_
  refine pm_Wg.callC (m' := 118) (ix := 63) (rr := 189) (pl := 1286) (b := 0) (As := [.int a0]) (S := [.int 0, .ref 128]) (k := 3) (nx := 13) (pre := []) (x := (0, 9, 12, 27)) (suf := []) (by decide) rfl (pm_dec tk_L_serving rfl) rfl rfl (by decide) rfl rfl (by decide) (Nat.le_of_ble_eq_true rfl) rfl rfl (fun z hz => by cases hz) (by decide +kernel) (by decide) px_l2 px_c2 (Or.inl ⟨3, by decide +kernel, rfl, rfl⟩) (Nat.le_of_ble_eq_true rfl) (fun z hz => by cases hz) (e_X8_serving_E_t2 (by omega) H) ?_
  refine pm_Wg.path (k := 1) (ds := []) (f' := (14, [some (.ref 0), some (.int a0), some (.ref 128), none], [.int 1], cl_h (ct_x v1 (.ref 320) v3 s0) g1 [.inl (1, 1, .inr (.inl (o)))] g3 (ct_p4 s4) (ct_e5 (.ref 256) (.ref 384) s5) g6 g7 g8 g9 (q.1, q.2.1 + 1, q.2.2 + 6))) tk_L_serving (by omega) rfl trivial ?_
  exact pm_Wg.iret (pm_dec tk_L_serving rfl) rfl rfl

def tb_L_busyUntil : List pm_I := [(0, .aload_n 2, 0, 0), (1, .iconst 0, 2, 0), (2, .aload_n 0, 0, 0), (3, .iload_n 1, 0, 0), (4, .invokevirtual 66, 193, 0), (7, .i2l, 0, 0), (8, .lastore, 0, 0), (9, .goto 6, 15, 0), (12, .astore_n 3, 0, 0), (13, .iconst 1, 3, 0), (14, .ireturn, 0, 0), (15, .iconst 0, 2, 0), (16, .ireturn, 0, 0)]
theorem tk_L_busyUntil : ∀ e ∈ tb_L_busyUntil, pm_ck 324 e = true := List.all_eq_true.mp (by decide +kernel)

set_option maxRecDepth 20000 in
set_option maxHeartbeats 20000000 in
theorem e_L_busyUntil_N_t2 {d : Nat} (hd : 7 ≤ d) {g1 g3 g4 g5 g6 g7 g8 g9 : List pm_E} {v1 v3 : Value} {q : Nat × Nat × Nat} {s0 : cs_S} {a0 : Int32} {o : Nat → Int64} (H : f_X8_busyUntil_N s0 a0 = some (.inr 2)) : pm_Mt 324 d [.ref 0, .int a0, .ref 128] (cl_h (ct_x v1 (.null) v3 s0) g1 [.inl (1, 1, .inr (.inl (o)))] g3 g4 g5 g6 g7 g8 g9 q) (.inl (some (.int 1))) (cl_h (ct_x v1 (.null) v3 s0) g1 [.inl (1, 1, .inr (.inl (o)))] g3 g4 g5 g6 g7 g8 g9 (q.1, q.2.1 + 1, q.2.2 + 6)) := by
  refine pm_Mt.ofH (by decide) (by decide +kernel) rfl rfl ?_
  obtain ⟨d, rfl⟩ : ∃ d', d = d' + 1 := ⟨d - 1, by omega⟩
  refine pm_Wg.path (k := 4) (ds := []) (f' := (4, [some (.ref 0), some (.int a0), some (.ref 128), none], [.int a0, .ref 0, .int 0, .ref 128], cl_h (ct_x v1 (.null) v3 s0) g1 [.inl (1, 1, .inr (.inl (o)))] g3 g4 g5 g6 g7 g8 g9 q)) tk_L_busyUntil (by omega) rfl trivial ?_
  refine pm_Wg.callC (m' := 119) (ix := 66) (rr := 193) (pl := 1298) (b := 0) (As := [.int a0]) (S := [.int 0, .ref 128]) (k := 3) (nx := 13) (pre := []) (x := (0, 9, 12, 27)) (suf := []) (by decide) rfl (pm_dec tk_L_busyUntil rfl) rfl rfl (by decide) rfl rfl (by decide) (Nat.le_of_ble_eq_true rfl) rfl rfl (fun z hz => by cases hz) (by decide +kernel) (by decide) px_l2 px_c2 (Or.inl ⟨3, by decide +kernel, rfl, rfl⟩) (Nat.le_of_ble_eq_true rfl) (fun z hz => by cases hz) (e_X8_busyUntil_N_t2 (by omega) H) ?_
  refine pm_Wg.path (k := 1) (ds := []) (f' := (14, [some (.ref 0), some (.int a0), some (.ref 128), none], [.int 1], cl_h (ct_x v1 (.null) v3 s0) g1 [.inl (1, 1, .inr (.inl (o)))] g3 g4 g5 g6 g7 g8 g9 (q.1, q.2.1 + 1, q.2.2 + 6))) tk_L_busyUntil (by omega) rfl trivial ?_
  exact pm_Wg.iret (pm_dec tk_L_busyUntil rfl) rfl rfl

set_option maxRecDepth 20000 in
set_option maxHeartbeats 20000000 in
theorem e_L_busyUntil_E {d : Nat} (hd : 7 ≤ d) {g1 g3 g6 g7 g8 g9 : List pm_E} {v1 v3 : Value} {q : Nat × Nat × Nat} {s0 : cs_S} {s4 : cs_S} {s5 : cs_S} {a0 : Int32} {r : Int32} {o : Nat → Int64} (H : f_X8_busyUntil_E s0 s4 s5 a0 = some (.inl r)) : pm_Mt 324 d [.ref 0, .int a0, .ref 128] (cl_h (ct_x v1 (.ref 320) v3 s0) g1 [.inl (1, 1, .inr (.inl (o)))] g3 (ct_p4 s4) (ct_e5 (.ref 256) (.ref 384) s5) g6 g7 g8 g9 q) (.inl (some (.int 0))) (cl_h (ct_x v1 (.ref 320) v3 s0) g1 [.inl (1, 1, .inr (.inl (vp_updL o (Int32.toNatClampNeg 0) (Int32.toInt64 r))))] g3 (ct_p4 s4) (ct_e5 (.ref 256) (.ref 384) s5) g6 g7 g8 g9 q) := by
  refine pm_Mt.ofH (by decide) (by decide +kernel) rfl rfl ?_
  obtain ⟨d, rfl⟩ : ∃ d', d = d' + 1 := ⟨d - 1, by omega⟩
  refine pm_Wg.path (k := 4) (ds := []) (f' := (4, [some (.ref 0), some (.int a0), some (.ref 128), none], [.int a0, .ref 0, .int 0, .ref 128], cl_h (ct_x v1 (.ref 320) v3 s0) g1 [.inl (1, 1, .inr (.inl (o)))] g3 (ct_p4 s4) (ct_e5 (.ref 256) (.ref 384) s5) g6 g7 g8 g9 q)) tk_L_busyUntil (by omega) rfl trivial ?_
  refine pm_Wg.callV (m' := 119) (ix := 66) (rr := 193) (pl := 1298) (b := 0) (As := [.int a0]) (S := [.int 0, .ref 128]) (by decide) rfl (pm_dec tk_L_busyUntil rfl) rfl rfl (by decide) rfl rfl (by decide) (Nat.le_of_ble_eq_true rfl) rfl (e_X8_busyUntil_E (by omega) H) ?_
  refine pm_Wg.path (k := 4) (ds := []) (f' := (16, [some (.ref 0), some (.int a0), some (.ref 128), none], [.int 0], cl_h (ct_x v1 (.ref 320) v3 s0) g1 [.inl (1, 1, .inr (.inl (vp_updL o (Int32.toNatClampNeg 0) (Int32.toInt64 r))))] g3 (ct_p4 s4) (ct_e5 (.ref 256) (.ref 384) s5) g6 g7 g8 g9 q)) tk_L_busyUntil (by omega) rfl ⟨pm_inb_vp (i := 0) (n := 1) rfl, trivial⟩ ?_
  exact pm_Wg.iret (pm_dec tk_L_busyUntil rfl) rfl rfl
set_option maxRecDepth 20000 in
set_option maxHeartbeats 20000000 in
theorem e_L_busyUntil_E_t2 {d : Nat} (hd : 7 ≤ d) {g1 g3 g6 g7 g8 g9 : List pm_E} {v1 v3 : Value} {q : Nat × Nat × Nat} {s0 : cs_S} {s4 : cs_S} {s5 : cs_S} {a0 : Int32} {o : Nat → Int64} (H : f_X8_busyUntil_E s0 s4 s5 a0 = some (.inr 2)) : pm_Mt 324 d [.ref 0, .int a0, .ref 128] (cl_h (ct_x v1 (.ref 320) v3 s0) g1 [.inl (1, 1, .inr (.inl (o)))] g3 (ct_p4 s4) (ct_e5 (.ref 256) (.ref 384) s5) g6 g7 g8 g9 q) (.inl (some (.int 1))) (cl_h (ct_x v1 (.ref 320) v3 s0) g1 [.inl (1, 1, .inr (.inl (o)))] g3 (ct_p4 s4) (ct_e5 (.ref 256) (.ref 384) s5) g6 g7 g8 g9 (q.1, q.2.1 + 1, q.2.2 + 6)) := by
  refine pm_Mt.ofH (by decide) (by decide +kernel) rfl rfl ?_
  obtain ⟨d, rfl⟩ : ∃ d', d = d' + 1 := ⟨d - 1, by omega⟩
  refine pm_Wg.path (k := 4) (ds := []) (f' := (4, [some (.ref 0), some (.int a0), some (.ref 128), none], [.int a0, .ref 0, .int 0, .ref 128], cl_h (ct_x v1 (.ref 320) v3 s0) g1 [.inl (1, 1, .inr (.inl (o)))] g3 (ct_p4 s4) (ct_e5 (.ref 256) (.ref 384) s5) g6 g7 g8 g9 q)) tk_L_busyUntil (by omega) rfl trivial ?_
  refine pm_Wg.callC (m' := 119) (ix := 66) (rr := 193) (pl := 1298) (b := 0) (As := [.int a0]) (S := [.int 0, .ref 128]) (k := 3) (nx := 13) (pre := []) (x := (0, 9, 12, 27)) (suf := []) (by decide) rfl (pm_dec tk_L_busyUntil rfl) rfl rfl (by decide) rfl rfl (by decide) (Nat.le_of_ble_eq_true rfl) rfl rfl (fun z hz => by cases hz) (by decide +kernel) (by decide) px_l2 px_c2 (Or.inl ⟨3, by decide +kernel, rfl, rfl⟩) (Nat.le_of_ble_eq_true rfl) (fun z hz => by cases hz) (e_X8_busyUntil_E_t2 (by omega) H) ?_
  refine pm_Wg.path (k := 1) (ds := []) (f' := (14, [some (.ref 0), some (.int a0), some (.ref 128), none], [.int 1], cl_h (ct_x v1 (.ref 320) v3 s0) g1 [.inl (1, 1, .inr (.inl (o)))] g3 (ct_p4 s4) (ct_e5 (.ref 256) (.ref 384) s5) g6 g7 g8 g9 (q.1, q.2.1 + 1, q.2.2 + 6))) tk_L_busyUntil (by omega) rfl trivial ?_
  exact pm_Wg.iret (pm_dec tk_L_busyUntil rfl) rfl rfl

def tb_L_position : List pm_I := [(0, .aload_n 2, 0, 0), (1, .iconst 0, 2, 0), (2, .aload_n 0, 0, 0), (3, .iload_n 1, 0, 0), (4, .invokevirtual 69, 195, 0), (7, .i2l, 0, 0), (8, .lastore, 0, 0), (9, .goto 6, 15, 0), (12, .astore_n 3, 0, 0), (13, .iconst 1, 3, 0), (14, .ireturn, 0, 0), (15, .iconst 0, 2, 0), (16, .ireturn, 0, 0)]
theorem tk_L_position : ∀ e ∈ tb_L_position, pm_ck 325 e = true := List.all_eq_true.mp (by decide +kernel)

set_option maxRecDepth 20000 in
set_option maxHeartbeats 20000000 in
theorem e_L_position_N_t2 {d : Nat} (hd : 7 ≤ d) {g1 g3 g4 g5 g6 g7 g8 g9 : List pm_E} {v1 v3 : Value} {q : Nat × Nat × Nat} {s0 : cs_S} {a0 : Int32} {o : Nat → Int64} (H : f_X8_position_N s0 a0 = some (.inr 2)) : pm_Mt 325 d [.ref 0, .int a0, .ref 128] (cl_h (ct_x v1 (.null) v3 s0) g1 [.inl (1, 1, .inr (.inl (o)))] g3 g4 g5 g6 g7 g8 g9 q) (.inl (some (.int 1))) (cl_h (ct_x v1 (.null) v3 s0) g1 [.inl (1, 1, .inr (.inl (o)))] g3 g4 g5 g6 g7 g8 g9 (q.1, q.2.1 + 1, q.2.2 + 6)) := by
  refine pm_Mt.ofH (by decide) (by decide +kernel) rfl rfl ?_
  obtain ⟨d, rfl⟩ : ∃ d', d = d' + 1 := ⟨d - 1, by omega⟩
  refine pm_Wg.path (k := 4) (ds := []) (f' := (4, [some (.ref 0), some (.int a0), some (.ref 128), none], [.int a0, .ref 0, .int 0, .ref 128], cl_h (ct_x v1 (.null) v3 s0) g1 [.inl (1, 1, .inr (.inl (o)))] g3 g4 g5 g6 g7 g8 g9 q)) tk_L_position (by omega) rfl trivial ?_
  refine pm_Wg.callC (m' := 120) (ix := 69) (rr := 195) (pl := 1305) (b := 0) (As := [.int a0]) (S := [.int 0, .ref 128]) (k := 3) (nx := 13) (pre := []) (x := (0, 9, 12, 27)) (suf := []) (by decide) rfl (pm_dec tk_L_position rfl) rfl rfl (by decide) rfl rfl (by decide) (Nat.le_of_ble_eq_true rfl) rfl rfl (fun z hz => by cases hz) (by decide +kernel) (by decide) px_l2 px_c2 (Or.inl ⟨3, by decide +kernel, rfl, rfl⟩) (Nat.le_of_ble_eq_true rfl) (fun z hz => by cases hz) (e_X8_position_N_t2 (by omega) H) ?_
  refine pm_Wg.path (k := 1) (ds := []) (f' := (14, [some (.ref 0), some (.int a0), some (.ref 128), none], [.int 1], cl_h (ct_x v1 (.null) v3 s0) g1 [.inl (1, 1, .inr (.inl (o)))] g3 g4 g5 g6 g7 g8 g9 (q.1, q.2.1 + 1, q.2.2 + 6))) tk_L_position (by omega) rfl trivial ?_
  exact pm_Wg.iret (pm_dec tk_L_position rfl) rfl rfl

set_option maxRecDepth 20000 in
set_option maxHeartbeats 20000000 in
theorem e_L_position_E {d : Nat} (hd : 7 ≤ d) {g1 g3 g6 g7 g8 g9 : List pm_E} {v1 v3 : Value} {q : Nat × Nat × Nat} {s0 : cs_S} {s4 : cs_S} {s5 : cs_S} {a0 : Int32} {r : Int32} {o : Nat → Int64} (H : f_X8_position_E s0 s4 s5 a0 = some (.inl r)) : pm_Mt 325 d [.ref 0, .int a0, .ref 128] (cl_h (ct_x v1 (.ref 320) v3 s0) g1 [.inl (1, 1, .inr (.inl (o)))] g3 (ct_p4 s4) (ct_e5 (.ref 256) (.ref 384) s5) g6 g7 g8 g9 q) (.inl (some (.int 0))) (cl_h (ct_x v1 (.ref 320) v3 s0) g1 [.inl (1, 1, .inr (.inl (vp_updL o (Int32.toNatClampNeg 0) (Int32.toInt64 r))))] g3 (ct_p4 s4) (ct_e5 (.ref 256) (.ref 384) s5) g6 g7 g8 g9 q) := by
  refine pm_Mt.ofH (by decide) (by decide +kernel) rfl rfl ?_
  obtain ⟨d, rfl⟩ : ∃ d', d = d' + 1 := ⟨d - 1, by omega⟩
  refine pm_Wg.path (k := 4) (ds := []) (f' := (4, [some (.ref 0), some (.int a0), some (.ref 128), none], [.int a0, .ref 0, .int 0, .ref 128], cl_h (ct_x v1 (.ref 320) v3 s0) g1 [.inl (1, 1, .inr (.inl (o)))] g3 (ct_p4 s4) (ct_e5 (.ref 256) (.ref 384) s5) g6 g7 g8 g9 q)) tk_L_position (by omega) rfl trivial ?_
  refine pm_Wg.callV (m' := 120) (ix := 69) (rr := 195) (pl := 1305) (b := 0) (As := [.int a0]) (S := [.int 0, .ref 128]) (by decide) rfl (pm_dec tk_L_position rfl) rfl rfl (by decide) rfl rfl (by decide) (Nat.le_of_ble_eq_true rfl) rfl (e_X8_position_E (by omega) H) ?_
  refine pm_Wg.path (k := 4) (ds := []) (f' := (16, [some (.ref 0), some (.int a0), some (.ref 128), none], [.int 0], cl_h (ct_x v1 (.ref 320) v3 s0) g1 [.inl (1, 1, .inr (.inl (vp_updL o (Int32.toNatClampNeg 0) (Int32.toInt64 r))))] g3 (ct_p4 s4) (ct_e5 (.ref 256) (.ref 384) s5) g6 g7 g8 g9 q)) tk_L_position (by omega) rfl ⟨pm_inb_vp (i := 0) (n := 1) rfl, trivial⟩ ?_
  exact pm_Wg.iret (pm_dec tk_L_position rfl) rfl rfl
set_option maxRecDepth 20000 in
set_option maxHeartbeats 20000000 in
theorem e_L_position_E_t2 {d : Nat} (hd : 7 ≤ d) {g1 g3 g6 g7 g8 g9 : List pm_E} {v1 v3 : Value} {q : Nat × Nat × Nat} {s0 : cs_S} {s4 : cs_S} {s5 : cs_S} {a0 : Int32} {o : Nat → Int64} (H : f_X8_position_E s0 s4 s5 a0 = some (.inr 2)) : pm_Mt 325 d [.ref 0, .int a0, .ref 128] (cl_h (ct_x v1 (.ref 320) v3 s0) g1 [.inl (1, 1, .inr (.inl (o)))] g3 (ct_p4 s4) (ct_e5 (.ref 256) (.ref 384) s5) g6 g7 g8 g9 q) (.inl (some (.int 1))) (cl_h (ct_x v1 (.ref 320) v3 s0) g1 [.inl (1, 1, .inr (.inl (o)))] g3 (ct_p4 s4) (ct_e5 (.ref 256) (.ref 384) s5) g6 g7 g8 g9 (q.1, q.2.1 + 1, q.2.2 + 6)) := by
  refine pm_Mt.ofH (by decide) (by decide +kernel) rfl rfl ?_
  obtain ⟨d, rfl⟩ : ∃ d', d = d' + 1 := ⟨d - 1, by omega⟩
  refine pm_Wg.path (k := 4) (ds := []) (f' := (4, [some (.ref 0), some (.int a0), some (.ref 128), none], [.int a0, .ref 0, .int 0, .ref 128], cl_h (ct_x v1 (.ref 320) v3 s0) g1 [.inl (1, 1, .inr (.inl (o)))] g3 (ct_p4 s4) (ct_e5 (.ref 256) (.ref 384) s5) g6 g7 g8 g9 q)) tk_L_position (by omega) rfl trivial ?_
  refine pm_Wg.callC (m' := 120) (ix := 69) (rr := 195) (pl := 1305) (b := 0) (As := [.int a0]) (S := [.int 0, .ref 128]) (k := 3) (nx := 13) (pre := []) (x := (0, 9, 12, 27)) (suf := []) (by decide) rfl (pm_dec tk_L_position rfl) rfl rfl (by decide) rfl rfl (by decide) (Nat.le_of_ble_eq_true rfl) rfl rfl (fun z hz => by cases hz) (by decide +kernel) (by decide) px_l2 px_c2 (Or.inl ⟨3, by decide +kernel, rfl, rfl⟩) (Nat.le_of_ble_eq_true rfl) (fun z hz => by cases hz) (e_X8_position_E_t2 (by omega) H) ?_
  refine pm_Wg.path (k := 1) (ds := []) (f' := (14, [some (.ref 0), some (.int a0), some (.ref 128), none], [.int 1], cl_h (ct_x v1 (.ref 320) v3 s0) g1 [.inl (1, 1, .inr (.inl (o)))] g3 (ct_p4 s4) (ct_e5 (.ref 256) (.ref 384) s5) g6 g7 g8 g9 (q.1, q.2.1 + 1, q.2.2 + 6))) tk_L_position (by omega) rfl trivial ?_
  exact pm_Wg.iret (pm_dec tk_L_position rfl) rfl rfl

def tb_L_busyTime : List pm_I := [(0, .aload_n 2, 0, 0), (1, .iconst 0, 2, 0), (2, .aload_n 0, 0, 0), (3, .iload_n 1, 0, 0), (4, .invokevirtual 72, 197, 0), (7, .i2l, 0, 0), (8, .lastore, 0, 0), (9, .goto 6, 15, 0), (12, .astore_n 3, 0, 0), (13, .iconst 1, 3, 0), (14, .ireturn, 0, 0), (15, .iconst 0, 2, 0), (16, .ireturn, 0, 0)]
theorem tk_L_busyTime : ∀ e ∈ tb_L_busyTime, pm_ck 326 e = true := List.all_eq_true.mp (by decide +kernel)

set_option maxRecDepth 20000 in
set_option maxHeartbeats 20000000 in
theorem e_L_busyTime_N_t2 {d : Nat} (hd : 7 ≤ d) {g1 g3 g4 g5 g6 g7 g8 g9 : List pm_E} {v1 v3 : Value} {q : Nat × Nat × Nat} {s0 : cs_S} {a0 : Int32} {o : Nat → Int64} (H : f_X8_busyTime_N s0 a0 = some (.inr 2)) : pm_Mt 326 d [.ref 0, .int a0, .ref 128] (cl_h (ct_x v1 (.null) v3 s0) g1 [.inl (1, 1, .inr (.inl (o)))] g3 g4 g5 g6 g7 g8 g9 q) (.inl (some (.int 1))) (cl_h (ct_x v1 (.null) v3 s0) g1 [.inl (1, 1, .inr (.inl (o)))] g3 g4 g5 g6 g7 g8 g9 (q.1, q.2.1 + 1, q.2.2 + 6)) := by
  refine pm_Mt.ofH (by decide) (by decide +kernel) rfl rfl ?_
  obtain ⟨d, rfl⟩ : ∃ d', d = d' + 1 := ⟨d - 1, by omega⟩
  refine pm_Wg.path (k := 4) (ds := []) (f' := (4, [some (.ref 0), some (.int a0), some (.ref 128), none], [.int a0, .ref 0, .int 0, .ref 128], cl_h (ct_x v1 (.null) v3 s0) g1 [.inl (1, 1, .inr (.inl (o)))] g3 g4 g5 g6 g7 g8 g9 q)) tk_L_busyTime (by omega) rfl trivial ?_
  refine pm_Wg.callC (m' := 121) (ix := 72) (rr := 197) (pl := 1312) (b := 0) (As := [.int a0]) (S := [.int 0, .ref 128]) (k := 3) (nx := 13) (pre := []) (x := (0, 9, 12, 27)) (suf := []) (by decide) rfl (pm_dec tk_L_busyTime rfl) rfl rfl (by decide) rfl rfl (by decide) (Nat.le_of_ble_eq_true rfl) rfl rfl (fun z hz => by cases hz) (by decide +kernel) (by decide) px_l2 px_c2 (Or.inl ⟨3, by decide +kernel, rfl, rfl⟩) (Nat.le_of_ble_eq_true rfl) (fun z hz => by cases hz) (e_X8_busyTime_N_t2 (by omega) H) ?_
  refine pm_Wg.path (k := 1) (ds := []) (f' := (14, [some (.ref 0), some (.int a0), some (.ref 128), none], [.int 1], cl_h (ct_x v1 (.null) v3 s0) g1 [.inl (1, 1, .inr (.inl (o)))] g3 g4 g5 g6 g7 g8 g9 (q.1, q.2.1 + 1, q.2.2 + 6))) tk_L_busyTime (by omega) rfl trivial ?_
  exact pm_Wg.iret (pm_dec tk_L_busyTime rfl) rfl rfl

set_option maxRecDepth 20000 in
set_option maxHeartbeats 20000000 in
theorem e_L_busyTime_E {d : Nat} (hd : 7 ≤ d) {g1 g3 g6 g7 g8 g9 : List pm_E} {v1 v3 : Value} {q : Nat × Nat × Nat} {s0 : cs_S} {s4 : cs_S} {s5 : cs_S} {a0 : Int32} {r : Int32} {o : Nat → Int64} (H : f_X8_busyTime_E s0 s4 s5 a0 = some (.inl r)) : pm_Mt 326 d [.ref 0, .int a0, .ref 128] (cl_h (ct_x v1 (.ref 320) v3 s0) g1 [.inl (1, 1, .inr (.inl (o)))] g3 (ct_p4 s4) (ct_e5 (.ref 256) (.ref 384) s5) g6 g7 g8 g9 q) (.inl (some (.int 0))) (cl_h (ct_x v1 (.ref 320) v3 s0) g1 [.inl (1, 1, .inr (.inl (vp_updL o (Int32.toNatClampNeg 0) (Int32.toInt64 r))))] g3 (ct_p4 s4) (ct_e5 (.ref 256) (.ref 384) s5) g6 g7 g8 g9 q) := by
  refine pm_Mt.ofH (by decide) (by decide +kernel) rfl rfl ?_
  obtain ⟨d, rfl⟩ : ∃ d', d = d' + 1 := ⟨d - 1, by omega⟩
  refine pm_Wg.path (k := 4) (ds := []) (f' := (4, [some (.ref 0), some (.int a0), some (.ref 128), none], [.int a0, .ref 0, .int 0, .ref 128], cl_h (ct_x v1 (.ref 320) v3 s0) g1 [.inl (1, 1, .inr (.inl (o)))] g3 (ct_p4 s4) (ct_e5 (.ref 256) (.ref 384) s5) g6 g7 g8 g9 q)) tk_L_busyTime (by omega) rfl trivial ?_
  refine pm_Wg.callV (m' := 121) (ix := 72) (rr := 197) (pl := 1312) (b := 0) (As := [.int a0]) (S := [.int 0, .ref 128]) (by decide) rfl (pm_dec tk_L_busyTime rfl) rfl rfl (by decide) rfl rfl (by decide) (Nat.le_of_ble_eq_true rfl) rfl (e_X8_busyTime_E (by omega) H) ?_
  refine pm_Wg.path (k := 4) (ds := []) (f' := (16, [some (.ref 0), some (.int a0), some (.ref 128), none], [.int 0], cl_h (ct_x v1 (.ref 320) v3 s0) g1 [.inl (1, 1, .inr (.inl (vp_updL o (Int32.toNatClampNeg 0) (Int32.toInt64 r))))] g3 (ct_p4 s4) (ct_e5 (.ref 256) (.ref 384) s5) g6 g7 g8 g9 q)) tk_L_busyTime (by omega) rfl ⟨pm_inb_vp (i := 0) (n := 1) rfl, trivial⟩ ?_
  exact pm_Wg.iret (pm_dec tk_L_busyTime rfl) rfl rfl
set_option maxRecDepth 20000 in
set_option maxHeartbeats 20000000 in
theorem e_L_busyTime_E_t2 {d : Nat} (hd : 7 ≤ d) {g1 g3 g6 g7 g8 g9 : List pm_E} {v1 v3 : Value} {q : Nat × Nat × Nat} {s0 : cs_S} {s4 : cs_S} {s5 : cs_S} {a0 : Int32} {o : Nat → Int64} (H : f_X8_busyTime_E s0 s4 s5 a0 = some (.inr 2)) : pm_Mt 326 d [.ref 0, .int a0, .ref 128] (cl_h (ct_x v1 (.ref 320) v3 s0) g1 [.inl (1, 1, .inr (.inl (o)))] g3 (ct_p4 s4) (ct_e5 (.ref 256) (.ref 384) s5) g6 g7 g8 g9 q) (.inl (some (.int 1))) (cl_h (ct_x v1 (.ref 320) v3 s0) g1 [.inl (1, 1, .inr (.inl (o)))] g3 (ct_p4 s4) (ct_e5 (.ref 256) (.ref 384) s5) g6 g7 g8 g9 (q.1, q.2.1 + 1, q.2.2 + 6)) := by
  refine pm_Mt.ofH (by decide) (by decide +kernel) rfl rfl ?_
  obtain ⟨d, rfl⟩ : ∃ d', d = d' + 1 := ⟨d - 1, by omega⟩
  refine pm_Wg.path (k := 4) (ds := []) (f' := (4, [some (.ref 0), some (.int a0), some (.ref 128), none], [.int a0, .ref 0, .int 0, .ref 128], cl_h (ct_x v1 (.ref 320) v3 s0) g1 [.inl (1, 1, .inr (.inl (o)))] g3 (ct_p4 s4) (ct_e5 (.ref 256) (.ref 384) s5) g6 g7 g8 g9 q)) tk_L_busyTime (by omega) rfl trivial ?_
  refine pm_Wg.callC (m' := 121) (ix := 72) (rr := 197) (pl := 1312) (b := 0) (As := [.int a0]) (S := [.int 0, .ref 128]) (k := 3) (nx := 13) (pre := []) (x := (0, 9, 12, 27)) (suf := []) (by decide) rfl (pm_dec tk_L_busyTime rfl) rfl rfl (by decide) rfl rfl (by decide) (Nat.le_of_ble_eq_true rfl) rfl rfl (fun z hz => by cases hz) (by decide +kernel) (by decide) px_l2 px_c2 (Or.inl ⟨3, by decide +kernel, rfl, rfl⟩) (Nat.le_of_ble_eq_true rfl) (fun z hz => by cases hz) (e_X8_busyTime_E_t2 (by omega) H) ?_
  refine pm_Wg.path (k := 1) (ds := []) (f' := (14, [some (.ref 0), some (.int a0), some (.ref 128), none], [.int 1], cl_h (ct_x v1 (.ref 320) v3 s0) g1 [.inl (1, 1, .inr (.inl (o)))] g3 (ct_p4 s4) (ct_e5 (.ref 256) (.ref 384) s5) g6 g7 g8 g9 (q.1, q.2.1 + 1, q.2.2 + 6))) tk_L_busyTime (by omega) rfl trivial ?_
  exact pm_Wg.iret (pm_dec tk_L_busyTime rfl) rfl rfl

def tb_L_behind : List pm_I := [(0, .aload_n 3, 0, 0), (1, .iconst 0, 2, 0), (2, .aload_n 0, 0, 0), (3, .iload_n 1, 0, 0), (4, .iload_n 2, 0, 0), (5, .invokevirtual 75, 199, 0), (8, .i2l, 0, 0), (9, .lastore, 0, 0), (10, .goto 7, 17, 0), (13, .astore 4, 0, 0), (15, .iconst 1, 3, 0), (16, .ireturn, 0, 0), (17, .iconst 0, 2, 0), (18, .ireturn, 0, 0)]
theorem tk_L_behind : ∀ e ∈ tb_L_behind, pm_ck 327 e = true := List.all_eq_true.mp (by decide +kernel)

set_option maxRecDepth 20000 in
set_option maxHeartbeats 20000000 in
theorem e_L_behind_N_t2 {d : Nat} (hd : 7 ≤ d) {g1 g3 g4 g5 g6 g7 g8 g9 : List pm_E} {v1 v3 : Value} {q : Nat × Nat × Nat} {s0 : cs_S} {a0 : Int32} {a1 : Int32} {o : Nat → Int64} (H : f_X8_behind_N s0 a0 a1 = some (.inr 2)) : pm_Mt 327 d [.ref 0, .int a0, .int a1, .ref 128] (cl_h (ct_x v1 (.null) v3 s0) g1 [.inl (1, 1, .inr (.inl (o)))] g3 g4 g5 g6 g7 g8 g9 q) (.inl (some (.int 1))) (cl_h (ct_x v1 (.null) v3 s0) g1 [.inl (1, 1, .inr (.inl (o)))] g3 g4 g5 g6 g7 g8 g9 (q.1, q.2.1 + 1, q.2.2 + 6)) := by
  refine pm_Mt.ofH (by decide) (by decide +kernel) rfl rfl ?_
  obtain ⟨d, rfl⟩ : ∃ d', d = d' + 1 := ⟨d - 1, by omega⟩
  refine pm_Wg.path (k := 5) (ds := []) (f' := (5, [some (.ref 0), some (.int a0), some (.int a1), some (.ref 128), none], [.int a1, .int a0, .ref 0, .int 0, .ref 128], cl_h (ct_x v1 (.null) v3 s0) g1 [.inl (1, 1, .inr (.inl (o)))] g3 g4 g5 g6 g7 g8 g9 q)) tk_L_behind (by omega) rfl trivial ?_
  refine pm_Wg.callC (m' := 122) (ix := 75) (rr := 199) (pl := 1319) (b := 0) (As := [.int a0, .int a1]) (S := [.int 0, .ref 128]) (k := 4) (nx := 15) (pre := []) (x := (0, 10, 13, 27)) (suf := []) (by decide) rfl (pm_dec tk_L_behind rfl) rfl rfl (by decide) rfl rfl (by decide) (Nat.le_of_ble_eq_true rfl) rfl rfl (fun z hz => by cases hz) (by decide +kernel) (by decide) px_l2 px_c2 (Or.inr ⟨by decide +kernel, rfl⟩) (Nat.le_of_ble_eq_true rfl) (fun z hz => by cases hz) (e_X8_behind_N_t2 (by omega) H) ?_
  refine pm_Wg.path (k := 1) (ds := []) (f' := (16, [some (.ref 0), some (.int a0), some (.int a1), some (.ref 128), none], [.int 1], cl_h (ct_x v1 (.null) v3 s0) g1 [.inl (1, 1, .inr (.inl (o)))] g3 g4 g5 g6 g7 g8 g9 (q.1, q.2.1 + 1, q.2.2 + 6))) tk_L_behind (by omega) rfl trivial ?_
  exact pm_Wg.iret (pm_dec tk_L_behind rfl) rfl rfl

set_option maxRecDepth 20000 in
set_option maxHeartbeats 20000000 in
theorem e_L_behind_E {d : Nat} (hd : 7 ≤ d) {g1 g3 g6 g7 g8 g9 : List pm_E} {v1 v3 : Value} {q : Nat × Nat × Nat} {s0 : cs_S} {s4 : cs_S} {s5 : cs_S} {a0 : Int32} {a1 : Int32} {r : Int32} {o : Nat → Int64} (H : f_X8_behind_E s0 s4 s5 a0 a1 = some (.inl r)) : pm_Mt 327 d [.ref 0, .int a0, .int a1, .ref 128] (cl_h (ct_x v1 (.ref 320) v3 s0) g1 [.inl (1, 1, .inr (.inl (o)))] g3 (ct_p4 s4) (ct_e5 (.ref 256) (.ref 384) s5) g6 g7 g8 g9 q) (.inl (some (.int 0))) (cl_h (ct_x v1 (.ref 320) v3 s0) g1 [.inl (1, 1, .inr (.inl (vp_updL o (Int32.toNatClampNeg 0) (Int32.toInt64 r))))] g3 (ct_p4 s4) (ct_e5 (.ref 256) (.ref 384) s5) g6 g7 g8 g9 q) := by
  refine pm_Mt.ofH (by decide) (by decide +kernel) rfl rfl ?_
  obtain ⟨d, rfl⟩ : ∃ d', d = d' + 1 := ⟨d - 1, by omega⟩
  refine pm_Wg.path (k := 5) (ds := []) (f' := (5, [some (.ref 0), some (.int a0), some (.int a1), some (.ref 128), none], [.int a1, .int a0, .ref 0, .int 0, .ref 128], cl_h (ct_x v1 (.ref 320) v3 s0) g1 [.inl (1, 1, .inr (.inl (o)))] g3 (ct_p4 s4) (ct_e5 (.ref 256) (.ref 384) s5) g6 g7 g8 g9 q)) tk_L_behind (by omega) rfl trivial ?_
  refine pm_Wg.callV (m' := 122) (ix := 75) (rr := 199) (pl := 1319) (b := 0) (As := [.int a0, .int a1]) (S := [.int 0, .ref 128]) (by decide) rfl (pm_dec tk_L_behind rfl) rfl rfl (by decide) rfl rfl (by decide) (Nat.le_of_ble_eq_true rfl) rfl (e_X8_behind_E (by omega) H) ?_
  refine pm_Wg.path (k := 4) (ds := []) (f' := (18, [some (.ref 0), some (.int a0), some (.int a1), some (.ref 128), none], [.int 0], cl_h (ct_x v1 (.ref 320) v3 s0) g1 [.inl (1, 1, .inr (.inl (vp_updL o (Int32.toNatClampNeg 0) (Int32.toInt64 r))))] g3 (ct_p4 s4) (ct_e5 (.ref 256) (.ref 384) s5) g6 g7 g8 g9 q)) tk_L_behind (by omega) rfl ⟨pm_inb_vp (i := 0) (n := 1) rfl, trivial⟩ ?_
  exact pm_Wg.iret (pm_dec tk_L_behind rfl) rfl rfl
set_option maxRecDepth 20000 in
set_option maxHeartbeats 20000000 in
theorem e_L_behind_E_t2 {d : Nat} (hd : 7 ≤ d) {g1 g3 g6 g7 g8 g9 : List pm_E} {v1 v3 : Value} {q : Nat × Nat × Nat} {s0 : cs_S} {s4 : cs_S} {s5 : cs_S} {a0 : Int32} {a1 : Int32} {o : Nat → Int64} (H : f_X8_behind_E s0 s4 s5 a0 a1 = some (.inr 2)) : pm_Mt 327 d [.ref 0, .int a0, .int a1, .ref 128] (cl_h (ct_x v1 (.ref 320) v3 s0) g1 [.inl (1, 1, .inr (.inl (o)))] g3 (ct_p4 s4) (ct_e5 (.ref 256) (.ref 384) s5) g6 g7 g8 g9 q) (.inl (some (.int 1))) (cl_h (ct_x v1 (.ref 320) v3 s0) g1 [.inl (1, 1, .inr (.inl (o)))] g3 (ct_p4 s4) (ct_e5 (.ref 256) (.ref 384) s5) g6 g7 g8 g9 (q.1, q.2.1 + 1, q.2.2 + 6)) := by
  refine pm_Mt.ofH (by decide) (by decide +kernel) rfl rfl ?_
  obtain ⟨d, rfl⟩ : ∃ d', d = d' + 1 := ⟨d - 1, by omega⟩
  refine pm_Wg.path (k := 5) (ds := []) (f' := (5, [some (.ref 0), some (.int a0), some (.int a1), some (.ref 128), none], [.int a1, .int a0, .ref 0, .int 0, .ref 128], cl_h (ct_x v1 (.ref 320) v3 s0) g1 [.inl (1, 1, .inr (.inl (o)))] g3 (ct_p4 s4) (ct_e5 (.ref 256) (.ref 384) s5) g6 g7 g8 g9 q)) tk_L_behind (by omega) rfl trivial ?_
  refine pm_Wg.callC (m' := 122) (ix := 75) (rr := 199) (pl := 1319) (b := 0) (As := [.int a0, .int a1]) (S := [.int 0, .ref 128]) (k := 4) (nx := 15) (pre := []) (x := (0, 10, 13, 27)) (suf := []) (by decide) rfl (pm_dec tk_L_behind rfl) rfl rfl (by decide) rfl rfl (by decide) (Nat.le_of_ble_eq_true rfl) rfl rfl (fun z hz => by cases hz) (by decide +kernel) (by decide) px_l2 px_c2 (Or.inr ⟨by decide +kernel, rfl⟩) (Nat.le_of_ble_eq_true rfl) (fun z hz => by cases hz) (e_X8_behind_E_t2 (by omega) H) ?_
  refine pm_Wg.path (k := 1) (ds := []) (f' := (16, [some (.ref 0), some (.int a0), some (.int a1), some (.ref 128), none], [.int 1], cl_h (ct_x v1 (.ref 320) v3 s0) g1 [.inl (1, 1, .inr (.inl (o)))] g3 (ct_p4 s4) (ct_e5 (.ref 256) (.ref 384) s5) g6 g7 g8 g9 (q.1, q.2.1 + 1, q.2.2 + 6))) tk_L_behind (by omega) rfl trivial ?_
  exact pm_Wg.iret (pm_dec tk_L_behind rfl) rfl rfl

def tb_L_chosen : List pm_I := [(0, .aload_n 3, 0, 0), (1, .iconst 0, 2, 0), (2, .aload_n 0, 0, 0), (3, .iload_n 1, 0, 0), (4, .iload_n 2, 0, 0), (5, .invokevirtual 78, 202, 0), (8, .i2l, 0, 0), (9, .lastore, 0, 0), (10, .goto 11, 21, 0), (13, .astore 4, 0, 0), (15, .iconst 1, 3, 0), (16, .ireturn, 0, 0), (17, .astore 4, 0, 0), (19, .iconst 2, 4, 0), (20, .ireturn, 0, 0), (21, .iconst 0, 2, 0), (22, .ireturn, 0, 0)]
theorem tk_L_chosen : ∀ e ∈ tb_L_chosen, pm_ck 328 e = true := List.all_eq_true.mp (by decide +kernel)

set_option maxRecDepth 20000 in
set_option maxHeartbeats 20000000 in
theorem e_L_chosen_N_t2 {d : Nat} (hd : 7 ≤ d) {g1 g3 g4 g5 g6 g7 g8 g9 : List pm_E} {v1 v3 : Value} {q : Nat × Nat × Nat} {s0 : cs_S} {a0 : Int32} {a1 : Int32} {o : Nat → Int64} (H : f_X8_chosen_N s0 a0 a1 = some (.inr 2)) : pm_Mt 328 d [.ref 0, .int a0, .int a1, .ref 128] (cl_h (ct_x v1 (.null) v3 s0) g1 [.inl (1, 1, .inr (.inl (o)))] g3 g4 g5 g6 g7 g8 g9 q) (.inl (some (.int 1))) (cl_h (ct_x v1 (.null) v3 s0) g1 [.inl (1, 1, .inr (.inl (o)))] g3 g4 g5 g6 g7 g8 g9 (q.1, q.2.1 + 1, q.2.2 + 6)) := by
  refine pm_Mt.ofH (by decide) (by decide +kernel) rfl rfl ?_
  obtain ⟨d, rfl⟩ : ∃ d', d = d' + 1 := ⟨d - 1, by omega⟩
  refine pm_Wg.path (k := 5) (ds := []) (f' := (5, [some (.ref 0), some (.int a0), some (.int a1), some (.ref 128), none], [.int a1, .int a0, .ref 0, .int 0, .ref 128], cl_h (ct_x v1 (.null) v3 s0) g1 [.inl (1, 1, .inr (.inl (o)))] g3 g4 g5 g6 g7 g8 g9 q)) tk_L_chosen (by omega) rfl trivial ?_
  refine pm_Wg.callC (m' := 123) (ix := 78) (rr := 202) (pl := 1328) (b := 0) (As := [.int a0, .int a1]) (S := [.int 0, .ref 128]) (k := 4) (nx := 15) (pre := []) (x := (0, 10, 13, 27)) (suf := [(0, 10, 17, 19)]) (by decide) rfl (pm_dec tk_L_chosen rfl) rfl rfl (by decide) rfl rfl (by decide) (Nat.le_of_ble_eq_true rfl) rfl rfl (fun z hz => by cases hz) (by decide +kernel) (by decide) px_l2 px_c2 (Or.inr ⟨by decide +kernel, rfl⟩) (Nat.le_of_ble_eq_true rfl) (fun z hz => by cases hz) (e_X8_chosen_N_t2 (by omega) H) ?_
  refine pm_Wg.path (k := 1) (ds := []) (f' := (16, [some (.ref 0), some (.int a0), some (.int a1), some (.ref 128), none], [.int 1], cl_h (ct_x v1 (.null) v3 s0) g1 [.inl (1, 1, .inr (.inl (o)))] g3 g4 g5 g6 g7 g8 g9 (q.1, q.2.1 + 1, q.2.2 + 6))) tk_L_chosen (by omega) rfl trivial ?_
  exact pm_Wg.iret (pm_dec tk_L_chosen rfl) rfl rfl

set_option maxRecDepth 20000 in
set_option maxHeartbeats 20000000 in
theorem e_L_chosen_E {d : Nat} (hd : 7 ≤ d) {g1 g3 g6 g7 g8 g9 : List pm_E} {v1 v3 : Value} {q : Nat × Nat × Nat} {s0 : cs_S} {s4 : cs_S} {s5 : cs_S} {a0 : Int32} {a1 : Int32} {r : Int32} {o : Nat → Int64} (H : f_X8_chosen_E s0 s4 s5 a0 a1 = some (.inl r)) : pm_Mt 328 d [.ref 0, .int a0, .int a1, .ref 128] (cl_h (ct_x v1 (.ref 320) v3 s0) g1 [.inl (1, 1, .inr (.inl (o)))] g3 (ct_p4 s4) (ct_e5 (.ref 256) (.ref 384) s5) g6 g7 g8 g9 q) (.inl (some (.int 0))) (cl_h (ct_x v1 (.ref 320) v3 s0) g1 [.inl (1, 1, .inr (.inl (vp_updL o (Int32.toNatClampNeg 0) (Int32.toInt64 r))))] g3 (ct_p4 s4) (ct_e5 (.ref 256) (.ref 384) s5) g6 g7 g8 g9 q) := by
  refine pm_Mt.ofH (by decide) (by decide +kernel) rfl rfl ?_
  obtain ⟨d, rfl⟩ : ∃ d', d = d' + 1 := ⟨d - 1, by omega⟩
  refine pm_Wg.path (k := 5) (ds := []) (f' := (5, [some (.ref 0), some (.int a0), some (.int a1), some (.ref 128), none], [.int a1, .int a0, .ref 0, .int 0, .ref 128], cl_h (ct_x v1 (.ref 320) v3 s0) g1 [.inl (1, 1, .inr (.inl (o)))] g3 (ct_p4 s4) (ct_e5 (.ref 256) (.ref 384) s5) g6 g7 g8 g9 q)) tk_L_chosen (by omega) rfl trivial ?_
  refine pm_Wg.callV (m' := 123) (ix := 78) (rr := 202) (pl := 1328) (b := 0) (As := [.int a0, .int a1]) (S := [.int 0, .ref 128]) (by decide) rfl (pm_dec tk_L_chosen rfl) rfl rfl (by decide) rfl rfl (by decide) (Nat.le_of_ble_eq_true rfl) rfl (e_X8_chosen_E (by omega) H) ?_
  refine pm_Wg.path (k := 4) (ds := []) (f' := (22, [some (.ref 0), some (.int a0), some (.int a1), some (.ref 128), none], [.int 0], cl_h (ct_x v1 (.ref 320) v3 s0) g1 [.inl (1, 1, .inr (.inl (vp_updL o (Int32.toNatClampNeg 0) (Int32.toInt64 r))))] g3 (ct_p4 s4) (ct_e5 (.ref 256) (.ref 384) s5) g6 g7 g8 g9 q)) tk_L_chosen (by omega) rfl ⟨pm_inb_vp (i := 0) (n := 1) rfl, trivial⟩ ?_
  exact pm_Wg.iret (pm_dec tk_L_chosen rfl) rfl rfl
set_option maxRecDepth 20000 in
set_option maxHeartbeats 20000000 in
theorem e_L_chosen_E_t1 {d : Nat} (hd : 7 ≤ d) {g1 g3 g6 g7 g8 g9 : List pm_E} {v1 v3 : Value} {q : Nat × Nat × Nat} {s0 : cs_S} {s4 : cs_S} {s5 : cs_S} {a0 : Int32} {a1 : Int32} {o : Nat → Int64} (H : f_X8_chosen_E s0 s4 s5 a0 a1 = some (.inr 1)) : pm_Mt 328 d [.ref 0, .int a0, .int a1, .ref 128] (cl_h (ct_x v1 (.ref 320) v3 s0) g1 [.inl (1, 1, .inr (.inl (o)))] g3 (ct_p4 s4) (ct_e5 (.ref 256) (.ref 384) s5) g6 g7 g8 g9 q) (.inl (some (.int 2))) (cl_h (ct_x v1 (.ref 320) v3 s0) g1 [.inl (1, 1, .inr (.inl (o)))] g3 (ct_p4 s4) (ct_e5 (.ref 256) (.ref 384) s5) g6 g7 g8 g9 (q.1, q.2.1 + 1, q.2.2 + 6)) := by
  refine pm_Mt.ofH (by decide) (by decide +kernel) rfl rfl ?_
  obtain ⟨d, rfl⟩ : ∃ d', d = d' + 1 := ⟨d - 1, by omega⟩
  refine pm_Wg.path (k := 5) (ds := []) (f' := (5, [some (.ref 0), some (.int a0), some (.int a1), some (.ref 128), none], [.int a1, .int a0, .ref 0, .int 0, .ref 128], cl_h (ct_x v1 (.ref 320) v3 s0) g1 [.inl (1, 1, .inr (.inl (o)))] g3 (ct_p4 s4) (ct_e5 (.ref 256) (.ref 384) s5) g6 g7 g8 g9 q)) tk_L_chosen (by omega) rfl trivial ?_
  refine pm_Wg.callC (m' := 123) (ix := 78) (rr := 202) (pl := 1328) (b := 0) (As := [.int a0, .int a1]) (S := [.int 0, .ref 128]) (k := 4) (nx := 19) (pre := [(0, 10, 13, 27)]) (x := (0, 10, 17, 19)) (suf := []) (by decide) rfl (pm_dec tk_L_chosen rfl) rfl rfl (by decide) rfl rfl (by decide) (Nat.le_of_ble_eq_true rfl) rfl rfl (fun z hz => by
    rcases List.mem_cons.mp hz with hz0 | hz
    · subst hz0; exact ⟨by decide, _, px_l2, by decide +kernel⟩
    cases hz) (by decide +kernel) (by decide) px_l1 px_c1 (Or.inr ⟨by decide +kernel, rfl⟩) (Nat.le_of_ble_eq_true rfl) (fun z hz => by cases hz) (e_X8_chosen_E_t1 (by omega) H) ?_
  refine pm_Wg.path (k := 1) (ds := []) (f' := (20, [some (.ref 0), some (.int a0), some (.int a1), some (.ref 128), none], [.int 2], cl_h (ct_x v1 (.ref 320) v3 s0) g1 [.inl (1, 1, .inr (.inl (o)))] g3 (ct_p4 s4) (ct_e5 (.ref 256) (.ref 384) s5) g6 g7 g8 g9 (q.1, q.2.1 + 1, q.2.2 + 6))) tk_L_chosen (by omega) rfl trivial ?_
  exact pm_Wg.iret (pm_dec tk_L_chosen rfl) rfl rfl
set_option maxRecDepth 20000 in
set_option maxHeartbeats 20000000 in
theorem e_L_chosen_E_t2 {d : Nat} (hd : 7 ≤ d) {g1 g3 g6 g7 g8 g9 : List pm_E} {v1 v3 : Value} {q : Nat × Nat × Nat} {s0 : cs_S} {s4 : cs_S} {s5 : cs_S} {a0 : Int32} {a1 : Int32} {o : Nat → Int64} (H : f_X8_chosen_E s0 s4 s5 a0 a1 = some (.inr 2)) : pm_Mt 328 d [.ref 0, .int a0, .int a1, .ref 128] (cl_h (ct_x v1 (.ref 320) v3 s0) g1 [.inl (1, 1, .inr (.inl (o)))] g3 (ct_p4 s4) (ct_e5 (.ref 256) (.ref 384) s5) g6 g7 g8 g9 q) (.inl (some (.int 1))) (cl_h (ct_x v1 (.ref 320) v3 s0) g1 [.inl (1, 1, .inr (.inl (o)))] g3 (ct_p4 s4) (ct_e5 (.ref 256) (.ref 384) s5) g6 g7 g8 g9 (q.1, q.2.1 + 1, q.2.2 + 6)) := by
  refine pm_Mt.ofH (by decide) (by decide +kernel) rfl rfl ?_
  obtain ⟨d, rfl⟩ : ∃ d', d = d' + 1 := ⟨d - 1, by omega⟩
  refine pm_Wg.path (k := 5) (ds := []) (f' := (5, [some (.ref 0), some (.int a0), some (.int a1), some (.ref 128), none], [.int a1, .int a0, .ref 0, .int 0, .ref 128], cl_h (ct_x v1 (.ref 320) v3 s0) g1 [.inl (1, 1, .inr (.inl (o)))] g3 (ct_p4 s4) (ct_e5 (.ref 256) (.ref 384) s5) g6 g7 g8 g9 q)) tk_L_chosen (by omega) rfl trivial ?_
  refine pm_Wg.callC (m' := 123) (ix := 78) (rr := 202) (pl := 1328) (b := 0) (As := [.int a0, .int a1]) (S := [.int 0, .ref 128]) (k := 4) (nx := 15) (pre := []) (x := (0, 10, 13, 27)) (suf := [(0, 10, 17, 19)]) (by decide) rfl (pm_dec tk_L_chosen rfl) rfl rfl (by decide) rfl rfl (by decide) (Nat.le_of_ble_eq_true rfl) rfl rfl (fun z hz => by cases hz) (by decide +kernel) (by decide) px_l2 px_c2 (Or.inr ⟨by decide +kernel, rfl⟩) (Nat.le_of_ble_eq_true rfl) (fun z hz => by cases hz) (e_X8_chosen_E_t2 (by omega) H) ?_
  refine pm_Wg.path (k := 1) (ds := []) (f' := (16, [some (.ref 0), some (.int a0), some (.int a1), some (.ref 128), none], [.int 1], cl_h (ct_x v1 (.ref 320) v3 s0) g1 [.inl (1, 1, .inr (.inl (o)))] g3 (ct_p4 s4) (ct_e5 (.ref 256) (.ref 384) s5) g6 g7 g8 g9 (q.1, q.2.1 + 1, q.2.2 + 6))) tk_L_chosen (by omega) rfl trivial ?_
  exact pm_Wg.iret (pm_dec tk_L_chosen rfl) rfl rfl

def tb_L_finishedAt : List pm_I := [(0, .aload_n 2, 0, 0), (1, .iconst 0, 2, 0), (2, .aload_n 0, 0, 0), (3, .iload_n 1, 0, 0), (4, .invokevirtual 81, 204, 0), (7, .i2l, 0, 0), (8, .lastore, 0, 0), (9, .goto 6, 15, 0), (12, .astore_n 3, 0, 0), (13, .iconst 1, 3, 0), (14, .ireturn, 0, 0), (15, .iconst 0, 2, 0), (16, .ireturn, 0, 0)]
theorem tk_L_finishedAt : ∀ e ∈ tb_L_finishedAt, pm_ck 329 e = true := List.all_eq_true.mp (by decide +kernel)

set_option maxRecDepth 20000 in
set_option maxHeartbeats 20000000 in
theorem e_L_finishedAt_N_t2 {d : Nat} (hd : 7 ≤ d) {g1 g3 g4 g5 g6 g7 g8 g9 : List pm_E} {v1 v3 : Value} {q : Nat × Nat × Nat} {s0 : cs_S} {a0 : Int32} {o : Nat → Int64} (H : f_X8_finishedAt_N s0 a0 = some (.inr 2)) : pm_Mt 329 d [.ref 0, .int a0, .ref 128] (cl_h (ct_x v1 (.null) v3 s0) g1 [.inl (1, 1, .inr (.inl (o)))] g3 g4 g5 g6 g7 g8 g9 q) (.inl (some (.int 1))) (cl_h (ct_x v1 (.null) v3 s0) g1 [.inl (1, 1, .inr (.inl (o)))] g3 g4 g5 g6 g7 g8 g9 (q.1, q.2.1 + 1, q.2.2 + 6)) := by
  refine pm_Mt.ofH (by decide) (by decide +kernel) rfl rfl ?_
  obtain ⟨d, rfl⟩ : ∃ d', d = d' + 1 := ⟨d - 1, by omega⟩
  refine pm_Wg.path (k := 4) (ds := []) (f' := (4, [some (.ref 0), some (.int a0), some (.ref 128), none], [.int a0, .ref 0, .int 0, .ref 128], cl_h (ct_x v1 (.null) v3 s0) g1 [.inl (1, 1, .inr (.inl (o)))] g3 g4 g5 g6 g7 g8 g9 q)) tk_L_finishedAt (by omega) rfl trivial ?_
  refine pm_Wg.callC (m' := 127) (ix := 81) (rr := 204) (pl := 1336) (b := 0) (As := [.int a0]) (S := [.int 0, .ref 128]) (k := 3) (nx := 13) (pre := []) (x := (0, 9, 12, 27)) (suf := []) (by decide) rfl (pm_dec tk_L_finishedAt rfl) rfl rfl (by decide) rfl rfl (by decide) (Nat.le_of_ble_eq_true rfl) rfl rfl (fun z hz => by cases hz) (by decide +kernel) (by decide) px_l2 px_c2 (Or.inl ⟨3, by decide +kernel, rfl, rfl⟩) (Nat.le_of_ble_eq_true rfl) (fun z hz => by cases hz) (e_X8_finishedAt_N_t2 (by omega) H) ?_
  refine pm_Wg.path (k := 1) (ds := []) (f' := (14, [some (.ref 0), some (.int a0), some (.ref 128), none], [.int 1], cl_h (ct_x v1 (.null) v3 s0) g1 [.inl (1, 1, .inr (.inl (o)))] g3 g4 g5 g6 g7 g8 g9 (q.1, q.2.1 + 1, q.2.2 + 6))) tk_L_finishedAt (by omega) rfl trivial ?_
  exact pm_Wg.iret (pm_dec tk_L_finishedAt rfl) rfl rfl

set_option maxRecDepth 20000 in
set_option maxHeartbeats 20000000 in
theorem e_L_finishedAt_E {d : Nat} (hd : 7 ≤ d) {g1 g3 g4 g6 g7 g8 g9 : List pm_E} {v1 v3 : Value} {q : Nat × Nat × Nat} {s0 : cs_S} {s5 : cs_S} {a0 : Int32} {r : Int32} {o : Nat → Int64} (H : f_X8_finishedAt_E s0 s5 a0 = some (.inl r)) : pm_Mt 329 d [.ref 0, .int a0, .ref 128] (cl_h (ct_x v1 (.ref 320) v3 s0) g1 [.inl (1, 1, .inr (.inl (o)))] g3 g4 (ct_e5 (.ref 256) (.ref 384) s5) g6 g7 g8 g9 q) (.inl (some (.int 0))) (cl_h (ct_x v1 (.ref 320) v3 s0) g1 [.inl (1, 1, .inr (.inl (vp_updL o (Int32.toNatClampNeg 0) (Int32.toInt64 r))))] g3 g4 (ct_e5 (.ref 256) (.ref 384) s5) g6 g7 g8 g9 q) := by
  refine pm_Mt.ofH (by decide) (by decide +kernel) rfl rfl ?_
  obtain ⟨d, rfl⟩ : ∃ d', d = d' + 1 := ⟨d - 1, by omega⟩
  refine pm_Wg.path (k := 4) (ds := []) (f' := (4, [some (.ref 0), some (.int a0), some (.ref 128), none], [.int a0, .ref 0, .int 0, .ref 128], cl_h (ct_x v1 (.ref 320) v3 s0) g1 [.inl (1, 1, .inr (.inl (o)))] g3 g4 (ct_e5 (.ref 256) (.ref 384) s5) g6 g7 g8 g9 q)) tk_L_finishedAt (by omega) rfl trivial ?_
  refine pm_Wg.callV (m' := 127) (ix := 81) (rr := 204) (pl := 1336) (b := 0) (As := [.int a0]) (S := [.int 0, .ref 128]) (by decide) rfl (pm_dec tk_L_finishedAt rfl) rfl rfl (by decide) rfl rfl (by decide) (Nat.le_of_ble_eq_true rfl) rfl (e_X8_finishedAt_E (by omega) H) ?_
  refine pm_Wg.path (k := 4) (ds := []) (f' := (16, [some (.ref 0), some (.int a0), some (.ref 128), none], [.int 0], cl_h (ct_x v1 (.ref 320) v3 s0) g1 [.inl (1, 1, .inr (.inl (vp_updL o (Int32.toNatClampNeg 0) (Int32.toInt64 r))))] g3 g4 (ct_e5 (.ref 256) (.ref 384) s5) g6 g7 g8 g9 q)) tk_L_finishedAt (by omega) rfl ⟨pm_inb_vp (i := 0) (n := 1) rfl, trivial⟩ ?_
  exact pm_Wg.iret (pm_dec tk_L_finishedAt rfl) rfl rfl
set_option maxRecDepth 20000 in
set_option maxHeartbeats 20000000 in
theorem e_L_finishedAt_E_t2 {d : Nat} (hd : 7 ≤ d) {g1 g3 g4 g6 g7 g8 g9 : List pm_E} {v1 v3 : Value} {q : Nat × Nat × Nat} {s0 : cs_S} {s5 : cs_S} {a0 : Int32} {o : Nat → Int64} (H : f_X8_finishedAt_E s0 s5 a0 = some (.inr 2)) : pm_Mt 329 d [.ref 0, .int a0, .ref 128] (cl_h (ct_x v1 (.ref 320) v3 s0) g1 [.inl (1, 1, .inr (.inl (o)))] g3 g4 (ct_e5 (.ref 256) (.ref 384) s5) g6 g7 g8 g9 q) (.inl (some (.int 1))) (cl_h (ct_x v1 (.ref 320) v3 s0) g1 [.inl (1, 1, .inr (.inl (o)))] g3 g4 (ct_e5 (.ref 256) (.ref 384) s5) g6 g7 g8 g9 (q.1, q.2.1 + 1, q.2.2 + 6)) := by
  refine pm_Mt.ofH (by decide) (by decide +kernel) rfl rfl ?_
  obtain ⟨d, rfl⟩ : ∃ d', d = d' + 1 := ⟨d - 1, by omega⟩
  refine pm_Wg.path (k := 4) (ds := []) (f' := (4, [some (.ref 0), some (.int a0), some (.ref 128), none], [.int a0, .ref 0, .int 0, .ref 128], cl_h (ct_x v1 (.ref 320) v3 s0) g1 [.inl (1, 1, .inr (.inl (o)))] g3 g4 (ct_e5 (.ref 256) (.ref 384) s5) g6 g7 g8 g9 q)) tk_L_finishedAt (by omega) rfl trivial ?_
  refine pm_Wg.callC (m' := 127) (ix := 81) (rr := 204) (pl := 1336) (b := 0) (As := [.int a0]) (S := [.int 0, .ref 128]) (k := 3) (nx := 13) (pre := []) (x := (0, 9, 12, 27)) (suf := []) (by decide) rfl (pm_dec tk_L_finishedAt rfl) rfl rfl (by decide) rfl rfl (by decide) (Nat.le_of_ble_eq_true rfl) rfl rfl (fun z hz => by cases hz) (by decide +kernel) (by decide) px_l2 px_c2 (Or.inl ⟨3, by decide +kernel, rfl, rfl⟩) (Nat.le_of_ble_eq_true rfl) (fun z hz => by cases hz) (e_X8_finishedAt_E_t2 (by omega) H) ?_
  refine pm_Wg.path (k := 1) (ds := []) (f' := (14, [some (.ref 0), some (.int a0), some (.ref 128), none], [.int 1], cl_h (ct_x v1 (.ref 320) v3 s0) g1 [.inl (1, 1, .inr (.inl (o)))] g3 g4 (ct_e5 (.ref 256) (.ref 384) s5) g6 g7 g8 g9 (q.1, q.2.1 + 1, q.2.2 + 6))) tk_L_finishedAt (by omega) rfl trivial ?_
  exact pm_Wg.iret (pm_dec tk_L_finishedAt rfl) rfl rfl

def tb_L_pending : List pm_I := [(0, .aload_n 2, 0, 0), (1, .iconst 0, 2, 0), (2, .aload_n 0, 0, 0), (3, .iload_n 1, 0, 0), (4, .invokevirtual 84, 206, 0), (7, .i2l, 0, 0), (8, .lastore, 0, 0), (9, .goto 6, 15, 0), (12, .astore_n 3, 0, 0), (13, .iconst 1, 3, 0), (14, .ireturn, 0, 0), (15, .iconst 0, 2, 0), (16, .ireturn, 0, 0)]
theorem tk_L_pending : ∀ e ∈ tb_L_pending, pm_ck 330 e = true := List.all_eq_true.mp (by decide +kernel)

set_option maxRecDepth 20000 in
set_option maxHeartbeats 20000000 in
theorem e_L_pending_N_t2 {d : Nat} (hd : 7 ≤ d) {g1 g3 g4 g5 g6 g7 g8 g9 : List pm_E} {v1 v3 : Value} {q : Nat × Nat × Nat} {s0 : cs_S} {a0 : Int32} {o : Nat → Int64} (H : f_X8_pending_N s0 a0 = some (.inr 2)) : pm_Mt 330 d [.ref 0, .int a0, .ref 128] (cl_h (ct_x v1 (.null) v3 s0) g1 [.inl (1, 1, .inr (.inl (o)))] g3 g4 g5 g6 g7 g8 g9 q) (.inl (some (.int 1))) (cl_h (ct_x v1 (.null) v3 s0) g1 [.inl (1, 1, .inr (.inl (o)))] g3 g4 g5 g6 g7 g8 g9 (q.1, q.2.1 + 1, q.2.2 + 6)) := by
  refine pm_Mt.ofH (by decide) (by decide +kernel) rfl rfl ?_
  obtain ⟨d, rfl⟩ : ∃ d', d = d' + 1 := ⟨d - 1, by omega⟩
  refine pm_Wg.path (k := 4) (ds := []) (f' := (4, [some (.ref 0), some (.int a0), some (.ref 128), none], [.int a0, .ref 0, .int 0, .ref 128], cl_h (ct_x v1 (.null) v3 s0) g1 [.inl (1, 1, .inr (.inl (o)))] g3 g4 g5 g6 g7 g8 g9 q)) tk_L_pending (by omega) rfl trivial ?_
  refine pm_Wg.callC (m' := 128) (ix := 84) (rr := 206) (pl := 1344) (b := 0) (As := [.int a0]) (S := [.int 0, .ref 128]) (k := 3) (nx := 13) (pre := []) (x := (0, 9, 12, 27)) (suf := []) (by decide) rfl (pm_dec tk_L_pending rfl) rfl rfl (by decide) rfl rfl (by decide) (Nat.le_of_ble_eq_true rfl) rfl rfl (fun z hz => by cases hz) (by decide +kernel) (by decide) px_l2 px_c2 (Or.inl ⟨3, by decide +kernel, rfl, rfl⟩) (Nat.le_of_ble_eq_true rfl) (fun z hz => by cases hz) (e_X8_pending_N_t2 (by omega) H) ?_
  refine pm_Wg.path (k := 1) (ds := []) (f' := (14, [some (.ref 0), some (.int a0), some (.ref 128), none], [.int 1], cl_h (ct_x v1 (.null) v3 s0) g1 [.inl (1, 1, .inr (.inl (o)))] g3 g4 g5 g6 g7 g8 g9 (q.1, q.2.1 + 1, q.2.2 + 6))) tk_L_pending (by omega) rfl trivial ?_
  exact pm_Wg.iret (pm_dec tk_L_pending rfl) rfl rfl

set_option maxRecDepth 20000 in
set_option maxHeartbeats 20000000 in
theorem e_L_pending_E {d : Nat} (hd : 7 ≤ d) {g1 g3 g4 g6 g7 g8 g9 : List pm_E} {v1 v3 : Value} {q : Nat × Nat × Nat} {s0 : cs_S} {s5 : cs_S} {a0 : Int32} {r : Int32} {o : Nat → Int64} (H : f_X8_pending_E s0 s5 a0 = some (.inl r)) : pm_Mt 330 d [.ref 0, .int a0, .ref 128] (cl_h (ct_x v1 (.ref 320) v3 s0) g1 [.inl (1, 1, .inr (.inl (o)))] g3 g4 (ct_e5 (.ref 256) (.ref 384) s5) g6 g7 g8 g9 q) (.inl (some (.int 0))) (cl_h (ct_x v1 (.ref 320) v3 s0) g1 [.inl (1, 1, .inr (.inl (vp_updL o (Int32.toNatClampNeg 0) (Int32.toInt64 r))))] g3 g4 (ct_e5 (.ref 256) (.ref 384) s5) g6 g7 g8 g9 q) := by
  refine pm_Mt.ofH (by decide) (by decide +kernel) rfl rfl ?_
  obtain ⟨d, rfl⟩ : ∃ d', d = d' + 1 := ⟨d - 1, by omega⟩
  refine pm_Wg.path (k := 4) (ds := []) (f' := (4, [some (.ref 0), some (.int a0), some (.ref 128), none], [.int a0, .ref 0, .int 0, .ref 128], cl_h (ct_x v1 (.ref 320) v3 s0) g1 [.inl (1, 1, .inr (.inl (o)))] g3 g4 (ct_e5 (.ref 256) (.ref 384) s5) g6 g7 g8 g9 q)) tk_L_pending (by omega) rfl trivial ?_
  refine pm_Wg.callV (m' := 128) (ix := 84) (rr := 206) (pl := 1344) (b := 0) (As := [.int a0]) (S := [.int 0, .ref 128]) (by decide) rfl (pm_dec tk_L_pending rfl) rfl rfl (by decide) rfl rfl (by decide) (Nat.le_of_ble_eq_true rfl) rfl (e_X8_pending_E (by omega) H) ?_
  refine pm_Wg.path (k := 4) (ds := []) (f' := (16, [some (.ref 0), some (.int a0), some (.ref 128), none], [.int 0], cl_h (ct_x v1 (.ref 320) v3 s0) g1 [.inl (1, 1, .inr (.inl (vp_updL o (Int32.toNatClampNeg 0) (Int32.toInt64 r))))] g3 g4 (ct_e5 (.ref 256) (.ref 384) s5) g6 g7 g8 g9 q)) tk_L_pending (by omega) rfl ⟨pm_inb_vp (i := 0) (n := 1) rfl, trivial⟩ ?_
  exact pm_Wg.iret (pm_dec tk_L_pending rfl) rfl rfl
set_option maxRecDepth 20000 in
set_option maxHeartbeats 20000000 in
theorem e_L_pending_E_t2 {d : Nat} (hd : 7 ≤ d) {g1 g3 g4 g6 g7 g8 g9 : List pm_E} {v1 v3 : Value} {q : Nat × Nat × Nat} {s0 : cs_S} {s5 : cs_S} {a0 : Int32} {o : Nat → Int64} (H : f_X8_pending_E s0 s5 a0 = some (.inr 2)) : pm_Mt 330 d [.ref 0, .int a0, .ref 128] (cl_h (ct_x v1 (.ref 320) v3 s0) g1 [.inl (1, 1, .inr (.inl (o)))] g3 g4 (ct_e5 (.ref 256) (.ref 384) s5) g6 g7 g8 g9 q) (.inl (some (.int 1))) (cl_h (ct_x v1 (.ref 320) v3 s0) g1 [.inl (1, 1, .inr (.inl (o)))] g3 g4 (ct_e5 (.ref 256) (.ref 384) s5) g6 g7 g8 g9 (q.1, q.2.1 + 1, q.2.2 + 6)) := by
  refine pm_Mt.ofH (by decide) (by decide +kernel) rfl rfl ?_
  obtain ⟨d, rfl⟩ : ∃ d', d = d' + 1 := ⟨d - 1, by omega⟩
  refine pm_Wg.path (k := 4) (ds := []) (f' := (4, [some (.ref 0), some (.int a0), some (.ref 128), none], [.int a0, .ref 0, .int 0, .ref 128], cl_h (ct_x v1 (.ref 320) v3 s0) g1 [.inl (1, 1, .inr (.inl (o)))] g3 g4 (ct_e5 (.ref 256) (.ref 384) s5) g6 g7 g8 g9 q)) tk_L_pending (by omega) rfl trivial ?_
  refine pm_Wg.callC (m' := 128) (ix := 84) (rr := 206) (pl := 1344) (b := 0) (As := [.int a0]) (S := [.int 0, .ref 128]) (k := 3) (nx := 13) (pre := []) (x := (0, 9, 12, 27)) (suf := []) (by decide) rfl (pm_dec tk_L_pending rfl) rfl rfl (by decide) rfl rfl (by decide) (Nat.le_of_ble_eq_true rfl) rfl rfl (fun z hz => by cases hz) (by decide +kernel) (by decide) px_l2 px_c2 (Or.inl ⟨3, by decide +kernel, rfl, rfl⟩) (Nat.le_of_ble_eq_true rfl) (fun z hz => by cases hz) (e_X8_pending_E_t2 (by omega) H) ?_
  refine pm_Wg.path (k := 1) (ds := []) (f' := (14, [some (.ref 0), some (.int a0), some (.ref 128), none], [.int 1], cl_h (ct_x v1 (.ref 320) v3 s0) g1 [.inl (1, 1, .inr (.inl (o)))] g3 g4 (ct_e5 (.ref 256) (.ref 384) s5) g6 g7 g8 g9 (q.1, q.2.1 + 1, q.2.2 + 6))) tk_L_pending (by omega) rfl trivial ?_
  exact pm_Wg.iret (pm_dec tk_L_pending rfl) rfl rfl

def tb_L_finished : List pm_I := [(0, .aload_n 2, 0, 0), (1, .iconst 0, 2, 0), (2, .aload_n 0, 0, 0), (3, .iload_n 1, 0, 0), (4, .invokevirtual 87, 208, 0), (7, .i2l, 0, 0), (8, .lastore, 0, 0), (9, .goto 6, 15, 0), (12, .astore_n 3, 0, 0), (13, .iconst 1, 3, 0), (14, .ireturn, 0, 0), (15, .iconst 0, 2, 0), (16, .ireturn, 0, 0)]
theorem tk_L_finished : ∀ e ∈ tb_L_finished, pm_ck 331 e = true := List.all_eq_true.mp (by decide +kernel)

set_option maxRecDepth 20000 in
set_option maxHeartbeats 20000000 in
theorem e_L_finished_N_t2 {d : Nat} (hd : 7 ≤ d) {g1 g3 g4 g5 g6 g7 g8 g9 : List pm_E} {v1 v3 : Value} {q : Nat × Nat × Nat} {s0 : cs_S} {a0 : Int32} {o : Nat → Int64} (H : f_X8_finished_N s0 a0 = some (.inr 2)) : pm_Mt 331 d [.ref 0, .int a0, .ref 128] (cl_h (ct_x v1 (.null) v3 s0) g1 [.inl (1, 1, .inr (.inl (o)))] g3 g4 g5 g6 g7 g8 g9 q) (.inl (some (.int 1))) (cl_h (ct_x v1 (.null) v3 s0) g1 [.inl (1, 1, .inr (.inl (o)))] g3 g4 g5 g6 g7 g8 g9 (q.1, q.2.1 + 1, q.2.2 + 6)) := by
  refine pm_Mt.ofH (by decide) (by decide +kernel) rfl rfl ?_
  obtain ⟨d, rfl⟩ : ∃ d', d = d' + 1 := ⟨d - 1, by omega⟩
  refine pm_Wg.path (k := 4) (ds := []) (f' := (4, [some (.ref 0), some (.int a0), some (.ref 128), none], [.int a0, .ref 0, .int 0, .ref 128], cl_h (ct_x v1 (.null) v3 s0) g1 [.inl (1, 1, .inr (.inl (o)))] g3 g4 g5 g6 g7 g8 g9 q)) tk_L_finished (by omega) rfl trivial ?_
  refine pm_Wg.callC (m' := 129) (ix := 87) (rr := 208) (pl := 1351) (b := 0) (As := [.int a0]) (S := [.int 0, .ref 128]) (k := 3) (nx := 13) (pre := []) (x := (0, 9, 12, 27)) (suf := []) (by decide) rfl (pm_dec tk_L_finished rfl) rfl rfl (by decide) rfl rfl (by decide) (Nat.le_of_ble_eq_true rfl) rfl rfl (fun z hz => by cases hz) (by decide +kernel) (by decide) px_l2 px_c2 (Or.inl ⟨3, by decide +kernel, rfl, rfl⟩) (Nat.le_of_ble_eq_true rfl) (fun z hz => by cases hz) (e_X8_finished_N_t2 (by omega) H) ?_
  refine pm_Wg.path (k := 1) (ds := []) (f' := (14, [some (.ref 0), some (.int a0), some (.ref 128), none], [.int 1], cl_h (ct_x v1 (.null) v3 s0) g1 [.inl (1, 1, .inr (.inl (o)))] g3 g4 g5 g6 g7 g8 g9 (q.1, q.2.1 + 1, q.2.2 + 6))) tk_L_finished (by omega) rfl trivial ?_
  exact pm_Wg.iret (pm_dec tk_L_finished rfl) rfl rfl

set_option maxRecDepth 20000 in
set_option maxHeartbeats 20000000 in
theorem e_L_finished_E {d : Nat} (hd : 7 ≤ d) {g1 g3 g6 g7 g8 g9 : List pm_E} {v1 v3 : Value} {q : Nat × Nat × Nat} {s0 : cs_S} {s4 : cs_S} {s5 : cs_S} {a0 : Int32} {r : Int32} {o : Nat → Int64} (H : f_X8_finished_E s0 s4 s5 a0 = some (.inl r)) : pm_Mt 331 d [.ref 0, .int a0, .ref 128] (cl_h (ct_x v1 (.ref 320) v3 s0) g1 [.inl (1, 1, .inr (.inl (o)))] g3 (ct_p4 s4) (ct_e5 (.ref 256) (.ref 384) s5) g6 g7 g8 g9 q) (.inl (some (.int 0))) (cl_h (ct_x v1 (.ref 320) v3 s0) g1 [.inl (1, 1, .inr (.inl (vp_updL o (Int32.toNatClampNeg 0) (Int32.toInt64 r))))] g3 (ct_p4 s4) (ct_e5 (.ref 256) (.ref 384) s5) g6 g7 g8 g9 q) := by
  refine pm_Mt.ofH (by decide) (by decide +kernel) rfl rfl ?_
  obtain ⟨d, rfl⟩ : ∃ d', d = d' + 1 := ⟨d - 1, by omega⟩
  refine pm_Wg.path (k := 4) (ds := []) (f' := (4, [some (.ref 0), some (.int a0), some (.ref 128), none], [.int a0, .ref 0, .int 0, .ref 128], cl_h (ct_x v1 (.ref 320) v3 s0) g1 [.inl (1, 1, .inr (.inl (o)))] g3 (ct_p4 s4) (ct_e5 (.ref 256) (.ref 384) s5) g6 g7 g8 g9 q)) tk_L_finished (by omega) rfl trivial ?_
  refine pm_Wg.callV (m' := 129) (ix := 87) (rr := 208) (pl := 1351) (b := 0) (As := [.int a0]) (S := [.int 0, .ref 128]) (by decide) rfl (pm_dec tk_L_finished rfl) rfl rfl (by decide) rfl rfl (by decide) (Nat.le_of_ble_eq_true rfl) rfl (e_X8_finished_E (by omega) H) ?_
  refine pm_Wg.path (k := 4) (ds := []) (f' := (16, [some (.ref 0), some (.int a0), some (.ref 128), none], [.int 0], cl_h (ct_x v1 (.ref 320) v3 s0) g1 [.inl (1, 1, .inr (.inl (vp_updL o (Int32.toNatClampNeg 0) (Int32.toInt64 r))))] g3 (ct_p4 s4) (ct_e5 (.ref 256) (.ref 384) s5) g6 g7 g8 g9 q)) tk_L_finished (by omega) rfl ⟨pm_inb_vp (i := 0) (n := 1) rfl, trivial⟩ ?_
  exact pm_Wg.iret (pm_dec tk_L_finished rfl) rfl rfl
set_option maxRecDepth 20000 in
set_option maxHeartbeats 20000000 in
theorem e_L_finished_E_t2 {d : Nat} (hd : 7 ≤ d) {g1 g3 g6 g7 g8 g9 : List pm_E} {v1 v3 : Value} {q : Nat × Nat × Nat} {s0 : cs_S} {s4 : cs_S} {s5 : cs_S} {a0 : Int32} {o : Nat → Int64} (H : f_X8_finished_E s0 s4 s5 a0 = some (.inr 2)) : pm_Mt 331 d [.ref 0, .int a0, .ref 128] (cl_h (ct_x v1 (.ref 320) v3 s0) g1 [.inl (1, 1, .inr (.inl (o)))] g3 (ct_p4 s4) (ct_e5 (.ref 256) (.ref 384) s5) g6 g7 g8 g9 q) (.inl (some (.int 1))) (cl_h (ct_x v1 (.ref 320) v3 s0) g1 [.inl (1, 1, .inr (.inl (o)))] g3 (ct_p4 s4) (ct_e5 (.ref 256) (.ref 384) s5) g6 g7 g8 g9 (q.1, q.2.1 + 1, q.2.2 + 6)) := by
  refine pm_Mt.ofH (by decide) (by decide +kernel) rfl rfl ?_
  obtain ⟨d, rfl⟩ : ∃ d', d = d' + 1 := ⟨d - 1, by omega⟩
  refine pm_Wg.path (k := 4) (ds := []) (f' := (4, [some (.ref 0), some (.int a0), some (.ref 128), none], [.int a0, .ref 0, .int 0, .ref 128], cl_h (ct_x v1 (.ref 320) v3 s0) g1 [.inl (1, 1, .inr (.inl (o)))] g3 (ct_p4 s4) (ct_e5 (.ref 256) (.ref 384) s5) g6 g7 g8 g9 q)) tk_L_finished (by omega) rfl trivial ?_
  refine pm_Wg.callC (m' := 129) (ix := 87) (rr := 208) (pl := 1351) (b := 0) (As := [.int a0]) (S := [.int 0, .ref 128]) (k := 3) (nx := 13) (pre := []) (x := (0, 9, 12, 27)) (suf := []) (by decide) rfl (pm_dec tk_L_finished rfl) rfl rfl (by decide) rfl rfl (by decide) (Nat.le_of_ble_eq_true rfl) rfl rfl (fun z hz => by cases hz) (by decide +kernel) (by decide) px_l2 px_c2 (Or.inl ⟨3, by decide +kernel, rfl, rfl⟩) (Nat.le_of_ble_eq_true rfl) (fun z hz => by cases hz) (e_X8_finished_E_t2 (by omega) H) ?_
  refine pm_Wg.path (k := 1) (ds := []) (f' := (14, [some (.ref 0), some (.int a0), some (.ref 128), none], [.int 1], cl_h (ct_x v1 (.ref 320) v3 s0) g1 [.inl (1, 1, .inr (.inl (o)))] g3 (ct_p4 s4) (ct_e5 (.ref 256) (.ref 384) s5) g6 g7 g8 g9 (q.1, q.2.1 + 1, q.2.2 + 6))) tk_L_finished (by omega) rfl trivial ?_
  exact pm_Wg.iret (pm_dec tk_L_finished rfl) rfl rfl

def tb_L_totalLatency : List pm_I := [(0, .aload_n 2, 0, 0), (1, .iconst 0, 2, 0), (2, .aload_n 0, 0, 0), (3, .iload_n 1, 0, 0), (4, .invokevirtual 90, 210, 0), (7, .i2l, 0, 0), (8, .lastore, 0, 0), (9, .goto 6, 15, 0), (12, .astore_n 3, 0, 0), (13, .iconst 1, 3, 0), (14, .ireturn, 0, 0), (15, .iconst 0, 2, 0), (16, .ireturn, 0, 0)]
theorem tk_L_totalLatency : ∀ e ∈ tb_L_totalLatency, pm_ck 332 e = true := List.all_eq_true.mp (by decide +kernel)

set_option maxRecDepth 20000 in
set_option maxHeartbeats 20000000 in
theorem e_L_totalLatency_N_t2 {d : Nat} (hd : 7 ≤ d) {g1 g3 g4 g5 g6 g7 g8 g9 : List pm_E} {v1 v3 : Value} {q : Nat × Nat × Nat} {s0 : cs_S} {a0 : Int32} {o : Nat → Int64} (H : f_X8_totalLatency_N s0 a0 = some (.inr 2)) : pm_Mt 332 d [.ref 0, .int a0, .ref 128] (cl_h (ct_x v1 (.null) v3 s0) g1 [.inl (1, 1, .inr (.inl (o)))] g3 g4 g5 g6 g7 g8 g9 q) (.inl (some (.int 1))) (cl_h (ct_x v1 (.null) v3 s0) g1 [.inl (1, 1, .inr (.inl (o)))] g3 g4 g5 g6 g7 g8 g9 (q.1, q.2.1 + 1, q.2.2 + 6)) := by
  refine pm_Mt.ofH (by decide) (by decide +kernel) rfl rfl ?_
  obtain ⟨d, rfl⟩ : ∃ d', d = d' + 1 := ⟨d - 1, by omega⟩
  refine pm_Wg.path (k := 4) (ds := []) (f' := (4, [some (.ref 0), some (.int a0), some (.ref 128), none], [.int a0, .ref 0, .int 0, .ref 128], cl_h (ct_x v1 (.null) v3 s0) g1 [.inl (1, 1, .inr (.inl (o)))] g3 g4 g5 g6 g7 g8 g9 q)) tk_L_totalLatency (by omega) rfl trivial ?_
  refine pm_Wg.callC (m' := 130) (ix := 90) (rr := 210) (pl := 1359) (b := 0) (As := [.int a0]) (S := [.int 0, .ref 128]) (k := 3) (nx := 13) (pre := []) (x := (0, 9, 12, 27)) (suf := []) (by decide) rfl (pm_dec tk_L_totalLatency rfl) rfl rfl (by decide) rfl rfl (by decide) (Nat.le_of_ble_eq_true rfl) rfl rfl (fun z hz => by cases hz) (by decide +kernel) (by decide) px_l2 px_c2 (Or.inl ⟨3, by decide +kernel, rfl, rfl⟩) (Nat.le_of_ble_eq_true rfl) (fun z hz => by cases hz) (e_X8_totalLatency_N_t2 (by omega) H) ?_
  refine pm_Wg.path (k := 1) (ds := []) (f' := (14, [some (.ref 0), some (.int a0), some (.ref 128), none], [.int 1], cl_h (ct_x v1 (.null) v3 s0) g1 [.inl (1, 1, .inr (.inl (o)))] g3 g4 g5 g6 g7 g8 g9 (q.1, q.2.1 + 1, q.2.2 + 6))) tk_L_totalLatency (by omega) rfl trivial ?_
  exact pm_Wg.iret (pm_dec tk_L_totalLatency rfl) rfl rfl

set_option maxRecDepth 20000 in
set_option maxHeartbeats 20000000 in
theorem e_L_totalLatency_E {d : Nat} (hd : 7 ≤ d) {g1 g3 g6 g7 g8 g9 : List pm_E} {v1 v3 : Value} {q : Nat × Nat × Nat} {s0 : cs_S} {s4 : cs_S} {s5 : cs_S} {a0 : Int32} {r : Int32} {o : Nat → Int64} (H : f_X8_totalLatency_E s0 s4 s5 a0 = some (.inl r)) : pm_Mt 332 d [.ref 0, .int a0, .ref 128] (cl_h (ct_x v1 (.ref 320) v3 s0) g1 [.inl (1, 1, .inr (.inl (o)))] g3 (ct_p4 s4) (ct_e5 (.ref 256) (.ref 384) s5) g6 g7 g8 g9 q) (.inl (some (.int 0))) (cl_h (ct_x v1 (.ref 320) v3 s0) g1 [.inl (1, 1, .inr (.inl (vp_updL o (Int32.toNatClampNeg 0) (Int32.toInt64 r))))] g3 (ct_p4 s4) (ct_e5 (.ref 256) (.ref 384) s5) g6 g7 g8 g9 q) := by
  refine pm_Mt.ofH (by decide) (by decide +kernel) rfl rfl ?_
  obtain ⟨d, rfl⟩ : ∃ d', d = d' + 1 := ⟨d - 1, by omega⟩
  refine pm_Wg.path (k := 4) (ds := []) (f' := (4, [some (.ref 0), some (.int a0), some (.ref 128), none], [.int a0, .ref 0, .int 0, .ref 128], cl_h (ct_x v1 (.ref 320) v3 s0) g1 [.inl (1, 1, .inr (.inl (o)))] g3 (ct_p4 s4) (ct_e5 (.ref 256) (.ref 384) s5) g6 g7 g8 g9 q)) tk_L_totalLatency (by omega) rfl trivial ?_
  refine pm_Wg.callV (m' := 130) (ix := 90) (rr := 210) (pl := 1359) (b := 0) (As := [.int a0]) (S := [.int 0, .ref 128]) (by decide) rfl (pm_dec tk_L_totalLatency rfl) rfl rfl (by decide) rfl rfl (by decide) (Nat.le_of_ble_eq_true rfl) rfl (e_X8_totalLatency_E (by omega) H) ?_
  refine pm_Wg.path (k := 4) (ds := []) (f' := (16, [some (.ref 0), some (.int a0), some (.ref 128), none], [.int 0], cl_h (ct_x v1 (.ref 320) v3 s0) g1 [.inl (1, 1, .inr (.inl (vp_updL o (Int32.toNatClampNeg 0) (Int32.toInt64 r))))] g3 (ct_p4 s4) (ct_e5 (.ref 256) (.ref 384) s5) g6 g7 g8 g9 q)) tk_L_totalLatency (by omega) rfl ⟨pm_inb_vp (i := 0) (n := 1) rfl, trivial⟩ ?_
  exact pm_Wg.iret (pm_dec tk_L_totalLatency rfl) rfl rfl
set_option maxRecDepth 20000 in
set_option maxHeartbeats 20000000 in
theorem e_L_totalLatency_E_t2 {d : Nat} (hd : 7 ≤ d) {g1 g3 g6 g7 g8 g9 : List pm_E} {v1 v3 : Value} {q : Nat × Nat × Nat} {s0 : cs_S} {s4 : cs_S} {s5 : cs_S} {a0 : Int32} {o : Nat → Int64} (H : f_X8_totalLatency_E s0 s4 s5 a0 = some (.inr 2)) : pm_Mt 332 d [.ref 0, .int a0, .ref 128] (cl_h (ct_x v1 (.ref 320) v3 s0) g1 [.inl (1, 1, .inr (.inl (o)))] g3 (ct_p4 s4) (ct_e5 (.ref 256) (.ref 384) s5) g6 g7 g8 g9 q) (.inl (some (.int 1))) (cl_h (ct_x v1 (.ref 320) v3 s0) g1 [.inl (1, 1, .inr (.inl (o)))] g3 (ct_p4 s4) (ct_e5 (.ref 256) (.ref 384) s5) g6 g7 g8 g9 (q.1, q.2.1 + 1, q.2.2 + 6)) := by
  refine pm_Mt.ofH (by decide) (by decide +kernel) rfl rfl ?_
  obtain ⟨d, rfl⟩ : ∃ d', d = d' + 1 := ⟨d - 1, by omega⟩
  refine pm_Wg.path (k := 4) (ds := []) (f' := (4, [some (.ref 0), some (.int a0), some (.ref 128), none], [.int a0, .ref 0, .int 0, .ref 128], cl_h (ct_x v1 (.ref 320) v3 s0) g1 [.inl (1, 1, .inr (.inl (o)))] g3 (ct_p4 s4) (ct_e5 (.ref 256) (.ref 384) s5) g6 g7 g8 g9 q)) tk_L_totalLatency (by omega) rfl trivial ?_
  refine pm_Wg.callC (m' := 130) (ix := 90) (rr := 210) (pl := 1359) (b := 0) (As := [.int a0]) (S := [.int 0, .ref 128]) (k := 3) (nx := 13) (pre := []) (x := (0, 9, 12, 27)) (suf := []) (by decide) rfl (pm_dec tk_L_totalLatency rfl) rfl rfl (by decide) rfl rfl (by decide) (Nat.le_of_ble_eq_true rfl) rfl rfl (fun z hz => by cases hz) (by decide +kernel) (by decide) px_l2 px_c2 (Or.inl ⟨3, by decide +kernel, rfl, rfl⟩) (Nat.le_of_ble_eq_true rfl) (fun z hz => by cases hz) (e_X8_totalLatency_E_t2 (by omega) H) ?_
  refine pm_Wg.path (k := 1) (ds := []) (f' := (14, [some (.ref 0), some (.int a0), some (.ref 128), none], [.int 1], cl_h (ct_x v1 (.ref 320) v3 s0) g1 [.inl (1, 1, .inr (.inl (o)))] g3 (ct_p4 s4) (ct_e5 (.ref 256) (.ref 384) s5) g6 g7 g8 g9 (q.1, q.2.1 + 1, q.2.2 + 6))) tk_L_totalLatency (by omega) rfl trivial ?_
  exact pm_Wg.iret (pm_dec tk_L_totalLatency rfl) rfl rfl

def tb_L_worstLatency : List pm_I := [(0, .aload_n 2, 0, 0), (1, .iconst 0, 2, 0), (2, .aload_n 0, 0, 0), (3, .iload_n 1, 0, 0), (4, .invokevirtual 93, 212, 0), (7, .i2l, 0, 0), (8, .lastore, 0, 0), (9, .goto 6, 15, 0), (12, .astore_n 3, 0, 0), (13, .iconst 1, 3, 0), (14, .ireturn, 0, 0), (15, .iconst 0, 2, 0), (16, .ireturn, 0, 0)]
theorem tk_L_worstLatency : ∀ e ∈ tb_L_worstLatency, pm_ck 333 e = true := List.all_eq_true.mp (by decide +kernel)

set_option maxRecDepth 20000 in
set_option maxHeartbeats 20000000 in
theorem e_L_worstLatency_N_t2 {d : Nat} (hd : 7 ≤ d) {g1 g3 g4 g5 g6 g7 g8 g9 : List pm_E} {v1 v3 : Value} {q : Nat × Nat × Nat} {s0 : cs_S} {a0 : Int32} {o : Nat → Int64} (H : f_X8_worstLatency_N s0 a0 = some (.inr 2)) : pm_Mt 333 d [.ref 0, .int a0, .ref 128] (cl_h (ct_x v1 (.null) v3 s0) g1 [.inl (1, 1, .inr (.inl (o)))] g3 g4 g5 g6 g7 g8 g9 q) (.inl (some (.int 1))) (cl_h (ct_x v1 (.null) v3 s0) g1 [.inl (1, 1, .inr (.inl (o)))] g3 g4 g5 g6 g7 g8 g9 (q.1, q.2.1 + 1, q.2.2 + 6)) := by
  refine pm_Mt.ofH (by decide) (by decide +kernel) rfl rfl ?_
  obtain ⟨d, rfl⟩ : ∃ d', d = d' + 1 := ⟨d - 1, by omega⟩
  refine pm_Wg.path (k := 4) (ds := []) (f' := (4, [some (.ref 0), some (.int a0), some (.ref 128), none], [.int a0, .ref 0, .int 0, .ref 128], cl_h (ct_x v1 (.null) v3 s0) g1 [.inl (1, 1, .inr (.inl (o)))] g3 g4 g5 g6 g7 g8 g9 q)) tk_L_worstLatency (by omega) rfl trivial ?_
  refine pm_Wg.callC (m' := 131) (ix := 93) (rr := 212) (pl := 1366) (b := 0) (As := [.int a0]) (S := [.int 0, .ref 128]) (k := 3) (nx := 13) (pre := []) (x := (0, 9, 12, 27)) (suf := []) (by decide) rfl (pm_dec tk_L_worstLatency rfl) rfl rfl (by decide) rfl rfl (by decide) (Nat.le_of_ble_eq_true rfl) rfl rfl (fun z hz => by cases hz) (by decide +kernel) (by decide) px_l2 px_c2 (Or.inl ⟨3, by decide +kernel, rfl, rfl⟩) (Nat.le_of_ble_eq_true rfl) (fun z hz => by cases hz) (e_X8_worstLatency_N_t2 (by omega) H) ?_
  refine pm_Wg.path (k := 1) (ds := []) (f' := (14, [some (.ref 0), some (.int a0), some (.ref 128), none], [.int 1], cl_h (ct_x v1 (.null) v3 s0) g1 [.inl (1, 1, .inr (.inl (o)))] g3 g4 g5 g6 g7 g8 g9 (q.1, q.2.1 + 1, q.2.2 + 6))) tk_L_worstLatency (by omega) rfl trivial ?_
  exact pm_Wg.iret (pm_dec tk_L_worstLatency rfl) rfl rfl

set_option maxRecDepth 20000 in
set_option maxHeartbeats 20000000 in
theorem e_L_worstLatency_E {d : Nat} (hd : 7 ≤ d) {g1 g3 g6 g7 g8 g9 : List pm_E} {v1 v3 : Value} {q : Nat × Nat × Nat} {s0 : cs_S} {s4 : cs_S} {s5 : cs_S} {a0 : Int32} {r : Int32} {o : Nat → Int64} (H : f_X8_worstLatency_E s0 s4 s5 a0 = some (.inl r)) : pm_Mt 333 d [.ref 0, .int a0, .ref 128] (cl_h (ct_x v1 (.ref 320) v3 s0) g1 [.inl (1, 1, .inr (.inl (o)))] g3 (ct_p4 s4) (ct_e5 (.ref 256) (.ref 384) s5) g6 g7 g8 g9 q) (.inl (some (.int 0))) (cl_h (ct_x v1 (.ref 320) v3 s0) g1 [.inl (1, 1, .inr (.inl (vp_updL o (Int32.toNatClampNeg 0) (Int32.toInt64 r))))] g3 (ct_p4 s4) (ct_e5 (.ref 256) (.ref 384) s5) g6 g7 g8 g9 q) := by
  refine pm_Mt.ofH (by decide) (by decide +kernel) rfl rfl ?_
  obtain ⟨d, rfl⟩ : ∃ d', d = d' + 1 := ⟨d - 1, by omega⟩
  refine pm_Wg.path (k := 4) (ds := []) (f' := (4, [some (.ref 0), some (.int a0), some (.ref 128), none], [.int a0, .ref 0, .int 0, .ref 128], cl_h (ct_x v1 (.ref 320) v3 s0) g1 [.inl (1, 1, .inr (.inl (o)))] g3 (ct_p4 s4) (ct_e5 (.ref 256) (.ref 384) s5) g6 g7 g8 g9 q)) tk_L_worstLatency (by omega) rfl trivial ?_
  refine pm_Wg.callV (m' := 131) (ix := 93) (rr := 212) (pl := 1366) (b := 0) (As := [.int a0]) (S := [.int 0, .ref 128]) (by decide) rfl (pm_dec tk_L_worstLatency rfl) rfl rfl (by decide) rfl rfl (by decide) (Nat.le_of_ble_eq_true rfl) rfl (e_X8_worstLatency_E (by omega) H) ?_
  refine pm_Wg.path (k := 4) (ds := []) (f' := (16, [some (.ref 0), some (.int a0), some (.ref 128), none], [.int 0], cl_h (ct_x v1 (.ref 320) v3 s0) g1 [.inl (1, 1, .inr (.inl (vp_updL o (Int32.toNatClampNeg 0) (Int32.toInt64 r))))] g3 (ct_p4 s4) (ct_e5 (.ref 256) (.ref 384) s5) g6 g7 g8 g9 q)) tk_L_worstLatency (by omega) rfl ⟨pm_inb_vp (i := 0) (n := 1) rfl, trivial⟩ ?_
  exact pm_Wg.iret (pm_dec tk_L_worstLatency rfl) rfl rfl
set_option maxRecDepth 20000 in
set_option maxHeartbeats 20000000 in
theorem e_L_worstLatency_E_t2 {d : Nat} (hd : 7 ≤ d) {g1 g3 g6 g7 g8 g9 : List pm_E} {v1 v3 : Value} {q : Nat × Nat × Nat} {s0 : cs_S} {s4 : cs_S} {s5 : cs_S} {a0 : Int32} {o : Nat → Int64} (H : f_X8_worstLatency_E s0 s4 s5 a0 = some (.inr 2)) : pm_Mt 333 d [.ref 0, .int a0, .ref 128] (cl_h (ct_x v1 (.ref 320) v3 s0) g1 [.inl (1, 1, .inr (.inl (o)))] g3 (ct_p4 s4) (ct_e5 (.ref 256) (.ref 384) s5) g6 g7 g8 g9 q) (.inl (some (.int 1))) (cl_h (ct_x v1 (.ref 320) v3 s0) g1 [.inl (1, 1, .inr (.inl (o)))] g3 (ct_p4 s4) (ct_e5 (.ref 256) (.ref 384) s5) g6 g7 g8 g9 (q.1, q.2.1 + 1, q.2.2 + 6)) := by
  refine pm_Mt.ofH (by decide) (by decide +kernel) rfl rfl ?_
  obtain ⟨d, rfl⟩ : ∃ d', d = d' + 1 := ⟨d - 1, by omega⟩
  refine pm_Wg.path (k := 4) (ds := []) (f' := (4, [some (.ref 0), some (.int a0), some (.ref 128), none], [.int a0, .ref 0, .int 0, .ref 128], cl_h (ct_x v1 (.ref 320) v3 s0) g1 [.inl (1, 1, .inr (.inl (o)))] g3 (ct_p4 s4) (ct_e5 (.ref 256) (.ref 384) s5) g6 g7 g8 g9 q)) tk_L_worstLatency (by omega) rfl trivial ?_
  refine pm_Wg.callC (m' := 131) (ix := 93) (rr := 212) (pl := 1366) (b := 0) (As := [.int a0]) (S := [.int 0, .ref 128]) (k := 3) (nx := 13) (pre := []) (x := (0, 9, 12, 27)) (suf := []) (by decide) rfl (pm_dec tk_L_worstLatency rfl) rfl rfl (by decide) rfl rfl (by decide) (Nat.le_of_ble_eq_true rfl) rfl rfl (fun z hz => by cases hz) (by decide +kernel) (by decide) px_l2 px_c2 (Or.inl ⟨3, by decide +kernel, rfl, rfl⟩) (Nat.le_of_ble_eq_true rfl) (fun z hz => by cases hz) (e_X8_worstLatency_E_t2 (by omega) H) ?_
  refine pm_Wg.path (k := 1) (ds := []) (f' := (14, [some (.ref 0), some (.int a0), some (.ref 128), none], [.int 1], cl_h (ct_x v1 (.ref 320) v3 s0) g1 [.inl (1, 1, .inr (.inl (o)))] g3 (ct_p4 s4) (ct_e5 (.ref 256) (.ref 384) s5) g6 g7 g8 g9 (q.1, q.2.1 + 1, q.2.2 + 6))) tk_L_worstLatency (by omega) rfl trivial ?_
  exact pm_Wg.iret (pm_dec tk_L_worstLatency rfl) rfl rfl

def tb_L_late : List pm_I := [(0, .aload_n 2, 0, 0), (1, .iconst 0, 2, 0), (2, .aload_n 0, 0, 0), (3, .iload_n 1, 0, 0), (4, .invokevirtual 96, 214, 0), (7, .i2l, 0, 0), (8, .lastore, 0, 0), (9, .goto 6, 15, 0), (12, .astore_n 3, 0, 0), (13, .iconst 1, 3, 0), (14, .ireturn, 0, 0), (15, .iconst 0, 2, 0), (16, .ireturn, 0, 0)]
theorem tk_L_late : ∀ e ∈ tb_L_late, pm_ck 334 e = true := List.all_eq_true.mp (by decide +kernel)

set_option maxRecDepth 20000 in
set_option maxHeartbeats 20000000 in
theorem e_L_late_N_t2 {d : Nat} (hd : 7 ≤ d) {g1 g3 g4 g5 g6 g7 g8 g9 : List pm_E} {v1 v3 : Value} {q : Nat × Nat × Nat} {s0 : cs_S} {a0 : Int32} {o : Nat → Int64} (H : f_X8_late_N s0 a0 = some (.inr 2)) : pm_Mt 334 d [.ref 0, .int a0, .ref 128] (cl_h (ct_x v1 (.null) v3 s0) g1 [.inl (1, 1, .inr (.inl (o)))] g3 g4 g5 g6 g7 g8 g9 q) (.inl (some (.int 1))) (cl_h (ct_x v1 (.null) v3 s0) g1 [.inl (1, 1, .inr (.inl (o)))] g3 g4 g5 g6 g7 g8 g9 (q.1, q.2.1 + 1, q.2.2 + 6)) := by
  refine pm_Mt.ofH (by decide) (by decide +kernel) rfl rfl ?_
  obtain ⟨d, rfl⟩ : ∃ d', d = d' + 1 := ⟨d - 1, by omega⟩
  refine pm_Wg.path (k := 4) (ds := []) (f' := (4, [some (.ref 0), some (.int a0), some (.ref 128), none], [.int a0, .ref 0, .int 0, .ref 128], cl_h (ct_x v1 (.null) v3 s0) g1 [.inl (1, 1, .inr (.inl (o)))] g3 g4 g5 g6 g7 g8 g9 q)) tk_L_late (by omega) rfl trivial ?_
  refine pm_Wg.callC (m' := 132) (ix := 96) (rr := 214) (pl := 1373) (b := 0) (As := [.int a0]) (S := [.int 0, .ref 128]) (k := 3) (nx := 13) (pre := []) (x := (0, 9, 12, 27)) (suf := []) (by decide) rfl (pm_dec tk_L_late rfl) rfl rfl (by decide) rfl rfl (by decide) (Nat.le_of_ble_eq_true rfl) rfl rfl (fun z hz => by cases hz) (by decide +kernel) (by decide) px_l2 px_c2 (Or.inl ⟨3, by decide +kernel, rfl, rfl⟩) (Nat.le_of_ble_eq_true rfl) (fun z hz => by cases hz) (e_X8_late_N_t2 (by omega) H) ?_
  refine pm_Wg.path (k := 1) (ds := []) (f' := (14, [some (.ref 0), some (.int a0), some (.ref 128), none], [.int 1], cl_h (ct_x v1 (.null) v3 s0) g1 [.inl (1, 1, .inr (.inl (o)))] g3 g4 g5 g6 g7 g8 g9 (q.1, q.2.1 + 1, q.2.2 + 6))) tk_L_late (by omega) rfl trivial ?_
  exact pm_Wg.iret (pm_dec tk_L_late rfl) rfl rfl

set_option maxRecDepth 20000 in
set_option maxHeartbeats 20000000 in
theorem e_L_late_E {d : Nat} (hd : 7 ≤ d) {g1 g3 g6 g7 g8 g9 : List pm_E} {v1 v3 : Value} {q : Nat × Nat × Nat} {s0 : cs_S} {s4 : cs_S} {s5 : cs_S} {a0 : Int32} {r : Int32} {o : Nat → Int64} (H : f_X8_late_E s0 s4 s5 a0 = some (.inl r)) : pm_Mt 334 d [.ref 0, .int a0, .ref 128] (cl_h (ct_x v1 (.ref 320) v3 s0) g1 [.inl (1, 1, .inr (.inl (o)))] g3 (ct_p4 s4) (ct_e5 (.ref 256) (.ref 384) s5) g6 g7 g8 g9 q) (.inl (some (.int 0))) (cl_h (ct_x v1 (.ref 320) v3 s0) g1 [.inl (1, 1, .inr (.inl (vp_updL o (Int32.toNatClampNeg 0) (Int32.toInt64 r))))] g3 (ct_p4 s4) (ct_e5 (.ref 256) (.ref 384) s5) g6 g7 g8 g9 q) := by
  refine pm_Mt.ofH (by decide) (by decide +kernel) rfl rfl ?_
  obtain ⟨d, rfl⟩ : ∃ d', d = d' + 1 := ⟨d - 1, by omega⟩
  refine pm_Wg.path (k := 4) (ds := []) (f' := (4, [some (.ref 0), some (.int a0), some (.ref 128), none], [.int a0, .ref 0, .int 0, .ref 128], cl_h (ct_x v1 (.ref 320) v3 s0) g1 [.inl (1, 1, .inr (.inl (o)))] g3 (ct_p4 s4) (ct_e5 (.ref 256) (.ref 384) s5) g6 g7 g8 g9 q)) tk_L_late (by omega) rfl trivial ?_
  refine pm_Wg.callV (m' := 132) (ix := 96) (rr := 214) (pl := 1373) (b := 0) (As := [.int a0]) (S := [.int 0, .ref 128]) (by decide) rfl (pm_dec tk_L_late rfl) rfl rfl (by decide) rfl rfl (by decide) (Nat.le_of_ble_eq_true rfl) rfl (e_X8_late_E (by omega) H) ?_
  refine pm_Wg.path (k := 4) (ds := []) (f' := (16, [some (.ref 0), some (.int a0), some (.ref 128), none], [.int 0], cl_h (ct_x v1 (.ref 320) v3 s0) g1 [.inl (1, 1, .inr (.inl (vp_updL o (Int32.toNatClampNeg 0) (Int32.toInt64 r))))] g3 (ct_p4 s4) (ct_e5 (.ref 256) (.ref 384) s5) g6 g7 g8 g9 q)) tk_L_late (by omega) rfl ⟨pm_inb_vp (i := 0) (n := 1) rfl, trivial⟩ ?_
  exact pm_Wg.iret (pm_dec tk_L_late rfl) rfl rfl
set_option maxRecDepth 20000 in
set_option maxHeartbeats 20000000 in
theorem e_L_late_E_t2 {d : Nat} (hd : 7 ≤ d) {g1 g3 g6 g7 g8 g9 : List pm_E} {v1 v3 : Value} {q : Nat × Nat × Nat} {s0 : cs_S} {s4 : cs_S} {s5 : cs_S} {a0 : Int32} {o : Nat → Int64} (H : f_X8_late_E s0 s4 s5 a0 = some (.inr 2)) : pm_Mt 334 d [.ref 0, .int a0, .ref 128] (cl_h (ct_x v1 (.ref 320) v3 s0) g1 [.inl (1, 1, .inr (.inl (o)))] g3 (ct_p4 s4) (ct_e5 (.ref 256) (.ref 384) s5) g6 g7 g8 g9 q) (.inl (some (.int 1))) (cl_h (ct_x v1 (.ref 320) v3 s0) g1 [.inl (1, 1, .inr (.inl (o)))] g3 (ct_p4 s4) (ct_e5 (.ref 256) (.ref 384) s5) g6 g7 g8 g9 (q.1, q.2.1 + 1, q.2.2 + 6)) := by
  refine pm_Mt.ofH (by decide) (by decide +kernel) rfl rfl ?_
  obtain ⟨d, rfl⟩ : ∃ d', d = d' + 1 := ⟨d - 1, by omega⟩
  refine pm_Wg.path (k := 4) (ds := []) (f' := (4, [some (.ref 0), some (.int a0), some (.ref 128), none], [.int a0, .ref 0, .int 0, .ref 128], cl_h (ct_x v1 (.ref 320) v3 s0) g1 [.inl (1, 1, .inr (.inl (o)))] g3 (ct_p4 s4) (ct_e5 (.ref 256) (.ref 384) s5) g6 g7 g8 g9 q)) tk_L_late (by omega) rfl trivial ?_
  refine pm_Wg.callC (m' := 132) (ix := 96) (rr := 214) (pl := 1373) (b := 0) (As := [.int a0]) (S := [.int 0, .ref 128]) (k := 3) (nx := 13) (pre := []) (x := (0, 9, 12, 27)) (suf := []) (by decide) rfl (pm_dec tk_L_late rfl) rfl rfl (by decide) rfl rfl (by decide) (Nat.le_of_ble_eq_true rfl) rfl rfl (fun z hz => by cases hz) (by decide +kernel) (by decide) px_l2 px_c2 (Or.inl ⟨3, by decide +kernel, rfl, rfl⟩) (Nat.le_of_ble_eq_true rfl) (fun z hz => by cases hz) (e_X8_late_E_t2 (by omega) H) ?_
  refine pm_Wg.path (k := 1) (ds := []) (f' := (14, [some (.ref 0), some (.int a0), some (.ref 128), none], [.int 1], cl_h (ct_x v1 (.ref 320) v3 s0) g1 [.inl (1, 1, .inr (.inl (o)))] g3 (ct_p4 s4) (ct_e5 (.ref 256) (.ref 384) s5) g6 g7 g8 g9 (q.1, q.2.1 + 1, q.2.2 + 6))) tk_L_late (by omega) rfl trivial ?_
  exact pm_Wg.iret (pm_dec tk_L_late rfl) rfl rfl

def tb_L_stripeState : List pm_I := [(0, .aload_n 2, 0, 0), (1, .iconst 0, 2, 0), (2, .aload_n 0, 0, 0), (3, .iload_n 1, 0, 0), (4, .invokevirtual 99, 216, 0), (7, .i2l, 0, 0), (8, .lastore, 0, 0), (9, .goto 6, 15, 0), (12, .astore_n 3, 0, 0), (13, .iconst 1, 3, 0), (14, .ireturn, 0, 0), (15, .iconst 0, 2, 0), (16, .ireturn, 0, 0)]
theorem tk_L_stripeState : ∀ e ∈ tb_L_stripeState, pm_ck 335 e = true := List.all_eq_true.mp (by decide +kernel)

set_option maxRecDepth 20000 in
set_option maxHeartbeats 20000000 in
theorem e_L_stripeState_N_t2 {d : Nat} (hd : 7 ≤ d) {g1 g3 g4 g5 g6 g7 g8 g9 : List pm_E} {v1 v3 : Value} {q : Nat × Nat × Nat} {s0 : cs_S} {a0 : Int32} {o : Nat → Int64} (H : f_X8_stripeState_N s0 a0 = some (.inr 2)) : pm_Mt 335 d [.ref 0, .int a0, .ref 128] (cl_h (ct_x v1 (.null) v3 s0) g1 [.inl (1, 1, .inr (.inl (o)))] g3 g4 g5 g6 g7 g8 g9 q) (.inl (some (.int 1))) (cl_h (ct_x v1 (.null) v3 s0) g1 [.inl (1, 1, .inr (.inl (o)))] g3 g4 g5 g6 g7 g8 g9 (q.1, q.2.1 + 1, q.2.2 + 6)) := by
  refine pm_Mt.ofH (by decide) (by decide +kernel) rfl rfl ?_
  obtain ⟨d, rfl⟩ : ∃ d', d = d' + 1 := ⟨d - 1, by omega⟩
  refine pm_Wg.path (k := 4) (ds := []) (f' := (4, [some (.ref 0), some (.int a0), some (.ref 128), none], [.int a0, .ref 0, .int 0, .ref 128], cl_h (ct_x v1 (.null) v3 s0) g1 [.inl (1, 1, .inr (.inl (o)))] g3 g4 g5 g6 g7 g8 g9 q)) tk_L_stripeState (by omega) rfl trivial ?_
  refine pm_Wg.callC (m' := 133) (ix := 99) (rr := 216) (pl := 1380) (b := 0) (As := [.int a0]) (S := [.int 0, .ref 128]) (k := 3) (nx := 13) (pre := []) (x := (0, 9, 12, 27)) (suf := []) (by decide) rfl (pm_dec tk_L_stripeState rfl) rfl rfl (by decide) rfl rfl (by decide) (Nat.le_of_ble_eq_true rfl) rfl rfl (fun z hz => by cases hz) (by decide +kernel) (by decide) px_l2 px_c2 (Or.inl ⟨3, by decide +kernel, rfl, rfl⟩) (Nat.le_of_ble_eq_true rfl) (fun z hz => by cases hz) (e_X8_stripeState_N_t2 (by omega) H) ?_
  refine pm_Wg.path (k := 1) (ds := []) (f' := (14, [some (.ref 0), some (.int a0), some (.ref 128), none], [.int 1], cl_h (ct_x v1 (.null) v3 s0) g1 [.inl (1, 1, .inr (.inl (o)))] g3 g4 g5 g6 g7 g8 g9 (q.1, q.2.1 + 1, q.2.2 + 6))) tk_L_stripeState (by omega) rfl trivial ?_
  exact pm_Wg.iret (pm_dec tk_L_stripeState rfl) rfl rfl

set_option maxRecDepth 20000 in
set_option maxHeartbeats 20000000 in
theorem e_L_stripeState_E {d : Nat} (hd : 7 ≤ d) {g1 g3 g6 g7 g8 g9 : List pm_E} {v1 v3 : Value} {q : Nat × Nat × Nat} {s0 : cs_S} {s4 : cs_S} {s5 : cs_S} {a0 : Int32} {r : Int32} {o : Nat → Int64} (H : f_X8_stripeState_E s0 s4 s5 a0 = some (.inl r)) : pm_Mt 335 d [.ref 0, .int a0, .ref 128] (cl_h (ct_x v1 (.ref 320) v3 s0) g1 [.inl (1, 1, .inr (.inl (o)))] g3 (ct_p4 s4) (ct_e5 (.ref 256) (.ref 384) s5) g6 g7 g8 g9 q) (.inl (some (.int 0))) (cl_h (ct_x v1 (.ref 320) v3 s0) g1 [.inl (1, 1, .inr (.inl (vp_updL o (Int32.toNatClampNeg 0) (Int32.toInt64 r))))] g3 (ct_p4 s4) (ct_e5 (.ref 256) (.ref 384) s5) g6 g7 g8 g9 q) := by
  refine pm_Mt.ofH (by decide) (by decide +kernel) rfl rfl ?_
  obtain ⟨d, rfl⟩ : ∃ d', d = d' + 1 := ⟨d - 1, by omega⟩
  refine pm_Wg.path (k := 4) (ds := []) (f' := (4, [some (.ref 0), some (.int a0), some (.ref 128), none], [.int a0, .ref 0, .int 0, .ref 128], cl_h (ct_x v1 (.ref 320) v3 s0) g1 [.inl (1, 1, .inr (.inl (o)))] g3 (ct_p4 s4) (ct_e5 (.ref 256) (.ref 384) s5) g6 g7 g8 g9 q)) tk_L_stripeState (by omega) rfl trivial ?_
  refine pm_Wg.callV (m' := 133) (ix := 99) (rr := 216) (pl := 1380) (b := 0) (As := [.int a0]) (S := [.int 0, .ref 128]) (by decide) rfl (pm_dec tk_L_stripeState rfl) rfl rfl (by decide) rfl rfl (by decide) (Nat.le_of_ble_eq_true rfl) rfl (e_X8_stripeState_E (by omega) H) ?_
  refine pm_Wg.path (k := 4) (ds := []) (f' := (16, [some (.ref 0), some (.int a0), some (.ref 128), none], [.int 0], cl_h (ct_x v1 (.ref 320) v3 s0) g1 [.inl (1, 1, .inr (.inl (vp_updL o (Int32.toNatClampNeg 0) (Int32.toInt64 r))))] g3 (ct_p4 s4) (ct_e5 (.ref 256) (.ref 384) s5) g6 g7 g8 g9 q)) tk_L_stripeState (by omega) rfl ⟨pm_inb_vp (i := 0) (n := 1) rfl, trivial⟩ ?_
  exact pm_Wg.iret (pm_dec tk_L_stripeState rfl) rfl rfl
set_option maxRecDepth 20000 in
set_option maxHeartbeats 20000000 in
theorem e_L_stripeState_E_t2 {d : Nat} (hd : 7 ≤ d) {g1 g3 g6 g7 g8 g9 : List pm_E} {v1 v3 : Value} {q : Nat × Nat × Nat} {s0 : cs_S} {s4 : cs_S} {s5 : cs_S} {a0 : Int32} {o : Nat → Int64} (H : f_X8_stripeState_E s0 s4 s5 a0 = some (.inr 2)) : pm_Mt 335 d [.ref 0, .int a0, .ref 128] (cl_h (ct_x v1 (.ref 320) v3 s0) g1 [.inl (1, 1, .inr (.inl (o)))] g3 (ct_p4 s4) (ct_e5 (.ref 256) (.ref 384) s5) g6 g7 g8 g9 q) (.inl (some (.int 1))) (cl_h (ct_x v1 (.ref 320) v3 s0) g1 [.inl (1, 1, .inr (.inl (o)))] g3 (ct_p4 s4) (ct_e5 (.ref 256) (.ref 384) s5) g6 g7 g8 g9 (q.1, q.2.1 + 1, q.2.2 + 6)) := by
  refine pm_Mt.ofH (by decide) (by decide +kernel) rfl rfl ?_
  obtain ⟨d, rfl⟩ : ∃ d', d = d' + 1 := ⟨d - 1, by omega⟩
  refine pm_Wg.path (k := 4) (ds := []) (f' := (4, [some (.ref 0), some (.int a0), some (.ref 128), none], [.int a0, .ref 0, .int 0, .ref 128], cl_h (ct_x v1 (.ref 320) v3 s0) g1 [.inl (1, 1, .inr (.inl (o)))] g3 (ct_p4 s4) (ct_e5 (.ref 256) (.ref 384) s5) g6 g7 g8 g9 q)) tk_L_stripeState (by omega) rfl trivial ?_
  refine pm_Wg.callC (m' := 133) (ix := 99) (rr := 216) (pl := 1380) (b := 0) (As := [.int a0]) (S := [.int 0, .ref 128]) (k := 3) (nx := 13) (pre := []) (x := (0, 9, 12, 27)) (suf := []) (by decide) rfl (pm_dec tk_L_stripeState rfl) rfl rfl (by decide) rfl rfl (by decide) (Nat.le_of_ble_eq_true rfl) rfl rfl (fun z hz => by cases hz) (by decide +kernel) (by decide) px_l2 px_c2 (Or.inl ⟨3, by decide +kernel, rfl, rfl⟩) (Nat.le_of_ble_eq_true rfl) (fun z hz => by cases hz) (e_X8_stripeState_E_t2 (by omega) H) ?_
  refine pm_Wg.path (k := 1) (ds := []) (f' := (14, [some (.ref 0), some (.int a0), some (.ref 128), none], [.int 1], cl_h (ct_x v1 (.ref 320) v3 s0) g1 [.inl (1, 1, .inr (.inl (o)))] g3 (ct_p4 s4) (ct_e5 (.ref 256) (.ref 384) s5) g6 g7 g8 g9 (q.1, q.2.1 + 1, q.2.2 + 6))) tk_L_stripeState (by omega) rfl trivial ?_
  exact pm_Wg.iret (pm_dec tk_L_stripeState rfl) rfl rfl

def tb_L_isHeld : List pm_I := [(0, .aload_n 3, 0, 0), (1, .iconst 0, 2, 0), (2, .aload_n 0, 0, 0), (3, .iload_n 1, 0, 0), (4, .iload_n 2, 0, 0), (5, .invokevirtual 102, 218, 0), (8, .ifCond .eq 7, 15, 0), (11, .lconst 1, 1, 0), (12, .goto 4, 16, 0), (15, .lconst 0, 0, 0), (16, .lastore, 0, 0), (17, .goto 7, 24, 0), (20, .astore 4, 0, 0), (22, .iconst 1, 3, 0), (23, .ireturn, 0, 0), (24, .iconst 0, 2, 0), (25, .ireturn, 0, 0)]
theorem tk_L_isHeld : ∀ e ∈ tb_L_isHeld, pm_ck 336 e = true := List.all_eq_true.mp (by decide +kernel)

set_option maxRecDepth 20000 in
set_option maxHeartbeats 20000000 in
theorem e_L_isHeld_N_t2 {d : Nat} (hd : 7 ≤ d) {g1 g3 g4 g5 g6 g7 g8 g9 : List pm_E} {v1 v3 : Value} {q : Nat × Nat × Nat} {s0 : cs_S} {a0 : Int32} {a1 : Int32} {o : Nat → Int64} (H : f_X8_isHeld_N s0 a0 a1 = some (.inr 2)) : pm_Mt 336 d [.ref 0, .int a0, .int a1, .ref 128] (cl_h (ct_x v1 (.null) v3 s0) g1 [.inl (1, 1, .inr (.inl (o)))] g3 g4 g5 g6 g7 g8 g9 q) (.inl (some (.int 1))) (cl_h (ct_x v1 (.null) v3 s0) g1 [.inl (1, 1, .inr (.inl (o)))] g3 g4 g5 g6 g7 g8 g9 (q.1, q.2.1 + 1, q.2.2 + 6)) := by
  refine pm_Mt.ofH (by decide) (by decide +kernel) rfl rfl ?_
  obtain ⟨d, rfl⟩ : ∃ d', d = d' + 1 := ⟨d - 1, by omega⟩
  refine pm_Wg.path (k := 5) (ds := []) (f' := (5, [some (.ref 0), some (.int a0), some (.int a1), some (.ref 128), none], [.int a1, .int a0, .ref 0, .int 0, .ref 128], cl_h (ct_x v1 (.null) v3 s0) g1 [.inl (1, 1, .inr (.inl (o)))] g3 g4 g5 g6 g7 g8 g9 q)) tk_L_isHeld (by omega) rfl trivial ?_
  refine pm_Wg.callC (m' := 134) (ix := 102) (rr := 218) (pl := 1387) (b := 0) (As := [.int a0, .int a1]) (S := [.int 0, .ref 128]) (k := 4) (nx := 22) (pre := []) (x := (0, 17, 20, 27)) (suf := []) (by decide) rfl (pm_dec tk_L_isHeld rfl) rfl rfl (by decide) rfl rfl (by decide) (Nat.le_of_ble_eq_true rfl) rfl rfl (fun z hz => by cases hz) (by decide +kernel) (by decide) px_l2 px_c2 (Or.inr ⟨by decide +kernel, rfl⟩) (Nat.le_of_ble_eq_true rfl) (fun z hz => by cases hz) (e_X8_isHeld_N_t2 (by omega) H) ?_
  refine pm_Wg.path (k := 1) (ds := []) (f' := (23, [some (.ref 0), some (.int a0), some (.int a1), some (.ref 128), none], [.int 1], cl_h (ct_x v1 (.null) v3 s0) g1 [.inl (1, 1, .inr (.inl (o)))] g3 g4 g5 g6 g7 g8 g9 (q.1, q.2.1 + 1, q.2.2 + 6))) tk_L_isHeld (by omega) rfl trivial ?_
  exact pm_Wg.iret (pm_dec tk_L_isHeld rfl) rfl rfl

set_option maxRecDepth 20000 in
set_option maxHeartbeats 20000000 in
theorem e_L_isHeld_E {d : Nat} (hd : 7 ≤ d) {g1 g3 g6 g7 g8 g9 : List pm_E} {v1 v3 : Value} {q : Nat × Nat × Nat} {s0 : cs_S} {s4 : cs_S} {s5 : cs_S} {a0 : Int32} {a1 : Int32} {r : Int32} {o : Nat → Int64} (H : f_X8_isHeld_E s0 s4 s5 a0 a1 = some (.inl r)) : pm_Mt 336 d [.ref 0, .int a0, .int a1, .ref 128] (cl_h (ct_x v1 (.ref 320) v3 s0) g1 [.inl (1, 1, .inr (.inl (o)))] g3 (ct_p4 s4) (ct_e5 (.ref 256) (.ref 384) s5) g6 g7 g8 g9 q) (.inl (some (.int 0))) (cl_h (ct_x v1 (.ref 320) v3 s0) g1 [.inl (1, 1, .inr (.inl (vp_updL o (Int32.toNatClampNeg 0) (if r = 0 then 0 else 1))))] g3 (ct_p4 s4) (ct_e5 (.ref 256) (.ref 384) s5) g6 g7 g8 g9 q) := by
  refine pm_Mt.ofH (by decide) (by decide +kernel) rfl rfl ?_
  obtain ⟨d, rfl⟩ : ∃ d', d = d' + 1 := ⟨d - 1, by omega⟩
  refine pm_Wg.path (k := 5) (ds := []) (f' := (5, [some (.ref 0), some (.int a0), some (.int a1), some (.ref 128), none], [.int a1, .int a0, .ref 0, .int 0, .ref 128], cl_h (ct_x v1 (.ref 320) v3 s0) g1 [.inl (1, 1, .inr (.inl (o)))] g3 (ct_p4 s4) (ct_e5 (.ref 256) (.ref 384) s5) g6 g7 g8 g9 q)) tk_L_isHeld (by omega) rfl trivial ?_
  refine pm_Wg.callV (m' := 134) (ix := 102) (rr := 218) (pl := 1387) (b := 0) (As := [.int a0, .int a1]) (S := [.int 0, .ref 128]) (by decide) rfl (pm_dec tk_L_isHeld rfl) rfl rfl (by decide) rfl rfl (by decide) (Nat.le_of_ble_eq_true rfl) rfl (e_X8_isHeld_E (by omega) H) ?_
  by_cases hz : r = 0
  · rw [if_pos hz]
    refine pm_Wg.path (k := 5) (ds := [1]) (f' := (25, [some (.ref 0), some (.int a0), some (.int a1), some (.ref 128), none], [.int 0], cl_h (ct_x v1 (.ref 320) v3 s0) g1 [.inl (1, 1, .inr (.inl (vp_updL o (Int32.toNatClampNeg 0) 0)))] g3 (ct_p4 s4) (ct_e5 (.ref 256) (.ref 384) s5) g6 g7 g8 g9 q)) tk_L_isHeld (by omega) rfl ⟨pm_inb_vp (i := 0) (n := 1) rfl, hz, trivial⟩ ?_
    exact pm_Wg.iret (pm_dec tk_L_isHeld rfl) rfl rfl
  · rw [if_neg hz]
    refine pm_Wg.path (k := 6) (ds := [0]) (f' := (25, [some (.ref 0), some (.int a0), some (.int a1), some (.ref 128), none], [.int 0], cl_h (ct_x v1 (.ref 320) v3 s0) g1 [.inl (1, 1, .inr (.inl (vp_updL o (Int32.toNatClampNeg 0) 1)))] g3 (ct_p4 s4) (ct_e5 (.ref 256) (.ref 384) s5) g6 g7 g8 g9 q)) tk_L_isHeld (by omega) rfl ⟨pm_inb_vp (i := 0) (n := 1) rfl, hz, trivial⟩ ?_
    exact pm_Wg.iret (pm_dec tk_L_isHeld rfl) rfl rfl
set_option maxRecDepth 20000 in
set_option maxHeartbeats 20000000 in
theorem e_L_isHeld_E_t2 {d : Nat} (hd : 7 ≤ d) {g1 g3 g6 g7 g8 g9 : List pm_E} {v1 v3 : Value} {q : Nat × Nat × Nat} {s0 : cs_S} {s4 : cs_S} {s5 : cs_S} {a0 : Int32} {a1 : Int32} {o : Nat → Int64} (H : f_X8_isHeld_E s0 s4 s5 a0 a1 = some (.inr 2)) : pm_Mt 336 d [.ref 0, .int a0, .int a1, .ref 128] (cl_h (ct_x v1 (.ref 320) v3 s0) g1 [.inl (1, 1, .inr (.inl (o)))] g3 (ct_p4 s4) (ct_e5 (.ref 256) (.ref 384) s5) g6 g7 g8 g9 q) (.inl (some (.int 1))) (cl_h (ct_x v1 (.ref 320) v3 s0) g1 [.inl (1, 1, .inr (.inl (o)))] g3 (ct_p4 s4) (ct_e5 (.ref 256) (.ref 384) s5) g6 g7 g8 g9 (q.1, q.2.1 + 1, q.2.2 + 6)) := by
  refine pm_Mt.ofH (by decide) (by decide +kernel) rfl rfl ?_
  obtain ⟨d, rfl⟩ : ∃ d', d = d' + 1 := ⟨d - 1, by omega⟩
  refine pm_Wg.path (k := 5) (ds := []) (f' := (5, [some (.ref 0), some (.int a0), some (.int a1), some (.ref 128), none], [.int a1, .int a0, .ref 0, .int 0, .ref 128], cl_h (ct_x v1 (.ref 320) v3 s0) g1 [.inl (1, 1, .inr (.inl (o)))] g3 (ct_p4 s4) (ct_e5 (.ref 256) (.ref 384) s5) g6 g7 g8 g9 q)) tk_L_isHeld (by omega) rfl trivial ?_
  refine pm_Wg.callC (m' := 134) (ix := 102) (rr := 218) (pl := 1387) (b := 0) (As := [.int a0, .int a1]) (S := [.int 0, .ref 128]) (k := 4) (nx := 22) (pre := []) (x := (0, 17, 20, 27)) (suf := []) (by decide) rfl (pm_dec tk_L_isHeld rfl) rfl rfl (by decide) rfl rfl (by decide) (Nat.le_of_ble_eq_true rfl) rfl rfl (fun z hz => by cases hz) (by decide +kernel) (by decide) px_l2 px_c2 (Or.inr ⟨by decide +kernel, rfl⟩) (Nat.le_of_ble_eq_true rfl) (fun z hz => by cases hz) (e_X8_isHeld_E_t2 (by omega) H) ?_
  refine pm_Wg.path (k := 1) (ds := []) (f' := (23, [some (.ref 0), some (.int a0), some (.int a1), some (.ref 128), none], [.int 1], cl_h (ct_x v1 (.ref 320) v3 s0) g1 [.inl (1, 1, .inr (.inl (o)))] g3 (ct_p4 s4) (ct_e5 (.ref 256) (.ref 384) s5) g6 g7 g8 g9 (q.1, q.2.1 + 1, q.2.2 + 6))) tk_L_isHeld (by omega) rfl trivial ?_
  exact pm_Wg.iret (pm_dec tk_L_isHeld rfl) rfl rfl

def tb_L_stripeDeadline : List pm_I := [(0, .aload_n 2, 0, 0), (1, .iconst 0, 2, 0), (2, .aload_n 0, 0, 0), (3, .iload_n 1, 0, 0), (4, .invokevirtual 106, 221, 0), (7, .i2l, 0, 0), (8, .lastore, 0, 0), (9, .goto 6, 15, 0), (12, .astore_n 3, 0, 0), (13, .iconst 1, 3, 0), (14, .ireturn, 0, 0), (15, .iconst 0, 2, 0), (16, .ireturn, 0, 0)]
theorem tk_L_stripeDeadline : ∀ e ∈ tb_L_stripeDeadline, pm_ck 337 e = true := List.all_eq_true.mp (by decide +kernel)

set_option maxRecDepth 20000 in
set_option maxHeartbeats 20000000 in
theorem e_L_stripeDeadline_N_t2 {d : Nat} (hd : 7 ≤ d) {g1 g3 g4 g5 g6 g7 g8 g9 : List pm_E} {v1 v3 : Value} {q : Nat × Nat × Nat} {s0 : cs_S} {a0 : Int32} {o : Nat → Int64} (H : f_X8_stripeDeadline_N s0 a0 = some (.inr 2)) : pm_Mt 337 d [.ref 0, .int a0, .ref 128] (cl_h (ct_x v1 (.null) v3 s0) g1 [.inl (1, 1, .inr (.inl (o)))] g3 g4 g5 g6 g7 g8 g9 q) (.inl (some (.int 1))) (cl_h (ct_x v1 (.null) v3 s0) g1 [.inl (1, 1, .inr (.inl (o)))] g3 g4 g5 g6 g7 g8 g9 (q.1, q.2.1 + 1, q.2.2 + 6)) := by
  refine pm_Mt.ofH (by decide) (by decide +kernel) rfl rfl ?_
  obtain ⟨d, rfl⟩ : ∃ d', d = d' + 1 := ⟨d - 1, by omega⟩
  refine pm_Wg.path (k := 4) (ds := []) (f' := (4, [some (.ref 0), some (.int a0), some (.ref 128), none], [.int a0, .ref 0, .int 0, .ref 128], cl_h (ct_x v1 (.null) v3 s0) g1 [.inl (1, 1, .inr (.inl (o)))] g3 g4 g5 g6 g7 g8 g9 q)) tk_L_stripeDeadline (by omega) rfl trivial ?_
  refine pm_Wg.callC (m' := 140) (ix := 106) (rr := 221) (pl := 1396) (b := 0) (As := [.int a0]) (S := [.int 0, .ref 128]) (k := 3) (nx := 13) (pre := []) (x := (0, 9, 12, 27)) (suf := []) (by decide) rfl (pm_dec tk_L_stripeDeadline rfl) rfl rfl (by decide) rfl rfl (by decide) (Nat.le_of_ble_eq_true rfl) rfl rfl (fun z hz => by cases hz) (by decide +kernel) (by decide) px_l2 px_c2 (Or.inl ⟨3, by decide +kernel, rfl, rfl⟩) (Nat.le_of_ble_eq_true rfl) (fun z hz => by cases hz) (e_X8_stripeDeadline_N_t2 (by omega) H) ?_
  refine pm_Wg.path (k := 1) (ds := []) (f' := (14, [some (.ref 0), some (.int a0), some (.ref 128), none], [.int 1], cl_h (ct_x v1 (.null) v3 s0) g1 [.inl (1, 1, .inr (.inl (o)))] g3 g4 g5 g6 g7 g8 g9 (q.1, q.2.1 + 1, q.2.2 + 6))) tk_L_stripeDeadline (by omega) rfl trivial ?_
  exact pm_Wg.iret (pm_dec tk_L_stripeDeadline rfl) rfl rfl

set_option maxRecDepth 20000 in
set_option maxHeartbeats 20000000 in
theorem e_L_stripeDeadline_E {d : Nat} (hd : 7 ≤ d) {g1 g3 g6 g7 g8 g9 : List pm_E} {v1 v3 : Value} {q : Nat × Nat × Nat} {s0 : cs_S} {s4 : cs_S} {s5 : cs_S} {a0 : Int32} {r : Int32} {o : Nat → Int64} (H : f_X8_stripeDeadline_E s0 s4 s5 a0 = some (.inl r)) : pm_Mt 337 d [.ref 0, .int a0, .ref 128] (cl_h (ct_x v1 (.ref 320) v3 s0) g1 [.inl (1, 1, .inr (.inl (o)))] g3 (ct_p4 s4) (ct_e5 (.ref 256) (.ref 384) s5) g6 g7 g8 g9 q) (.inl (some (.int 0))) (cl_h (ct_x v1 (.ref 320) v3 s0) g1 [.inl (1, 1, .inr (.inl (vp_updL o (Int32.toNatClampNeg 0) (Int32.toInt64 r))))] g3 (ct_p4 s4) (ct_e5 (.ref 256) (.ref 384) s5) g6 g7 g8 g9 q) := by
  refine pm_Mt.ofH (by decide) (by decide +kernel) rfl rfl ?_
  obtain ⟨d, rfl⟩ : ∃ d', d = d' + 1 := ⟨d - 1, by omega⟩
  refine pm_Wg.path (k := 4) (ds := []) (f' := (4, [some (.ref 0), some (.int a0), some (.ref 128), none], [.int a0, .ref 0, .int 0, .ref 128], cl_h (ct_x v1 (.ref 320) v3 s0) g1 [.inl (1, 1, .inr (.inl (o)))] g3 (ct_p4 s4) (ct_e5 (.ref 256) (.ref 384) s5) g6 g7 g8 g9 q)) tk_L_stripeDeadline (by omega) rfl trivial ?_
  refine pm_Wg.callV (m' := 140) (ix := 106) (rr := 221) (pl := 1396) (b := 0) (As := [.int a0]) (S := [.int 0, .ref 128]) (by decide) rfl (pm_dec tk_L_stripeDeadline rfl) rfl rfl (by decide) rfl rfl (by decide) (Nat.le_of_ble_eq_true rfl) rfl (e_X8_stripeDeadline_E (by omega) H) ?_
  refine pm_Wg.path (k := 4) (ds := []) (f' := (16, [some (.ref 0), some (.int a0), some (.ref 128), none], [.int 0], cl_h (ct_x v1 (.ref 320) v3 s0) g1 [.inl (1, 1, .inr (.inl (vp_updL o (Int32.toNatClampNeg 0) (Int32.toInt64 r))))] g3 (ct_p4 s4) (ct_e5 (.ref 256) (.ref 384) s5) g6 g7 g8 g9 q)) tk_L_stripeDeadline (by omega) rfl ⟨pm_inb_vp (i := 0) (n := 1) rfl, trivial⟩ ?_
  exact pm_Wg.iret (pm_dec tk_L_stripeDeadline rfl) rfl rfl
set_option maxRecDepth 20000 in
set_option maxHeartbeats 20000000 in
theorem e_L_stripeDeadline_E_t2 {d : Nat} (hd : 7 ≤ d) {g1 g3 g6 g7 g8 g9 : List pm_E} {v1 v3 : Value} {q : Nat × Nat × Nat} {s0 : cs_S} {s4 : cs_S} {s5 : cs_S} {a0 : Int32} {o : Nat → Int64} (H : f_X8_stripeDeadline_E s0 s4 s5 a0 = some (.inr 2)) : pm_Mt 337 d [.ref 0, .int a0, .ref 128] (cl_h (ct_x v1 (.ref 320) v3 s0) g1 [.inl (1, 1, .inr (.inl (o)))] g3 (ct_p4 s4) (ct_e5 (.ref 256) (.ref 384) s5) g6 g7 g8 g9 q) (.inl (some (.int 1))) (cl_h (ct_x v1 (.ref 320) v3 s0) g1 [.inl (1, 1, .inr (.inl (o)))] g3 (ct_p4 s4) (ct_e5 (.ref 256) (.ref 384) s5) g6 g7 g8 g9 (q.1, q.2.1 + 1, q.2.2 + 6)) := by
  refine pm_Mt.ofH (by decide) (by decide +kernel) rfl rfl ?_
  obtain ⟨d, rfl⟩ : ∃ d', d = d' + 1 := ⟨d - 1, by omega⟩
  refine pm_Wg.path (k := 4) (ds := []) (f' := (4, [some (.ref 0), some (.int a0), some (.ref 128), none], [.int a0, .ref 0, .int 0, .ref 128], cl_h (ct_x v1 (.ref 320) v3 s0) g1 [.inl (1, 1, .inr (.inl (o)))] g3 (ct_p4 s4) (ct_e5 (.ref 256) (.ref 384) s5) g6 g7 g8 g9 q)) tk_L_stripeDeadline (by omega) rfl trivial ?_
  refine pm_Wg.callC (m' := 140) (ix := 106) (rr := 221) (pl := 1396) (b := 0) (As := [.int a0]) (S := [.int 0, .ref 128]) (k := 3) (nx := 13) (pre := []) (x := (0, 9, 12, 27)) (suf := []) (by decide) rfl (pm_dec tk_L_stripeDeadline rfl) rfl rfl (by decide) rfl rfl (by decide) (Nat.le_of_ble_eq_true rfl) rfl rfl (fun z hz => by cases hz) (by decide +kernel) (by decide) px_l2 px_c2 (Or.inl ⟨3, by decide +kernel, rfl, rfl⟩) (Nat.le_of_ble_eq_true rfl) (fun z hz => by cases hz) (e_X8_stripeDeadline_E_t2 (by omega) H) ?_
  refine pm_Wg.path (k := 1) (ds := []) (f' := (14, [some (.ref 0), some (.int a0), some (.ref 128), none], [.int 1], cl_h (ct_x v1 (.ref 320) v3 s0) g1 [.inl (1, 1, .inr (.inl (o)))] g3 (ct_p4 s4) (ct_e5 (.ref 256) (.ref 384) s5) g6 g7 g8 g9 (q.1, q.2.1 + 1, q.2.2 + 6))) tk_L_stripeDeadline (by omega) rfl trivial ?_
  exact pm_Wg.iret (pm_dec tk_L_stripeDeadline rfl) rfl rfl
