/-! The class's own methods, by shape and by outcome (wip/whole/decx.py). -/
theorem pm_sw0 {x : Int32} (h : x = 0) : x.toInt = 0 + ((0 : Nat) : Int) ∧ ¬ (2 : Int) < x.toInt := by rw [h]; decide
theorem pm_sw1 {x : Int32} (h : x = 1) : x.toInt = 0 + ((1 : Nat) : Int) ∧ ¬ (2 : Int) < x.toInt := by rw [h]; decide
theorem pm_sw2 {x : Int32} (h : x = 2) : x.toInt = 0 + ((2 : Nat) : Int) ∧ ¬ (2 : Int) < x.toInt := by rw [h]; decide
theorem pm_swd {x : Int32} (h0 : ¬ x = 0) (h1 : ¬ x = 1) (h2 : ¬ x = 2) : x.toInt < 0 ∨ (2 : Int) < x.toInt := by
  have a0 : x.toInt ≠ 0 := fun z => h0 (Int32.toInt_inj.mp z)
  have a1 : x.toInt ≠ 1 := fun z => h1 (Int32.toInt_inj.mp z)
  have a2 : x.toInt ≠ 2 := fun z => h2 (Int32.toInt_inj.mp z)
  omega
def tb_X8_now : List pm_I := [(0, .aload_n 0, 0, 0), (1, .getfield 20, 13, 0), (4, .ifnonnull 7, 11, 0), (7, .iconst 0, 2, 0), (8, .goto 10, 18, 0), (11, .aload_n 0, 0, 0), (12, .getfield 20, 13, 0), (15, .getfield 83, 106, 0), (18, .ireturn, 0, 0)]
theorem tk_X8_now : ∀ e ∈ tb_X8_now, pm_ck 114 e = true := List.all_eq_true.mp (by decide +kernel)

def f_X8_now_N (s0 : cs_S) : Option (Int32) :=
  some 0
set_option maxRecDepth 20000 in
set_option maxHeartbeats 20000000 in
theorem e_X8_now_N {d : Nat} (hd : 1 ≤ d) {g1 g2 g3 g4 g5 g6 g7 g8 g9 : List pm_E} {v1 v3 : Value} {q : Nat × Nat × Nat} {s0 : cs_S} {r : Int32} (H : f_X8_now_N s0 = some r) : pm_Mt 114 d [.ref 0] (cl_h (ct_x v1 (.null) v3 s0) g1 g2 g3 g4 g5 g6 g7 g8 g9 q) (.inl (some (.int r))) (cl_h (ct_x v1 (.null) v3 s0) g1 g2 g3 g4 g5 g6 g7 g8 g9 q) := by
  refine pm_Mt.of (by decide) (by decide +kernel) rfl rfl ?_
  unfold f_X8_now_N at H
  have J := Option.some.inj H
  subst J
  refine pm_Wg.path (k := 5) (ds := []) (f' := (18, [some (.ref 0)], [.int 0], cl_h (ct_x v1 (.null) v3 s0) g1 g2 g3 g4 g5 g6 g7 g8 g9 q)) tk_X8_now (by omega) rfl trivial ?_
  exact pm_Wg.iret (pm_dec tk_X8_now rfl) rfl rfl

def f_X8_now_E (s0 : cs_S) (s5 : cs_S) : Option (Int32) :=
  some (s5.1 0 4)
set_option maxRecDepth 20000 in
set_option maxHeartbeats 20000000 in
theorem e_X8_now_E {d : Nat} (hd : 1 ≤ d) {g1 g2 g3 g4 g6 g7 g8 g9 : List pm_E} {v1 v3 : Value} {q : Nat × Nat × Nat} {s0 : cs_S} {s5 : cs_S} {r : Int32} (H : f_X8_now_E s0 s5 = some r) : pm_Mt 114 d [.ref 0] (cl_h (ct_x v1 (.ref 320) v3 s0) g1 g2 g3 g4 (ct_e5 (.ref 256) (.ref 384) s5) g6 g7 g8 g9 q) (.inl (some (.int r))) (cl_h (ct_x v1 (.ref 320) v3 s0) g1 g2 g3 g4 (ct_e5 (.ref 256) (.ref 384) s5) g6 g7 g8 g9 q) := by
  refine pm_Mt.of (by decide) (by decide +kernel) rfl rfl ?_
  unfold f_X8_now_E at H
  have J := Option.some.inj H
  subst J
  refine pm_Wg.path (k := 6) (ds := []) (f' := (18, [some (.ref 0)], [.int (s5.1 0 4)], cl_h (ct_x v1 (.ref 320) v3 s0) g1 g2 g3 g4 (ct_e5 (.ref 256) (.ref 384) s5) g6 g7 g8 g9 q)) tk_X8_now (by omega) rfl trivial ?_
  exact pm_Wg.iret (pm_dec tk_X8_now rfl) rfl rfl

def tb_X8_feed : List pm_I := [(0, .aload_n 0, 0, 0), (1, .getfield 10, 11, 0), (4, .getfield 27, 2, 0), (7, .bipush 20, 15, 0), (9, .iadd, 0, 0), (10, .sipush 800, 38, 0), (13, .if_icmp .le 13, 26, 0), (26, .aload_n 0, 0, 0), (27, .getfield 10, 11, 0), (30, .iload_n 1, 0, 0), (31, .invokevirtual 38, 95, 0), (34, .aload_n 0, 0, 0), (35, .getfield 10, 11, 0), (38, .iload_n 2, 0, 0), (39, .invokevirtual 38, 95, 0), (42, .aload_n 0, 0, 0), (43, .getfield 10, 11, 0), (46, .iload_n 3, 0, 0), (47, .invokevirtual 38, 95, 0), (50, .aload_n 0, 0, 0), (51, .getfield 10, 11, 0), (54, .iload 4, 0, 0), (56, .invokevirtual 38, 95, 0), (59, .aload_n 0, 0, 0), (60, .getfield 10, 11, 0), (63, .iload 5, 0, 0), (65, .invokevirtual 38, 95, 0), (68, .aload_n 0, 0, 0), (69, .getfield 10, 11, 0), (72, .getfield 27, 2, 0), (75, .ireturn, 0, 0)]
theorem tk_X8_feed : ∀ e ∈ tb_X8_feed, pm_ck 97 e = true := List.all_eq_true.mp (by decide +kernel)

def f_X8_feed_A (s0 : cs_S) (a0 : Int32) (a1 : Int32) (a2 : Int32) (a3 : Int32) (a4 : Int32) : Option ((Int32 ⊕ Nat) × cs_S) :=
  (if ((s0.1 1 1) + 20) ≤ 800 then
   (match f_X6_append s0 a0 with
   | none => none
   | some s0_2 =>
    (match f_X6_append s0_2 a1 with
    | none => none
    | some s0_4 =>
     (match f_X6_append s0_4 a2 with
     | none => none
     | some s0_6 =>
      (match f_X6_append s0_6 a3 with
      | none => none
      | some s0_8 =>
       (match f_X6_append s0_8 a4 with
       | none => none
       | some s0_10 =>
        some (.inl (s0_10.1 1 1), s0_10))))))
  else
   some (.inr 0, s0))
set_option maxRecDepth 20000 in
set_option maxHeartbeats 20000000 in
theorem e_X8_feed_A {d : Nat} (hd : 6 ≤ d) {g1 g2 g3 g4 g5 g6 g7 g8 g9 : List pm_E} {v1 v2 v3 : Value} {q : Nat × Nat × Nat} {s0 : cs_S} {a0 : Int32} {a1 : Int32} {a2 : Int32} {a3 : Int32} {a4 : Int32} {r : Int32} {z0 : cs_S} (H : f_X8_feed_A s0 a0 a1 a2 a3 a4 = some (.inl r, z0)) : pm_Mt 97 d [.ref 0, .int a0, .int a1, .int a2, .int a3, .int a4] (cl_h (ct_x v1 v2 v3 s0) g1 g2 g3 g4 g5 g6 g7 g8 g9 q) (.inl (some (.int r))) (cl_h (ct_x v1 v2 v3 z0) g1 g2 g3 g4 g5 g6 g7 g8 g9 q) := by
  refine pm_Mt.of (by decide) (by decide +kernel) rfl rfl ?_
  obtain ⟨d, rfl⟩ : ∃ d', d = d' + 1 := ⟨d - 1, by omega⟩
  unfold f_X8_feed_A at H
  by_cases h1 : ((s0.1 1 1) + 20) ≤ 800
  · rw [if_pos h1] at H
    cases q3 : f_X6_append s0 a0 with
    | none => rw [q3] at H; cases H
    | some s0_2 =>
     rw [q3] at H
     dsimp only at H
     refine pm_Wg.path (k := 10) (ds := [1]) (f' := (31, [some (.ref 0), some (.int a0), some (.int a1), some (.int a2), some (.int a3), some (.int a4)], [.int a0, .ref 1], cl_h (ct_x v1 v2 v3 s0) g1 g2 g3 g4 g5 g6 g7 g8 g9 q)) tk_X8_feed (by omega) rfl ⟨h1, trivial⟩ ?_
     refine pm_Wg.callV (m' := 81) (ix := 38) (rr := 95) (pl := 834) (b := 1) (As := [.int a0]) (S := []) (by decide) rfl (pm_dec tk_X8_feed rfl) rfl rfl (by decide) rfl rfl (by decide) (Nat.le_of_ble_eq_true rfl) rfl (e_X6_append (by omega) q3) ?_
     cases q5 : f_X6_append s0_2 a1 with
     | none => rw [q5] at H; cases H
     | some s0_4 =>
      rw [q5] at H
      dsimp only at H
      refine pm_Wg.path (k := 3) (ds := []) (f' := (39, [some (.ref 0), some (.int a0), some (.int a1), some (.int a2), some (.int a3), some (.int a4)], [.int a1, .ref 1], cl_h (ct_x v1 v2 v3 s0_2) g1 g2 g3 g4 g5 g6 g7 g8 g9 q)) tk_X8_feed (by omega) rfl trivial ?_
      refine pm_Wg.callV (m' := 81) (ix := 38) (rr := 95) (pl := 834) (b := 1) (As := [.int a1]) (S := []) (by decide) rfl (pm_dec tk_X8_feed rfl) rfl rfl (by decide) rfl rfl (by decide) (Nat.le_of_ble_eq_true rfl) rfl (e_X6_append (by omega) q5) ?_
      cases q7 : f_X6_append s0_4 a2 with
      | none => rw [q7] at H; cases H
      | some s0_6 =>
       rw [q7] at H
       dsimp only at H
       refine pm_Wg.path (k := 3) (ds := []) (f' := (47, [some (.ref 0), some (.int a0), some (.int a1), some (.int a2), some (.int a3), some (.int a4)], [.int a2, .ref 1], cl_h (ct_x v1 v2 v3 s0_4) g1 g2 g3 g4 g5 g6 g7 g8 g9 q)) tk_X8_feed (by omega) rfl trivial ?_
       refine pm_Wg.callV (m' := 81) (ix := 38) (rr := 95) (pl := 834) (b := 1) (As := [.int a2]) (S := []) (by decide) rfl (pm_dec tk_X8_feed rfl) rfl rfl (by decide) rfl rfl (by decide) (Nat.le_of_ble_eq_true rfl) rfl (e_X6_append (by omega) q7) ?_
       cases q9 : f_X6_append s0_6 a3 with
       | none => rw [q9] at H; cases H
       | some s0_8 =>
        rw [q9] at H
        dsimp only at H
        refine pm_Wg.path (k := 3) (ds := []) (f' := (56, [some (.ref 0), some (.int a0), some (.int a1), some (.int a2), some (.int a3), some (.int a4)], [.int a3, .ref 1], cl_h (ct_x v1 v2 v3 s0_6) g1 g2 g3 g4 g5 g6 g7 g8 g9 q)) tk_X8_feed (by omega) rfl trivial ?_
        refine pm_Wg.callV (m' := 81) (ix := 38) (rr := 95) (pl := 834) (b := 1) (As := [.int a3]) (S := []) (by decide) rfl (pm_dec tk_X8_feed rfl) rfl rfl (by decide) rfl rfl (by decide) (Nat.le_of_ble_eq_true rfl) rfl (e_X6_append (by omega) q9) ?_
        cases q11 : f_X6_append s0_8 a4 with
        | none => rw [q11] at H; cases H
        | some s0_10 =>
         rw [q11] at H
         dsimp only at H
         refine pm_Wg.path (k := 3) (ds := []) (f' := (65, [some (.ref 0), some (.int a0), some (.int a1), some (.int a2), some (.int a3), some (.int a4)], [.int a4, .ref 1], cl_h (ct_x v1 v2 v3 s0_8) g1 g2 g3 g4 g5 g6 g7 g8 g9 q)) tk_X8_feed (by omega) rfl trivial ?_
         refine pm_Wg.callV (m' := 81) (ix := 38) (rr := 95) (pl := 834) (b := 1) (As := [.int a4]) (S := []) (by decide) rfl (pm_dec tk_X8_feed rfl) rfl rfl (by decide) rfl rfl (by decide) (Nat.le_of_ble_eq_true rfl) rfl (e_X6_append (by omega) q11) ?_
         have J := Option.some.inj H
         injection J with J0a J0z
         injection J0a with JR
         subst JR
         subst J0z
         refine pm_Wg.path (k := 3) (ds := []) (f' := (75, [some (.ref 0), some (.int a0), some (.int a1), some (.int a2), some (.int a3), some (.int a4)], [.int (s0_10.1 1 1)], cl_h (ct_x v1 v2 v3 s0_10) g1 g2 g3 g4 g5 g6 g7 g8 g9 q)) tk_X8_feed (by omega) rfl trivial ?_
         exact pm_Wg.iret (pm_dec tk_X8_feed rfl) rfl rfl
  · rw [if_neg h1] at H
    have J := Option.some.inj H
    injection J with J0a J0z
    cases J0a
set_option maxRecDepth 20000 in
set_option maxHeartbeats 20000000 in
theorem e_X8_feed_A_t0 {d : Nat} (hd : 6 ≤ d) {g1 g2 g3 g4 g5 g6 g7 g8 g9 : List pm_E} {v1 v2 v3 : Value} {q : Nat × Nat × Nat} {s0 : cs_S} {a0 : Int32} {a1 : Int32} {a2 : Int32} {a3 : Int32} {a4 : Int32} {z0 : cs_S} (H : f_X8_feed_A s0 a0 a1 a2 a3 a4 = some (.inr 0, z0)) : pm_Mt 97 d [.ref 0, .int a0, .int a1, .int a2, .int a3, .int a4] (cl_h (ct_x v1 v2 v3 s0) g1 g2 g3 g4 g5 g6 g7 g8 g9 q) (.inr "java/lang/IllegalStateException") (cl_h (ct_x v1 v2 v3 z0) g1 g2 g3 g4 g5 g6 g7 g8 g9 (q.1, q.2.1 + 1, q.2.2 + 6)) := by
  refine pm_Mt.of (by decide) (by decide +kernel) rfl rfl ?_
  obtain ⟨d, rfl⟩ : ∃ d', d = d' + 1 := ⟨d - 1, by omega⟩
  unfold f_X8_feed_A at H
  by_cases h1 : ((s0.1 1 1) + 20) ≤ 800
  · rw [if_pos h1] at H
    cases q3 : f_X6_append s0 a0 with
    | none => rw [q3] at H; cases H
    | some s0_2 =>
     rw [q3] at H
     dsimp only at H
     refine pm_Wg.path (k := 10) (ds := [1]) (f' := (31, [some (.ref 0), some (.int a0), some (.int a1), some (.int a2), some (.int a3), some (.int a4)], [.int a0, .ref 1], cl_h (ct_x v1 v2 v3 s0) g1 g2 g3 g4 g5 g6 g7 g8 g9 q)) tk_X8_feed (by omega) rfl ⟨h1, trivial⟩ ?_
     refine pm_Wg.callV (m' := 81) (ix := 38) (rr := 95) (pl := 834) (b := 1) (As := [.int a0]) (S := []) (by decide) rfl (pm_dec tk_X8_feed rfl) rfl rfl (by decide) rfl rfl (by decide) (Nat.le_of_ble_eq_true rfl) rfl (e_X6_append (by omega) q3) ?_
     cases q5 : f_X6_append s0_2 a1 with
     | none => rw [q5] at H; cases H
     | some s0_4 =>
      rw [q5] at H
      dsimp only at H
      refine pm_Wg.path (k := 3) (ds := []) (f' := (39, [some (.ref 0), some (.int a0), some (.int a1), some (.int a2), some (.int a3), some (.int a4)], [.int a1, .ref 1], cl_h (ct_x v1 v2 v3 s0_2) g1 g2 g3 g4 g5 g6 g7 g8 g9 q)) tk_X8_feed (by omega) rfl trivial ?_
      refine pm_Wg.callV (m' := 81) (ix := 38) (rr := 95) (pl := 834) (b := 1) (As := [.int a1]) (S := []) (by decide) rfl (pm_dec tk_X8_feed rfl) rfl rfl (by decide) rfl rfl (by decide) (Nat.le_of_ble_eq_true rfl) rfl (e_X6_append (by omega) q5) ?_
      cases q7 : f_X6_append s0_4 a2 with
      | none => rw [q7] at H; cases H
      | some s0_6 =>
       rw [q7] at H
       dsimp only at H
       refine pm_Wg.path (k := 3) (ds := []) (f' := (47, [some (.ref 0), some (.int a0), some (.int a1), some (.int a2), some (.int a3), some (.int a4)], [.int a2, .ref 1], cl_h (ct_x v1 v2 v3 s0_4) g1 g2 g3 g4 g5 g6 g7 g8 g9 q)) tk_X8_feed (by omega) rfl trivial ?_
       refine pm_Wg.callV (m' := 81) (ix := 38) (rr := 95) (pl := 834) (b := 1) (As := [.int a2]) (S := []) (by decide) rfl (pm_dec tk_X8_feed rfl) rfl rfl (by decide) rfl rfl (by decide) (Nat.le_of_ble_eq_true rfl) rfl (e_X6_append (by omega) q7) ?_
       cases q9 : f_X6_append s0_6 a3 with
       | none => rw [q9] at H; cases H
       | some s0_8 =>
        rw [q9] at H
        dsimp only at H
        refine pm_Wg.path (k := 3) (ds := []) (f' := (56, [some (.ref 0), some (.int a0), some (.int a1), some (.int a2), some (.int a3), some (.int a4)], [.int a3, .ref 1], cl_h (ct_x v1 v2 v3 s0_6) g1 g2 g3 g4 g5 g6 g7 g8 g9 q)) tk_X8_feed (by omega) rfl trivial ?_
        refine pm_Wg.callV (m' := 81) (ix := 38) (rr := 95) (pl := 834) (b := 1) (As := [.int a3]) (S := []) (by decide) rfl (pm_dec tk_X8_feed rfl) rfl rfl (by decide) rfl rfl (by decide) (Nat.le_of_ble_eq_true rfl) rfl (e_X6_append (by omega) q9) ?_
        cases q11 : f_X6_append s0_8 a4 with
        | none => rw [q11] at H; cases H
        | some s0_10 =>
         rw [q11] at H
         dsimp only at H
         refine pm_Wg.path (k := 3) (ds := []) (f' := (65, [some (.ref 0), some (.int a0), some (.int a1), some (.int a2), some (.int a3), some (.int a4)], [.int a4, .ref 1], cl_h (ct_x v1 v2 v3 s0_8) g1 g2 g3 g4 g5 g6 g7 g8 g9 q)) tk_X8_feed (by omega) rfl trivial ?_
         refine pm_Wg.callV (m' := 81) (ix := 38) (rr := 95) (pl := 834) (b := 1) (As := [.int a4]) (S := []) (by decide) rfl (pm_dec tk_X8_feed rfl) rfl rfl (by decide) rfl rfl (by decide) (Nat.le_of_ble_eq_true rfl) rfl (e_X6_append (by omega) q11) ?_
         have J := Option.some.inj H
         injection J with J0a J0z
         cases J0a
  · rw [if_neg h1] at H
    have J := Option.some.inj H
    injection J with J0a J0z
    subst J0z
    refine pm_Wg.path (k := 7) (ds := [0]) (f' := (16, [some (.ref 0), some (.int a0), some (.int a1), some (.int a2), some (.int a3), some (.int a4)], [], cl_h (ct_x v1 v2 v3 s0) g1 g2 g3 g4 g5 g6 g7 g8 g9 q)) tk_X8_feed (by omega) rfl ⟨h1, trivial⟩ ?_
    exact pm_Wg.throw (ik := 31) (ic := 35) (ix := 7) (rx := Bundle.six) (k := 0) rfl rfl (by omega) px_ISE rfl rfl (by decide +kernel) (by decide +kernel) (by decide +kernel) (by decide +kernel) (by decide +kernel) (Nat.le_of_ble_eq_true rfl)

def tb_X8_errorCode : List pm_I := [(0, .aload_n 0, 0, 0), (1, .getfield 10, 11, 0), (4, .getfield 57, 8, 0), (7, .ireturn, 0, 0)]
theorem tk_X8_errorCode : ∀ e ∈ tb_X8_errorCode, pm_ck 100 e = true := List.all_eq_true.mp (by decide +kernel)

def f_X8_errorCode_A (s0 : cs_S) : Option (Int32) :=
  some (s0.1 1 6)
set_option maxRecDepth 20000 in
set_option maxHeartbeats 20000000 in
theorem e_X8_errorCode_A {d : Nat} (hd : 1 ≤ d) {g1 g2 g3 g4 g5 g6 g7 g8 g9 : List pm_E} {v1 v2 v3 : Value} {q : Nat × Nat × Nat} {s0 : cs_S} {r : Int32} (H : f_X8_errorCode_A s0 = some r) : pm_Mt 100 d [.ref 0] (cl_h (ct_x v1 v2 v3 s0) g1 g2 g3 g4 g5 g6 g7 g8 g9 q) (.inl (some (.int r))) (cl_h (ct_x v1 v2 v3 s0) g1 g2 g3 g4 g5 g6 g7 g8 g9 q) := by
  refine pm_Mt.of (by decide) (by decide +kernel) rfl rfl ?_
  unfold f_X8_errorCode_A at H
  have J := Option.some.inj H
  subst J
  refine pm_Wg.path (k := 3) (ds := []) (f' := (7, [some (.ref 0)], [.int (s0.1 1 6)], cl_h (ct_x v1 v2 v3 s0) g1 g2 g3 g4 g5 g6 g7 g8 g9 q)) tk_X8_errorCode (by omega) rfl trivial ?_
  exact pm_Wg.iret (pm_dec tk_X8_errorCode rfl) rfl rfl

def tb_X8_errorPosition : List pm_I := [(0, .aload_n 0, 0, 0), (1, .getfield 10, 11, 0), (4, .getfield 99, 10, 0), (7, .ireturn, 0, 0)]
theorem tk_X8_errorPosition : ∀ e ∈ tb_X8_errorPosition, pm_ck 101 e = true := List.all_eq_true.mp (by decide +kernel)

def f_X8_errorPosition_A (s0 : cs_S) : Option (Int32) :=
  some (s0.1 1 7)
set_option maxRecDepth 20000 in
set_option maxHeartbeats 20000000 in
theorem e_X8_errorPosition_A {d : Nat} (hd : 1 ≤ d) {g1 g2 g3 g4 g5 g6 g7 g8 g9 : List pm_E} {v1 v2 v3 : Value} {q : Nat × Nat × Nat} {s0 : cs_S} {r : Int32} (H : f_X8_errorPosition_A s0 = some r) : pm_Mt 101 d [.ref 0] (cl_h (ct_x v1 v2 v3 s0) g1 g2 g3 g4 g5 g6 g7 g8 g9 q) (.inl (some (.int r))) (cl_h (ct_x v1 v2 v3 s0) g1 g2 g3 g4 g5 g6 g7 g8 g9 q) := by
  refine pm_Mt.of (by decide) (by decide +kernel) rfl rfl ?_
  unfold f_X8_errorPosition_A at H
  have J := Option.some.inj H
  subst J
  refine pm_Wg.path (k := 3) (ds := []) (f' := (7, [some (.ref 0)], [.int (s0.1 1 7)], cl_h (ct_x v1 v2 v3 s0) g1 g2 g3 g4 g5 g6 g7 g8 g9 q)) tk_X8_errorPosition (by omega) rfl trivial ?_
  exact pm_Wg.iret (pm_dec tk_X8_errorPosition rfl) rfl rfl

def tb_X8_diskCount : List pm_I := [(0, .aload_n 0, 0, 0), (1, .getfield 20, 13, 0), (4, .ifnonnull 7, 11, 0), (7, .iconst 0, 2, 0), (8, .goto 13, 21, 0), (11, .aload_n 0, 0, 0), (12, .getfield 20, 13, 0), (15, .getfield 79, 98, 0), (18, .getfield 102, 117, 0), (21, .ireturn, 0, 0)]
theorem tk_X8_diskCount : ∀ e ∈ tb_X8_diskCount, pm_ck 102 e = true := List.all_eq_true.mp (by decide +kernel)

def f_X8_diskCount_N (s0 : cs_S) : Option (Int32) :=
  some 0
set_option maxRecDepth 20000 in
set_option maxHeartbeats 20000000 in
theorem e_X8_diskCount_N {d : Nat} (hd : 1 ≤ d) {g1 g2 g3 g4 g5 g6 g7 g8 g9 : List pm_E} {v1 v3 : Value} {q : Nat × Nat × Nat} {s0 : cs_S} {r : Int32} (H : f_X8_diskCount_N s0 = some r) : pm_Mt 102 d [.ref 0] (cl_h (ct_x v1 (.null) v3 s0) g1 g2 g3 g4 g5 g6 g7 g8 g9 q) (.inl (some (.int r))) (cl_h (ct_x v1 (.null) v3 s0) g1 g2 g3 g4 g5 g6 g7 g8 g9 q) := by
  refine pm_Mt.of (by decide) (by decide +kernel) rfl rfl ?_
  unfold f_X8_diskCount_N at H
  have J := Option.some.inj H
  subst J
  refine pm_Wg.path (k := 5) (ds := []) (f' := (21, [some (.ref 0)], [.int 0], cl_h (ct_x v1 (.null) v3 s0) g1 g2 g3 g4 g5 g6 g7 g8 g9 q)) tk_X8_diskCount (by omega) rfl trivial ?_
  exact pm_Wg.iret (pm_dec tk_X8_diskCount rfl) rfl rfl

def f_X8_diskCount_E (s0 : cs_S) (s4 : cs_S) (s5 : cs_S) : Option (Int32) :=
  some (s4.1 0 0)
set_option maxRecDepth 20000 in
set_option maxHeartbeats 20000000 in
theorem e_X8_diskCount_E {d : Nat} (hd : 1 ≤ d) {g1 g2 g3 g6 g7 g8 g9 : List pm_E} {v1 v3 : Value} {q : Nat × Nat × Nat} {s0 : cs_S} {s4 : cs_S} {s5 : cs_S} {r : Int32} (H : f_X8_diskCount_E s0 s4 s5 = some r) : pm_Mt 102 d [.ref 0] (cl_h (ct_x v1 (.ref 320) v3 s0) g1 g2 g3 (ct_p4 s4) (ct_e5 (.ref 256) (.ref 384) s5) g6 g7 g8 g9 q) (.inl (some (.int r))) (cl_h (ct_x v1 (.ref 320) v3 s0) g1 g2 g3 (ct_p4 s4) (ct_e5 (.ref 256) (.ref 384) s5) g6 g7 g8 g9 q) := by
  refine pm_Mt.of (by decide) (by decide +kernel) rfl rfl ?_
  unfold f_X8_diskCount_E at H
  have J := Option.some.inj H
  subst J
  refine pm_Wg.path (k := 7) (ds := []) (f' := (21, [some (.ref 0)], [.int (s4.1 0 0)], cl_h (ct_x v1 (.ref 320) v3 s0) g1 g2 g3 (ct_p4 s4) (ct_e5 (.ref 256) (.ref 384) s5) g6 g7 g8 g9 q)) tk_X8_diskCount (by omega) rfl trivial ?_
  exact pm_Wg.iret (pm_dec tk_X8_diskCount rfl) rfl rfl

def tb_X8_stripeCount : List pm_I := [(0, .aload_n 0, 0, 0), (1, .getfield 20, 13, 0), (4, .ifnonnull 7, 11, 0), (7, .iconst 0, 2, 0), (8, .goto 13, 21, 0), (11, .aload_n 0, 0, 0), (12, .getfield 20, 13, 0), (15, .getfield 79, 98, 0), (18, .getfield 105, 119, 0), (21, .ireturn, 0, 0)]
theorem tk_X8_stripeCount : ∀ e ∈ tb_X8_stripeCount, pm_ck 103 e = true := List.all_eq_true.mp (by decide +kernel)

def f_X8_stripeCount_N (s0 : cs_S) : Option (Int32) :=
  some 0
set_option maxRecDepth 20000 in
set_option maxHeartbeats 20000000 in
theorem e_X8_stripeCount_N {d : Nat} (hd : 1 ≤ d) {g1 g2 g3 g4 g5 g6 g7 g8 g9 : List pm_E} {v1 v3 : Value} {q : Nat × Nat × Nat} {s0 : cs_S} {r : Int32} (H : f_X8_stripeCount_N s0 = some r) : pm_Mt 103 d [.ref 0] (cl_h (ct_x v1 (.null) v3 s0) g1 g2 g3 g4 g5 g6 g7 g8 g9 q) (.inl (some (.int r))) (cl_h (ct_x v1 (.null) v3 s0) g1 g2 g3 g4 g5 g6 g7 g8 g9 q) := by
  refine pm_Mt.of (by decide) (by decide +kernel) rfl rfl ?_
  unfold f_X8_stripeCount_N at H
  have J := Option.some.inj H
  subst J
  refine pm_Wg.path (k := 5) (ds := []) (f' := (21, [some (.ref 0)], [.int 0], cl_h (ct_x v1 (.null) v3 s0) g1 g2 g3 g4 g5 g6 g7 g8 g9 q)) tk_X8_stripeCount (by omega) rfl trivial ?_
  exact pm_Wg.iret (pm_dec tk_X8_stripeCount rfl) rfl rfl

def f_X8_stripeCount_E (s0 : cs_S) (s4 : cs_S) (s5 : cs_S) : Option (Int32) :=
  some (s4.1 0 1)
set_option maxRecDepth 20000 in
set_option maxHeartbeats 20000000 in
theorem e_X8_stripeCount_E {d : Nat} (hd : 1 ≤ d) {g1 g2 g3 g6 g7 g8 g9 : List pm_E} {v1 v3 : Value} {q : Nat × Nat × Nat} {s0 : cs_S} {s4 : cs_S} {s5 : cs_S} {r : Int32} (H : f_X8_stripeCount_E s0 s4 s5 = some r) : pm_Mt 103 d [.ref 0] (cl_h (ct_x v1 (.ref 320) v3 s0) g1 g2 g3 (ct_p4 s4) (ct_e5 (.ref 256) (.ref 384) s5) g6 g7 g8 g9 q) (.inl (some (.int r))) (cl_h (ct_x v1 (.ref 320) v3 s0) g1 g2 g3 (ct_p4 s4) (ct_e5 (.ref 256) (.ref 384) s5) g6 g7 g8 g9 q) := by
  refine pm_Mt.of (by decide) (by decide +kernel) rfl rfl ?_
  unfold f_X8_stripeCount_E at H
  have J := Option.some.inj H
  subst J
  refine pm_Wg.path (k := 7) (ds := []) (f' := (21, [some (.ref 0)], [.int (s4.1 0 1)], cl_h (ct_x v1 (.ref 320) v3 s0) g1 g2 g3 (ct_p4 s4) (ct_e5 (.ref 256) (.ref 384) s5) g6 g7 g8 g9 q)) tk_X8_stripeCount (by omega) rfl trivial ?_
  exact pm_Wg.iret (pm_dec tk_X8_stripeCount rfl) rfl rfl

def tb_X8_tenantCount : List pm_I := [(0, .aload_n 0, 0, 0), (1, .getfield 20, 13, 0), (4, .ifnonnull 7, 11, 0), (7, .iconst 0, 2, 0), (8, .goto 13, 21, 0), (11, .aload_n 0, 0, 0), (12, .getfield 20, 13, 0), (15, .getfield 79, 98, 0), (18, .getfield 74, 133, 0), (21, .ireturn, 0, 0)]
theorem tk_X8_tenantCount : ∀ e ∈ tb_X8_tenantCount, pm_ck 104 e = true := List.all_eq_true.mp (by decide +kernel)

def f_X8_tenantCount_N (s0 : cs_S) : Option (Int32) :=
  some 0
set_option maxRecDepth 20000 in
set_option maxHeartbeats 20000000 in
theorem e_X8_tenantCount_N {d : Nat} (hd : 1 ≤ d) {g1 g2 g3 g4 g5 g6 g7 g8 g9 : List pm_E} {v1 v3 : Value} {q : Nat × Nat × Nat} {s0 : cs_S} {r : Int32} (H : f_X8_tenantCount_N s0 = some r) : pm_Mt 104 d [.ref 0] (cl_h (ct_x v1 (.null) v3 s0) g1 g2 g3 g4 g5 g6 g7 g8 g9 q) (.inl (some (.int r))) (cl_h (ct_x v1 (.null) v3 s0) g1 g2 g3 g4 g5 g6 g7 g8 g9 q) := by
  refine pm_Mt.of (by decide) (by decide +kernel) rfl rfl ?_
  unfold f_X8_tenantCount_N at H
  have J := Option.some.inj H
  subst J
  refine pm_Wg.path (k := 5) (ds := []) (f' := (21, [some (.ref 0)], [.int 0], cl_h (ct_x v1 (.null) v3 s0) g1 g2 g3 g4 g5 g6 g7 g8 g9 q)) tk_X8_tenantCount (by omega) rfl trivial ?_
  exact pm_Wg.iret (pm_dec tk_X8_tenantCount rfl) rfl rfl

def f_X8_tenantCount_E (s0 : cs_S) (s4 : cs_S) (s5 : cs_S) : Option (Int32) :=
  some (s4.1 0 7)
set_option maxRecDepth 20000 in
set_option maxHeartbeats 20000000 in
theorem e_X8_tenantCount_E {d : Nat} (hd : 1 ≤ d) {g1 g2 g3 g6 g7 g8 g9 : List pm_E} {v1 v3 : Value} {q : Nat × Nat × Nat} {s0 : cs_S} {s4 : cs_S} {s5 : cs_S} {r : Int32} (H : f_X8_tenantCount_E s0 s4 s5 = some r) : pm_Mt 104 d [.ref 0] (cl_h (ct_x v1 (.ref 320) v3 s0) g1 g2 g3 (ct_p4 s4) (ct_e5 (.ref 256) (.ref 384) s5) g6 g7 g8 g9 q) (.inl (some (.int r))) (cl_h (ct_x v1 (.ref 320) v3 s0) g1 g2 g3 (ct_p4 s4) (ct_e5 (.ref 256) (.ref 384) s5) g6 g7 g8 g9 q) := by
  refine pm_Mt.of (by decide) (by decide +kernel) rfl rfl ?_
  unfold f_X8_tenantCount_E at H
  have J := Option.some.inj H
  subst J
  refine pm_Wg.path (k := 7) (ds := []) (f' := (21, [some (.ref 0)], [.int (s4.1 0 7)], cl_h (ct_x v1 (.ref 320) v3 s0) g1 g2 g3 (ct_p4 s4) (ct_e5 (.ref 256) (.ref 384) s5) g6 g7 g8 g9 q)) tk_X8_tenantCount (by omega) rfl trivial ?_
  exact pm_Wg.iret (pm_dec tk_X8_tenantCount rfl) rfl rfl

def tb_X8_stripeOf : List pm_I := [(0, .aload_n 0, 0, 0), (1, .getfield 20, 13, 0), (4, .ifnull 17, 21, 0), (7, .aload_n 0, 0, 0), (8, .getfield 20, 13, 0), (11, .getfield 79, 98, 0), (14, .iload_n 1, 0, 0), (15, .invokevirtual 108, 151, 0), (18, .ifCond .ne 13, 31, 0), (31, .aload_n 0, 0, 0), (32, .getfield 20, 13, 0), (35, .getfield 79, 98, 0), (38, .iload_n 1, 0, 0), (39, .invokevirtual 117, 153, 0), (42, .ireturn, 0, 0)]
theorem tk_X8_stripeOf : ∀ e ∈ tb_X8_stripeOf, pm_ck 105 e = true := List.all_eq_true.mp (by decide +kernel)

def f_X8_stripeOf_N (s0 : cs_S) (a0 : Int32) : Option ((Int32 ⊕ Nat)) :=
  some (.inr 2)
set_option maxRecDepth 20000 in
set_option maxHeartbeats 20000000 in
theorem e_X8_stripeOf_N_t2 {d : Nat} (hd : 6 ≤ d) {g1 g2 g3 g4 g5 g6 g7 g8 g9 : List pm_E} {v1 v3 : Value} {q : Nat × Nat × Nat} {s0 : cs_S} {a0 : Int32} (H : f_X8_stripeOf_N s0 a0 = some (.inr 2)) : pm_Mt 105 d [.ref 0, .int a0] (cl_h (ct_x v1 (.null) v3 s0) g1 g2 g3 g4 g5 g6 g7 g8 g9 q) (.inr "java/util/NoSuchElementException") (cl_h (ct_x v1 (.null) v3 s0) g1 g2 g3 g4 g5 g6 g7 g8 g9 (q.1, q.2.1 + 1, q.2.2 + 6)) := by
  refine pm_Mt.of (by decide) (by decide +kernel) rfl rfl ?_
  obtain ⟨d, rfl⟩ : ∃ d', d = d' + 1 := ⟨d - 1, by omega⟩
  unfold f_X8_stripeOf_N at H
  have J := Option.some.inj H
  refine pm_Wg.path (k := 3) (ds := []) (f' := (21, [some (.ref 0), some (.int a0)], [], cl_h (ct_x v1 (.null) v3 s0) g1 g2 g3 g4 g5 g6 g7 g8 g9 q)) tk_X8_stripeOf (by omega) rfl trivial ?_
  exact pm_Wg.throw (ik := 112) (ic := 116) (ix := 13) (rx := px_rx13) (k := 17) rfl rfl (by omega) px_NSE rfl rfl (by decide +kernel) (by decide +kernel) (by decide +kernel) (by decide +kernel) (by decide +kernel) (Nat.le_of_ble_eq_true rfl)

def f_X8_stripeOf_E (s0 : cs_S) (s4 : cs_S) (s5 : cs_S) (a0 : Int32) : Option ((Int32 ⊕ Nat)) :=
  (match f_X2_hasUnit s4 a0 with
  | none => none
  | some r1 =>
   (if r1 = 0 then
    some (.inr 2)
   else
    (match f_X2_stripeWith s4 a0 with
    | none => none
    | some r4 =>
     some (.inl r4))))
set_option maxRecDepth 20000 in
set_option maxHeartbeats 20000000 in
theorem e_X8_stripeOf_E {d : Nat} (hd : 6 ≤ d) {g1 g2 g3 g6 g7 g8 g9 : List pm_E} {v1 v3 : Value} {q : Nat × Nat × Nat} {s0 : cs_S} {s4 : cs_S} {s5 : cs_S} {a0 : Int32} {r : Int32} (H : f_X8_stripeOf_E s0 s4 s5 a0 = some (.inl r)) : pm_Mt 105 d [.ref 0, .int a0] (cl_h (ct_x v1 (.ref 320) v3 s0) g1 g2 g3 (ct_p4 s4) (ct_e5 (.ref 256) (.ref 384) s5) g6 g7 g8 g9 q) (.inl (some (.int r))) (cl_h (ct_x v1 (.ref 320) v3 s0) g1 g2 g3 (ct_p4 s4) (ct_e5 (.ref 256) (.ref 384) s5) g6 g7 g8 g9 q) := by
  refine pm_Mt.of (by decide) (by decide +kernel) rfl rfl ?_
  obtain ⟨d, rfl⟩ : ∃ d', d = d' + 1 := ⟨d - 1, by omega⟩
  unfold f_X8_stripeOf_E at H
  cases q2 : f_X2_hasUnit s4 a0 with
  | none => rw [q2] at H; cases H
  | some r1 =>
   rw [q2] at H
   dsimp only at H
   refine pm_Wg.path (k := 7) (ds := []) (f' := (15, [some (.ref 0), some (.int a0)], [.int a0, .ref 256], cl_h (ct_x v1 (.ref 320) v3 s0) g1 g2 g3 (ct_p4 s4) (ct_e5 (.ref 256) (.ref 384) s5) g6 g7 g8 g9 q)) tk_X8_stripeOf (by omega) rfl trivial ?_
   refine pm_Wg.callV (m' := 37) (ix := 108) (rr := 151) (pl := 1143) (b := 256) (As := [.int a0]) (S := []) (by decide) rfl (pm_dec tk_X8_stripeOf rfl) rfl rfl (by decide) rfl rfl (by decide) (Nat.le_of_ble_eq_true rfl) rfl (e_X2_hasUnit (by omega) q2) ?_
   by_cases h3 : r1 = 0
   · rw [if_pos h3] at H
     have J := Option.some.inj H
     cases J
   · rw [if_neg h3] at H
     cases q5 : f_X2_stripeWith s4 a0 with
     | none => rw [q5] at H; cases H
     | some r4 =>
      rw [q5] at H
      dsimp only at H
      refine pm_Wg.path (k := 5) (ds := [1]) (f' := (39, [some (.ref 0), some (.int a0)], [.int a0, .ref 256], cl_h (ct_x v1 (.ref 320) v3 s0) g1 g2 g3 (ct_p4 s4) (ct_e5 (.ref 256) (.ref 384) s5) g6 g7 g8 g9 q)) tk_X8_stripeOf (by omega) rfl ⟨h3, trivial⟩ ?_
      refine pm_Wg.callV (m' := 38) (ix := 117) (rr := 153) (pl := 1164) (b := 256) (As := [.int a0]) (S := []) (by decide) rfl (pm_dec tk_X8_stripeOf rfl) rfl rfl (by decide) rfl rfl (by decide) (Nat.le_of_ble_eq_true rfl) rfl (e_X2_stripeWith (by omega) q5) ?_
      have J := Option.some.inj H
      injection J with JR
      subst JR
      exact pm_Wg.iret (pm_dec tk_X8_stripeOf rfl) rfl rfl
set_option maxRecDepth 20000 in
set_option maxHeartbeats 20000000 in
theorem e_X8_stripeOf_E_t2 {d : Nat} (hd : 6 ≤ d) {g1 g2 g3 g6 g7 g8 g9 : List pm_E} {v1 v3 : Value} {q : Nat × Nat × Nat} {s0 : cs_S} {s4 : cs_S} {s5 : cs_S} {a0 : Int32} (H : f_X8_stripeOf_E s0 s4 s5 a0 = some (.inr 2)) : pm_Mt 105 d [.ref 0, .int a0] (cl_h (ct_x v1 (.ref 320) v3 s0) g1 g2 g3 (ct_p4 s4) (ct_e5 (.ref 256) (.ref 384) s5) g6 g7 g8 g9 q) (.inr "java/util/NoSuchElementException") (cl_h (ct_x v1 (.ref 320) v3 s0) g1 g2 g3 (ct_p4 s4) (ct_e5 (.ref 256) (.ref 384) s5) g6 g7 g8 g9 (q.1, q.2.1 + 1, q.2.2 + 6)) := by
  refine pm_Mt.of (by decide) (by decide +kernel) rfl rfl ?_
  obtain ⟨d, rfl⟩ : ∃ d', d = d' + 1 := ⟨d - 1, by omega⟩
  unfold f_X8_stripeOf_E at H
  cases q2 : f_X2_hasUnit s4 a0 with
  | none => rw [q2] at H; cases H
  | some r1 =>
   rw [q2] at H
   dsimp only at H
   refine pm_Wg.path (k := 7) (ds := []) (f' := (15, [some (.ref 0), some (.int a0)], [.int a0, .ref 256], cl_h (ct_x v1 (.ref 320) v3 s0) g1 g2 g3 (ct_p4 s4) (ct_e5 (.ref 256) (.ref 384) s5) g6 g7 g8 g9 q)) tk_X8_stripeOf (by omega) rfl trivial ?_
   refine pm_Wg.callV (m' := 37) (ix := 108) (rr := 151) (pl := 1143) (b := 256) (As := [.int a0]) (S := []) (by decide) rfl (pm_dec tk_X8_stripeOf rfl) rfl rfl (by decide) rfl rfl (by decide) (Nat.le_of_ble_eq_true rfl) rfl (e_X2_hasUnit (by omega) q2) ?_
   by_cases h3 : r1 = 0
   · rw [if_pos h3] at H
     have J := Option.some.inj H
     refine pm_Wg.path (k := 1) (ds := [0]) (f' := (21, [some (.ref 0), some (.int a0)], [], cl_h (ct_x v1 (.ref 320) v3 s0) g1 g2 g3 (ct_p4 s4) (ct_e5 (.ref 256) (.ref 384) s5) g6 g7 g8 g9 q)) tk_X8_stripeOf (by omega) rfl ⟨h3, trivial⟩ ?_
     exact pm_Wg.throw (ik := 112) (ic := 116) (ix := 13) (rx := px_rx13) (k := 17) rfl rfl (by omega) px_NSE rfl rfl (by decide +kernel) (by decide +kernel) (by decide +kernel) (by decide +kernel) (by decide +kernel) (Nat.le_of_ble_eq_true rfl)
   · rw [if_neg h3] at H
     cases q5 : f_X2_stripeWith s4 a0 with
     | none => rw [q5] at H; cases H
     | some r4 =>
      rw [q5] at H
      dsimp only at H
      refine pm_Wg.path (k := 5) (ds := [1]) (f' := (39, [some (.ref 0), some (.int a0)], [.int a0, .ref 256], cl_h (ct_x v1 (.ref 320) v3 s0) g1 g2 g3 (ct_p4 s4) (ct_e5 (.ref 256) (.ref 384) s5) g6 g7 g8 g9 q)) tk_X8_stripeOf (by omega) rfl ⟨h3, trivial⟩ ?_
      refine pm_Wg.callV (m' := 38) (ix := 117) (rr := 153) (pl := 1164) (b := 256) (As := [.int a0]) (S := []) (by decide) rfl (pm_dec tk_X8_stripeOf rfl) rfl rfl (by decide) rfl rfl (by decide) (Nat.le_of_ble_eq_true rfl) rfl (e_X2_stripeWith (by omega) q5) ?_
      have J := Option.some.inj H
      cases J

def tb_X8_diskOf : List pm_I := [(0, .aload_n 0, 0, 0), (1, .getfield 20, 13, 0), (4, .ifnull 17, 21, 0), (7, .aload_n 0, 0, 0), (8, .getfield 20, 13, 0), (11, .getfield 79, 98, 0), (14, .iload_n 1, 0, 0), (15, .invokevirtual 108, 151, 0), (18, .ifCond .ne 13, 31, 0), (31, .aload_n 0, 0, 0), (32, .getfield 20, 13, 0), (35, .getfield 79, 98, 0), (38, .iload_n 1, 0, 0), (39, .invokevirtual 121, 156, 0), (42, .ireturn, 0, 0)]
theorem tk_X8_diskOf : ∀ e ∈ tb_X8_diskOf, pm_ck 106 e = true := List.all_eq_true.mp (by decide +kernel)

def f_X8_diskOf_N (s0 : cs_S) (a0 : Int32) : Option ((Int32 ⊕ Nat)) :=
  some (.inr 2)
set_option maxRecDepth 20000 in
set_option maxHeartbeats 20000000 in
theorem e_X8_diskOf_N_t2 {d : Nat} (hd : 6 ≤ d) {g1 g2 g3 g4 g5 g6 g7 g8 g9 : List pm_E} {v1 v3 : Value} {q : Nat × Nat × Nat} {s0 : cs_S} {a0 : Int32} (H : f_X8_diskOf_N s0 a0 = some (.inr 2)) : pm_Mt 106 d [.ref 0, .int a0] (cl_h (ct_x v1 (.null) v3 s0) g1 g2 g3 g4 g5 g6 g7 g8 g9 q) (.inr "java/util/NoSuchElementException") (cl_h (ct_x v1 (.null) v3 s0) g1 g2 g3 g4 g5 g6 g7 g8 g9 (q.1, q.2.1 + 1, q.2.2 + 6)) := by
  refine pm_Mt.of (by decide) (by decide +kernel) rfl rfl ?_
  obtain ⟨d, rfl⟩ : ∃ d', d = d' + 1 := ⟨d - 1, by omega⟩
  unfold f_X8_diskOf_N at H
  have J := Option.some.inj H
  refine pm_Wg.path (k := 3) (ds := []) (f' := (21, [some (.ref 0), some (.int a0)], [], cl_h (ct_x v1 (.null) v3 s0) g1 g2 g3 g4 g5 g6 g7 g8 g9 q)) tk_X8_diskOf (by omega) rfl trivial ?_
  exact pm_Wg.throw (ik := 112) (ic := 116) (ix := 13) (rx := px_rx13) (k := 17) rfl rfl (by omega) px_NSE rfl rfl (by decide +kernel) (by decide +kernel) (by decide +kernel) (by decide +kernel) (by decide +kernel) (Nat.le_of_ble_eq_true rfl)

def f_X8_diskOf_E (s0 : cs_S) (s4 : cs_S) (s5 : cs_S) (a0 : Int32) : Option ((Int32 ⊕ Nat)) :=
  (match f_X2_hasUnit s4 a0 with
  | none => none
  | some r1 =>
   (if r1 = 0 then
    some (.inr 2)
   else
    (match f_X2_diskWith s4 a0 with
    | none => none
    | some r4 =>
     some (.inl r4))))
set_option maxRecDepth 20000 in
set_option maxHeartbeats 20000000 in
theorem e_X8_diskOf_E {d : Nat} (hd : 6 ≤ d) {g1 g2 g3 g6 g7 g8 g9 : List pm_E} {v1 v3 : Value} {q : Nat × Nat × Nat} {s0 : cs_S} {s4 : cs_S} {s5 : cs_S} {a0 : Int32} {r : Int32} (H : f_X8_diskOf_E s0 s4 s5 a0 = some (.inl r)) : pm_Mt 106 d [.ref 0, .int a0] (cl_h (ct_x v1 (.ref 320) v3 s0) g1 g2 g3 (ct_p4 s4) (ct_e5 (.ref 256) (.ref 384) s5) g6 g7 g8 g9 q) (.inl (some (.int r))) (cl_h (ct_x v1 (.ref 320) v3 s0) g1 g2 g3 (ct_p4 s4) (ct_e5 (.ref 256) (.ref 384) s5) g6 g7 g8 g9 q) := by
  refine pm_Mt.of (by decide) (by decide +kernel) rfl rfl ?_
  obtain ⟨d, rfl⟩ : ∃ d', d = d' + 1 := ⟨d - 1, by omega⟩
  unfold f_X8_diskOf_E at H
  cases q2 : f_X2_hasUnit s4 a0 with
  | none => rw [q2] at H; cases H
  | some r1 =>
   rw [q2] at H
   dsimp only at H
   refine pm_Wg.path (k := 7) (ds := []) (f' := (15, [some (.ref 0), some (.int a0)], [.int a0, .ref 256], cl_h (ct_x v1 (.ref 320) v3 s0) g1 g2 g3 (ct_p4 s4) (ct_e5 (.ref 256) (.ref 384) s5) g6 g7 g8 g9 q)) tk_X8_diskOf (by omega) rfl trivial ?_
   refine pm_Wg.callV (m' := 37) (ix := 108) (rr := 151) (pl := 1143) (b := 256) (As := [.int a0]) (S := []) (by decide) rfl (pm_dec tk_X8_diskOf rfl) rfl rfl (by decide) rfl rfl (by decide) (Nat.le_of_ble_eq_true rfl) rfl (e_X2_hasUnit (by omega) q2) ?_
   by_cases h3 : r1 = 0
   · rw [if_pos h3] at H
     have J := Option.some.inj H
     cases J
   · rw [if_neg h3] at H
     cases q5 : f_X2_diskWith s4 a0 with
     | none => rw [q5] at H; cases H
     | some r4 =>
      rw [q5] at H
      dsimp only at H
      refine pm_Wg.path (k := 5) (ds := [1]) (f' := (39, [some (.ref 0), some (.int a0)], [.int a0, .ref 256], cl_h (ct_x v1 (.ref 320) v3 s0) g1 g2 g3 (ct_p4 s4) (ct_e5 (.ref 256) (.ref 384) s5) g6 g7 g8 g9 q)) tk_X8_diskOf (by omega) rfl ⟨h3, trivial⟩ ?_
      refine pm_Wg.callV (m' := 39) (ix := 121) (rr := 156) (pl := 1172) (b := 256) (As := [.int a0]) (S := []) (by decide) rfl (pm_dec tk_X8_diskOf rfl) rfl rfl (by decide) rfl rfl (by decide) (Nat.le_of_ble_eq_true rfl) rfl (e_X2_diskWith (by omega) q5) ?_
      have J := Option.some.inj H
      injection J with JR
      subst JR
      exact pm_Wg.iret (pm_dec tk_X8_diskOf rfl) rfl rfl
set_option maxRecDepth 20000 in
set_option maxHeartbeats 20000000 in
theorem e_X8_diskOf_E_t2 {d : Nat} (hd : 6 ≤ d) {g1 g2 g3 g6 g7 g8 g9 : List pm_E} {v1 v3 : Value} {q : Nat × Nat × Nat} {s0 : cs_S} {s4 : cs_S} {s5 : cs_S} {a0 : Int32} (H : f_X8_diskOf_E s0 s4 s5 a0 = some (.inr 2)) : pm_Mt 106 d [.ref 0, .int a0] (cl_h (ct_x v1 (.ref 320) v3 s0) g1 g2 g3 (ct_p4 s4) (ct_e5 (.ref 256) (.ref 384) s5) g6 g7 g8 g9 q) (.inr "java/util/NoSuchElementException") (cl_h (ct_x v1 (.ref 320) v3 s0) g1 g2 g3 (ct_p4 s4) (ct_e5 (.ref 256) (.ref 384) s5) g6 g7 g8 g9 (q.1, q.2.1 + 1, q.2.2 + 6)) := by
  refine pm_Mt.of (by decide) (by decide +kernel) rfl rfl ?_
  obtain ⟨d, rfl⟩ : ∃ d', d = d' + 1 := ⟨d - 1, by omega⟩
  unfold f_X8_diskOf_E at H
  cases q2 : f_X2_hasUnit s4 a0 with
  | none => rw [q2] at H; cases H
  | some r1 =>
   rw [q2] at H
   dsimp only at H
   refine pm_Wg.path (k := 7) (ds := []) (f' := (15, [some (.ref 0), some (.int a0)], [.int a0, .ref 256], cl_h (ct_x v1 (.ref 320) v3 s0) g1 g2 g3 (ct_p4 s4) (ct_e5 (.ref 256) (.ref 384) s5) g6 g7 g8 g9 q)) tk_X8_diskOf (by omega) rfl trivial ?_
   refine pm_Wg.callV (m' := 37) (ix := 108) (rr := 151) (pl := 1143) (b := 256) (As := [.int a0]) (S := []) (by decide) rfl (pm_dec tk_X8_diskOf rfl) rfl rfl (by decide) rfl rfl (by decide) (Nat.le_of_ble_eq_true rfl) rfl (e_X2_hasUnit (by omega) q2) ?_
   by_cases h3 : r1 = 0
   · rw [if_pos h3] at H
     have J := Option.some.inj H
     refine pm_Wg.path (k := 1) (ds := [0]) (f' := (21, [some (.ref 0), some (.int a0)], [], cl_h (ct_x v1 (.ref 320) v3 s0) g1 g2 g3 (ct_p4 s4) (ct_e5 (.ref 256) (.ref 384) s5) g6 g7 g8 g9 q)) tk_X8_diskOf (by omega) rfl ⟨h3, trivial⟩ ?_
     exact pm_Wg.throw (ik := 112) (ic := 116) (ix := 13) (rx := px_rx13) (k := 17) rfl rfl (by omega) px_NSE rfl rfl (by decide +kernel) (by decide +kernel) (by decide +kernel) (by decide +kernel) (by decide +kernel) (Nat.le_of_ble_eq_true rfl)
   · rw [if_neg h3] at H
     cases q5 : f_X2_diskWith s4 a0 with
     | none => rw [q5] at H; cases H
     | some r4 =>
      rw [q5] at H
      dsimp only at H
      refine pm_Wg.path (k := 5) (ds := [1]) (f' := (39, [some (.ref 0), some (.int a0)], [.int a0, .ref 256], cl_h (ct_x v1 (.ref 320) v3 s0) g1 g2 g3 (ct_p4 s4) (ct_e5 (.ref 256) (.ref 384) s5) g6 g7 g8 g9 q)) tk_X8_diskOf (by omega) rfl ⟨h3, trivial⟩ ?_
      refine pm_Wg.callV (m' := 39) (ix := 121) (rr := 156) (pl := 1172) (b := 256) (As := [.int a0]) (S := []) (by decide) rfl (pm_dec tk_X8_diskOf rfl) rfl rfl (by decide) rfl rfl (by decide) (Nat.le_of_ble_eq_true rfl) rfl (e_X2_diskWith (by omega) q5) ?_
      have J := Option.some.inj H
      cases J

def tb_X8_parityDisk : List pm_I := [(0, .aload_n 0, 0, 0), (1, .getfield 20, 13, 0), (4, .ifnull 17, 21, 0), (7, .aload_n 0, 0, 0), (8, .getfield 20, 13, 0), (11, .getfield 79, 98, 0), (14, .iload_n 1, 0, 0), (15, .invokevirtual 124, 159, 0), (18, .ifCond .ne 13, 31, 0), (31, .aload_n 0, 0, 0), (32, .getfield 20, 13, 0), (35, .getfield 79, 98, 0), (38, .iload_n 1, 0, 0), (39, .invokevirtual 129, 160, 0), (42, .ireturn, 0, 0)]
theorem tk_X8_parityDisk : ∀ e ∈ tb_X8_parityDisk, pm_ck 107 e = true := List.all_eq_true.mp (by decide +kernel)

def f_X8_parityDisk_N (s0 : cs_S) (a0 : Int32) : Option ((Int32 ⊕ Nat)) :=
  some (.inr 2)
set_option maxRecDepth 20000 in
set_option maxHeartbeats 20000000 in
theorem e_X8_parityDisk_N_t2 {d : Nat} (hd : 6 ≤ d) {g1 g2 g3 g4 g5 g6 g7 g8 g9 : List pm_E} {v1 v3 : Value} {q : Nat × Nat × Nat} {s0 : cs_S} {a0 : Int32} (H : f_X8_parityDisk_N s0 a0 = some (.inr 2)) : pm_Mt 107 d [.ref 0, .int a0] (cl_h (ct_x v1 (.null) v3 s0) g1 g2 g3 g4 g5 g6 g7 g8 g9 q) (.inr "java/util/NoSuchElementException") (cl_h (ct_x v1 (.null) v3 s0) g1 g2 g3 g4 g5 g6 g7 g8 g9 (q.1, q.2.1 + 1, q.2.2 + 6)) := by
  refine pm_Mt.of (by decide) (by decide +kernel) rfl rfl ?_
  obtain ⟨d, rfl⟩ : ∃ d', d = d' + 1 := ⟨d - 1, by omega⟩
  unfold f_X8_parityDisk_N at H
  have J := Option.some.inj H
  refine pm_Wg.path (k := 3) (ds := []) (f' := (21, [some (.ref 0), some (.int a0)], [], cl_h (ct_x v1 (.null) v3 s0) g1 g2 g3 g4 g5 g6 g7 g8 g9 q)) tk_X8_parityDisk (by omega) rfl trivial ?_
  exact pm_Wg.throw (ik := 112) (ic := 116) (ix := 13) (rx := px_rx13) (k := 18) rfl rfl (by omega) px_NSE rfl rfl (by decide +kernel) (by decide +kernel) (by decide +kernel) (by decide +kernel) (by decide +kernel) (Nat.le_of_ble_eq_true rfl)

def f_X8_parityDisk_E (s0 : cs_S) (s4 : cs_S) (s5 : cs_S) (a0 : Int32) : Option ((Int32 ⊕ Nat)) :=
  (match f_X2_hasStripe s4 a0 with
  | none => none
  | some r1 =>
   (if r1 = 0 then
    some (.inr 2)
   else
    (match f_X2_parityOf s4 a0 with
    | none => none
    | some r4 =>
     some (.inl r4))))
set_option maxRecDepth 20000 in
set_option maxHeartbeats 20000000 in
theorem e_X8_parityDisk_E {d : Nat} (hd : 6 ≤ d) {g1 g2 g3 g6 g7 g8 g9 : List pm_E} {v1 v3 : Value} {q : Nat × Nat × Nat} {s0 : cs_S} {s4 : cs_S} {s5 : cs_S} {a0 : Int32} {r : Int32} (H : f_X8_parityDisk_E s0 s4 s5 a0 = some (.inl r)) : pm_Mt 107 d [.ref 0, .int a0] (cl_h (ct_x v1 (.ref 320) v3 s0) g1 g2 g3 (ct_p4 s4) (ct_e5 (.ref 256) (.ref 384) s5) g6 g7 g8 g9 q) (.inl (some (.int r))) (cl_h (ct_x v1 (.ref 320) v3 s0) g1 g2 g3 (ct_p4 s4) (ct_e5 (.ref 256) (.ref 384) s5) g6 g7 g8 g9 q) := by
  refine pm_Mt.of (by decide) (by decide +kernel) rfl rfl ?_
  obtain ⟨d, rfl⟩ : ∃ d', d = d' + 1 := ⟨d - 1, by omega⟩
  unfold f_X8_parityDisk_E at H
  cases q2 : f_X2_hasStripe s4 a0 with
  | none => rw [q2] at H; cases H
  | some r1 =>
   rw [q2] at H
   dsimp only at H
   refine pm_Wg.path (k := 7) (ds := []) (f' := (15, [some (.ref 0), some (.int a0)], [.int a0, .ref 256], cl_h (ct_x v1 (.ref 320) v3 s0) g1 g2 g3 (ct_p4 s4) (ct_e5 (.ref 256) (.ref 384) s5) g6 g7 g8 g9 q)) tk_X8_parityDisk (by omega) rfl trivial ?_
   refine pm_Wg.callV (m' := 35) (ix := 124) (rr := 159) (pl := 1180) (b := 256) (As := [.int a0]) (S := []) (by decide) rfl (pm_dec tk_X8_parityDisk rfl) rfl rfl (by decide) rfl rfl (by decide) (Nat.le_of_ble_eq_true rfl) rfl (e_X2_hasStripe (by omega) q2) ?_
   by_cases h3 : r1 = 0
   · rw [if_pos h3] at H
     have J := Option.some.inj H
     cases J
   · rw [if_neg h3] at H
     cases q5 : f_X2_parityOf s4 a0 with
     | none => rw [q5] at H; cases H
     | some r4 =>
      rw [q5] at H
      dsimp only at H
      refine pm_Wg.path (k := 5) (ds := [1]) (f' := (39, [some (.ref 0), some (.int a0)], [.int a0, .ref 256], cl_h (ct_x v1 (.ref 320) v3 s0) g1 g2 g3 (ct_p4 s4) (ct_e5 (.ref 256) (.ref 384) s5) g6 g7 g8 g9 q)) tk_X8_parityDisk (by omega) rfl ⟨h3, trivial⟩ ?_
      refine pm_Wg.callV (m' := 40) (ix := 129) (rr := 160) (pl := 1185) (b := 256) (As := [.int a0]) (S := []) (by decide) rfl (pm_dec tk_X8_parityDisk rfl) rfl rfl (by decide) rfl rfl (by decide) (Nat.le_of_ble_eq_true rfl) rfl (e_X2_parityOf (by omega) q5) ?_
      have J := Option.some.inj H
      injection J with JR
      subst JR
      exact pm_Wg.iret (pm_dec tk_X8_parityDisk rfl) rfl rfl
set_option maxRecDepth 20000 in
set_option maxHeartbeats 20000000 in
theorem e_X8_parityDisk_E_t2 {d : Nat} (hd : 6 ≤ d) {g1 g2 g3 g6 g7 g8 g9 : List pm_E} {v1 v3 : Value} {q : Nat × Nat × Nat} {s0 : cs_S} {s4 : cs_S} {s5 : cs_S} {a0 : Int32} (H : f_X8_parityDisk_E s0 s4 s5 a0 = some (.inr 2)) : pm_Mt 107 d [.ref 0, .int a0] (cl_h (ct_x v1 (.ref 320) v3 s0) g1 g2 g3 (ct_p4 s4) (ct_e5 (.ref 256) (.ref 384) s5) g6 g7 g8 g9 q) (.inr "java/util/NoSuchElementException") (cl_h (ct_x v1 (.ref 320) v3 s0) g1 g2 g3 (ct_p4 s4) (ct_e5 (.ref 256) (.ref 384) s5) g6 g7 g8 g9 (q.1, q.2.1 + 1, q.2.2 + 6)) := by
  refine pm_Mt.of (by decide) (by decide +kernel) rfl rfl ?_
  obtain ⟨d, rfl⟩ : ∃ d', d = d' + 1 := ⟨d - 1, by omega⟩
  unfold f_X8_parityDisk_E at H
  cases q2 : f_X2_hasStripe s4 a0 with
  | none => rw [q2] at H; cases H
  | some r1 =>
   rw [q2] at H
   dsimp only at H
   refine pm_Wg.path (k := 7) (ds := []) (f' := (15, [some (.ref 0), some (.int a0)], [.int a0, .ref 256], cl_h (ct_x v1 (.ref 320) v3 s0) g1 g2 g3 (ct_p4 s4) (ct_e5 (.ref 256) (.ref 384) s5) g6 g7 g8 g9 q)) tk_X8_parityDisk (by omega) rfl trivial ?_
   refine pm_Wg.callV (m' := 35) (ix := 124) (rr := 159) (pl := 1180) (b := 256) (As := [.int a0]) (S := []) (by decide) rfl (pm_dec tk_X8_parityDisk rfl) rfl rfl (by decide) rfl rfl (by decide) (Nat.le_of_ble_eq_true rfl) rfl (e_X2_hasStripe (by omega) q2) ?_
   by_cases h3 : r1 = 0
   · rw [if_pos h3] at H
     have J := Option.some.inj H
     refine pm_Wg.path (k := 1) (ds := [0]) (f' := (21, [some (.ref 0), some (.int a0)], [], cl_h (ct_x v1 (.ref 320) v3 s0) g1 g2 g3 (ct_p4 s4) (ct_e5 (.ref 256) (.ref 384) s5) g6 g7 g8 g9 q)) tk_X8_parityDisk (by omega) rfl ⟨h3, trivial⟩ ?_
     exact pm_Wg.throw (ik := 112) (ic := 116) (ix := 13) (rx := px_rx13) (k := 18) rfl rfl (by omega) px_NSE rfl rfl (by decide +kernel) (by decide +kernel) (by decide +kernel) (by decide +kernel) (by decide +kernel) (Nat.le_of_ble_eq_true rfl)
   · rw [if_neg h3] at H
     cases q5 : f_X2_parityOf s4 a0 with
     | none => rw [q5] at H; cases H
     | some r4 =>
      rw [q5] at H
      dsimp only at H
      refine pm_Wg.path (k := 5) (ds := [1]) (f' := (39, [some (.ref 0), some (.int a0)], [.int a0, .ref 256], cl_h (ct_x v1 (.ref 320) v3 s0) g1 g2 g3 (ct_p4 s4) (ct_e5 (.ref 256) (.ref 384) s5) g6 g7 g8 g9 q)) tk_X8_parityDisk (by omega) rfl ⟨h3, trivial⟩ ?_
      refine pm_Wg.callV (m' := 40) (ix := 129) (rr := 160) (pl := 1185) (b := 256) (As := [.int a0]) (S := []) (by decide) rfl (pm_dec tk_X8_parityDisk rfl) rfl rfl (by decide) rfl rfl (by decide) (Nat.le_of_ble_eq_true rfl) rfl (e_X2_parityOf (by omega) q5) ?_
      have J := Option.some.inj H
      cases J

def tb_X8_share : List pm_I := [(0, .aload_n 0, 0, 0), (1, .getfield 20, 13, 0), (4, .ifnull 18, 22, 0), (7, .aload_n 0, 0, 0), (8, .getfield 20, 13, 0), (11, .getfield 79, 98, 0), (14, .iload_n 1, 0, 0), (15, .iconst 0, 2, 0), (16, .invokevirtual 132, 163, 0), (19, .ifCond .ne 13, 32, 0), (32, .iload_n 2, 0, 0), (33, .tableswitch 66 0 2 #[27, 40, 53], 0, 27), (60, .aload_n 0, 0, 0), (61, .getfield 20, 13, 0), (64, .getfield 79, 98, 0), (67, .getfield 138, 138, 0), (70, .iload_n 1, 0, 0), (71, .iaload, 0, 0), (72, .ireturn, 0, 0), (73, .aload_n 0, 0, 0), (74, .getfield 20, 13, 0), (77, .getfield 79, 98, 0), (80, .getfield 142, 142, 0), (83, .iload_n 1, 0, 0), (84, .iaload, 0, 0), (85, .ireturn, 0, 0), (86, .aload_n 0, 0, 0), (87, .getfield 20, 13, 0), (90, .getfield 79, 98, 0), (93, .getfield 145, 145, 0), (96, .iload_n 1, 0, 0), (97, .iaload, 0, 0), (98, .ireturn, 0, 0)]
theorem tk_X8_share : ∀ e ∈ tb_X8_share, pm_ck 108 e = true := List.all_eq_true.mp (by decide +kernel)

def f_X8_share_N (s0 : cs_S) (a0 : Int32) (a1 : Int32) : Option ((Int32 ⊕ Nat)) :=
  some (.inr 2)
set_option maxRecDepth 20000 in
set_option maxHeartbeats 20000000 in
theorem e_X8_share_N_t2 {d : Nat} (hd : 6 ≤ d) {g1 g2 g3 g4 g5 g6 g7 g8 g9 : List pm_E} {v1 v3 : Value} {q : Nat × Nat × Nat} {s0 : cs_S} {a0 : Int32} {a1 : Int32} (H : f_X8_share_N s0 a0 a1 = some (.inr 2)) : pm_Mt 108 d [.ref 0, .int a0, .int a1] (cl_h (ct_x v1 (.null) v3 s0) g1 g2 g3 g4 g5 g6 g7 g8 g9 q) (.inr "java/util/NoSuchElementException") (cl_h (ct_x v1 (.null) v3 s0) g1 g2 g3 g4 g5 g6 g7 g8 g9 (q.1, q.2.1 + 1, q.2.2 + 6)) := by
  refine pm_Mt.of (by decide) (by decide +kernel) rfl rfl ?_
  obtain ⟨d, rfl⟩ : ∃ d', d = d' + 1 := ⟨d - 1, by omega⟩
  unfold f_X8_share_N at H
  have J := Option.some.inj H
  refine pm_Wg.path (k := 3) (ds := []) (f' := (22, [some (.ref 0), some (.int a0), some (.int a1)], [], cl_h (ct_x v1 (.null) v3 s0) g1 g2 g3 g4 g5 g6 g7 g8 g9 q)) tk_X8_share (by omega) rfl trivial ?_
  exact pm_Wg.throw (ik := 112) (ic := 116) (ix := 13) (rx := px_rx13) (k := 19) rfl rfl (by omega) px_NSE rfl rfl (by decide +kernel) (by decide +kernel) (by decide +kernel) (by decide +kernel) (by decide +kernel) (Nat.le_of_ble_eq_true rfl)

def f_X8_share_E (s0 : cs_S) (s4 : cs_S) (s5 : cs_S) (a0 : Int32) (a1 : Int32) : Option ((Int32 ⊕ Nat)) :=
  (match f_X2_hasTenant s4 a0 0 with
  | none => none
  | some r1 =>
   (if r1 = 0 then
    some (.inr 2)
   else
    (if a1 = 0 then
     (match pm_inb a0 6 with
     | false => none
     | true =>
     some (.inl (s4.2.1 1 (Int32.toNatClampNeg a0))))
    else
    (if a1 = 1 then
     (match pm_inb a0 6 with
     | false => none
     | true =>
     some (.inl (s4.2.1 2 (Int32.toNatClampNeg a0))))
    else
    (if a1 = 2 then
     (match pm_inb a0 6 with
     | false => none
     | true =>
     some (.inl (s4.2.1 3 (Int32.toNatClampNeg a0))))
    else
     some (.inr 1))))))
set_option maxRecDepth 20000 in
set_option maxHeartbeats 20000000 in
theorem e_X8_share_E {d : Nat} (hd : 6 ≤ d) {g1 g2 g3 g6 g7 g8 g9 : List pm_E} {v1 v3 : Value} {q : Nat × Nat × Nat} {s0 : cs_S} {s4 : cs_S} {s5 : cs_S} {a0 : Int32} {a1 : Int32} {r : Int32} (H : f_X8_share_E s0 s4 s5 a0 a1 = some (.inl r)) : pm_Mt 108 d [.ref 0, .int a0, .int a1] (cl_h (ct_x v1 (.ref 320) v3 s0) g1 g2 g3 (ct_p4 s4) (ct_e5 (.ref 256) (.ref 384) s5) g6 g7 g8 g9 q) (.inl (some (.int r))) (cl_h (ct_x v1 (.ref 320) v3 s0) g1 g2 g3 (ct_p4 s4) (ct_e5 (.ref 256) (.ref 384) s5) g6 g7 g8 g9 q) := by
  refine pm_Mt.of (by decide) (by decide +kernel) rfl rfl ?_
  obtain ⟨d, rfl⟩ : ∃ d', d = d' + 1 := ⟨d - 1, by omega⟩
  unfold f_X8_share_E at H
  cases q2 : f_X2_hasTenant s4 a0 0 with
  | none => rw [q2] at H; cases H
  | some r1 =>
   rw [q2] at H
   dsimp only at H
   refine pm_Wg.path (k := 8) (ds := []) (f' := (16, [some (.ref 0), some (.int a0), some (.int a1)], [.int 0, .int a0, .ref 256], cl_h (ct_x v1 (.ref 320) v3 s0) g1 g2 g3 (ct_p4 s4) (ct_e5 (.ref 256) (.ref 384) s5) g6 g7 g8 g9 q)) tk_X8_share (by omega) rfl trivial ?_
   refine pm_Wg.callV (m' := 33) (ix := 132) (rr := 163) (pl := 1193) (b := 256) (As := [.int a0, .int 0]) (S := []) (by decide) rfl (pm_dec tk_X8_share rfl) rfl rfl (by decide) rfl rfl (by decide) (Nat.le_of_ble_eq_true rfl) rfl (e_X2_hasTenant (by omega) q2) ?_
   by_cases h3 : r1 = 0
   · rw [if_pos h3] at H
     have J := Option.some.inj H
     cases J
   · rw [if_neg h3] at H
     by_cases h4 : a1 = 0
     · rw [if_pos h4] at H
       cases b5 : pm_inb a0 6 with
       | false => rw [b5] at H; cases H
       | true =>
        rw [b5] at H
        dsimp only at H
        have J := Option.some.inj H
        injection J with JR
        subst JR
        refine pm_Wg.path (k := 9) (ds := [1, 0]) (f' := (72, [some (.ref 0), some (.int a0), some (.int a1)], [.int (s4.2.1 1 (Int32.toNatClampNeg a0))], cl_h (ct_x v1 (.ref 320) v3 s0) g1 g2 g3 (ct_p4 s4) (ct_e5 (.ref 256) (.ref 384) s5) g6 g7 g8 g9 q)) tk_X8_share (by omega) rfl ⟨pm_inb_vp b5, (pm_sw0 h4), h3, trivial⟩ ?_
        exact pm_Wg.iret (pm_dec tk_X8_share rfl) rfl rfl
     rw [if_neg h4] at H
     by_cases h6 : a1 = 1
     · rw [if_pos h6] at H
       cases b7 : pm_inb a0 6 with
       | false => rw [b7] at H; cases H
       | true =>
        rw [b7] at H
        dsimp only at H
        have J := Option.some.inj H
        injection J with JR
        subst JR
        refine pm_Wg.path (k := 9) (ds := [1, 1]) (f' := (85, [some (.ref 0), some (.int a0), some (.int a1)], [.int (s4.2.1 2 (Int32.toNatClampNeg a0))], cl_h (ct_x v1 (.ref 320) v3 s0) g1 g2 g3 (ct_p4 s4) (ct_e5 (.ref 256) (.ref 384) s5) g6 g7 g8 g9 q)) tk_X8_share (by omega) rfl ⟨pm_inb_vp b7, (pm_sw1 h6), h3, trivial⟩ ?_
        exact pm_Wg.iret (pm_dec tk_X8_share rfl) rfl rfl
     rw [if_neg h6] at H
     by_cases h8 : a1 = 2
     · rw [if_pos h8] at H
       cases b9 : pm_inb a0 6 with
       | false => rw [b9] at H; cases H
       | true =>
        rw [b9] at H
        dsimp only at H
        have J := Option.some.inj H
        injection J with JR
        subst JR
        refine pm_Wg.path (k := 9) (ds := [1, 2]) (f' := (98, [some (.ref 0), some (.int a0), some (.int a1)], [.int (s4.2.1 3 (Int32.toNatClampNeg a0))], cl_h (ct_x v1 (.ref 320) v3 s0) g1 g2 g3 (ct_p4 s4) (ct_e5 (.ref 256) (.ref 384) s5) g6 g7 g8 g9 q)) tk_X8_share (by omega) rfl ⟨pm_inb_vp b9, (pm_sw2 h8), h3, trivial⟩ ?_
        exact pm_Wg.iret (pm_dec tk_X8_share rfl) rfl rfl
     rw [if_neg h8] at H
     have J := Option.some.inj H
     cases J
set_option maxRecDepth 20000 in
set_option maxHeartbeats 20000000 in
theorem e_X8_share_E_t1 {d : Nat} (hd : 6 ≤ d) {g1 g2 g3 g6 g7 g8 g9 : List pm_E} {v1 v3 : Value} {q : Nat × Nat × Nat} {s0 : cs_S} {s4 : cs_S} {s5 : cs_S} {a0 : Int32} {a1 : Int32} (H : f_X8_share_E s0 s4 s5 a0 a1 = some (.inr 1)) : pm_Mt 108 d [.ref 0, .int a0, .int a1] (cl_h (ct_x v1 (.ref 320) v3 s0) g1 g2 g3 (ct_p4 s4) (ct_e5 (.ref 256) (.ref 384) s5) g6 g7 g8 g9 q) (.inr "java/lang/IllegalArgumentException") (cl_h (ct_x v1 (.ref 320) v3 s0) g1 g2 g3 (ct_p4 s4) (ct_e5 (.ref 256) (.ref 384) s5) g6 g7 g8 g9 (q.1, q.2.1 + 1, q.2.2 + 6)) := by
  refine pm_Mt.of (by decide) (by decide +kernel) rfl rfl ?_
  obtain ⟨d, rfl⟩ : ∃ d', d = d' + 1 := ⟨d - 1, by omega⟩
  unfold f_X8_share_E at H
  cases q2 : f_X2_hasTenant s4 a0 0 with
  | none => rw [q2] at H; cases H
  | some r1 =>
   rw [q2] at H
   dsimp only at H
   refine pm_Wg.path (k := 8) (ds := []) (f' := (16, [some (.ref 0), some (.int a0), some (.int a1)], [.int 0, .int a0, .ref 256], cl_h (ct_x v1 (.ref 320) v3 s0) g1 g2 g3 (ct_p4 s4) (ct_e5 (.ref 256) (.ref 384) s5) g6 g7 g8 g9 q)) tk_X8_share (by omega) rfl trivial ?_
   refine pm_Wg.callV (m' := 33) (ix := 132) (rr := 163) (pl := 1193) (b := 256) (As := [.int a0, .int 0]) (S := []) (by decide) rfl (pm_dec tk_X8_share rfl) rfl rfl (by decide) rfl rfl (by decide) (Nat.le_of_ble_eq_true rfl) rfl (e_X2_hasTenant (by omega) q2) ?_
   by_cases h3 : r1 = 0
   · rw [if_pos h3] at H
     have J := Option.some.inj H
     cases J
   · rw [if_neg h3] at H
     by_cases h4 : a1 = 0
     · rw [if_pos h4] at H
       cases b5 : pm_inb a0 6 with
       | false => rw [b5] at H; cases H
       | true =>
        rw [b5] at H
        dsimp only at H
        have J := Option.some.inj H
        cases J
     rw [if_neg h4] at H
     by_cases h6 : a1 = 1
     · rw [if_pos h6] at H
       cases b7 : pm_inb a0 6 with
       | false => rw [b7] at H; cases H
       | true =>
        rw [b7] at H
        dsimp only at H
        have J := Option.some.inj H
        cases J
     rw [if_neg h6] at H
     by_cases h8 : a1 = 2
     · rw [if_pos h8] at H
       cases b9 : pm_inb a0 6 with
       | false => rw [b9] at H; cases H
       | true =>
        rw [b9] at H
        dsimp only at H
        have J := Option.some.inj H
        cases J
     rw [if_neg h8] at H
     have J := Option.some.inj H
     refine pm_Wg.path (k := 3) (ds := [1, 9]) (f' := (99, [some (.ref 0), some (.int a0), some (.int a1)], [], cl_h (ct_x v1 (.ref 320) v3 s0) g1 g2 g3 (ct_p4 s4) (ct_e5 (.ref 256) (.ref 384) s5) g6 g7 g8 g9 q)) tk_X8_share (by omega) rfl ⟨(pm_swd h4 h6 h8), h3, trivial⟩ ?_
     exact pm_Wg.throw (ik := 42) (ic := 46) (ix := 7) (rx := Bundle.six) (k := 20) rfl rfl (by omega) px_IAE rfl rfl (by decide +kernel) (by decide +kernel) (by decide +kernel) (by decide +kernel) (by decide +kernel) (Nat.le_of_ble_eq_true rfl)
set_option maxRecDepth 20000 in
set_option maxHeartbeats 20000000 in
theorem e_X8_share_E_t2 {d : Nat} (hd : 6 ≤ d) {g1 g2 g3 g6 g7 g8 g9 : List pm_E} {v1 v3 : Value} {q : Nat × Nat × Nat} {s0 : cs_S} {s4 : cs_S} {s5 : cs_S} {a0 : Int32} {a1 : Int32} (H : f_X8_share_E s0 s4 s5 a0 a1 = some (.inr 2)) : pm_Mt 108 d [.ref 0, .int a0, .int a1] (cl_h (ct_x v1 (.ref 320) v3 s0) g1 g2 g3 (ct_p4 s4) (ct_e5 (.ref 256) (.ref 384) s5) g6 g7 g8 g9 q) (.inr "java/util/NoSuchElementException") (cl_h (ct_x v1 (.ref 320) v3 s0) g1 g2 g3 (ct_p4 s4) (ct_e5 (.ref 256) (.ref 384) s5) g6 g7 g8 g9 (q.1, q.2.1 + 1, q.2.2 + 6)) := by
  refine pm_Mt.of (by decide) (by decide +kernel) rfl rfl ?_
  obtain ⟨d, rfl⟩ : ∃ d', d = d' + 1 := ⟨d - 1, by omega⟩
  unfold f_X8_share_E at H
  cases q2 : f_X2_hasTenant s4 a0 0 with
  | none => rw [q2] at H; cases H
  | some r1 =>
   rw [q2] at H
   dsimp only at H
   refine pm_Wg.path (k := 8) (ds := []) (f' := (16, [some (.ref 0), some (.int a0), some (.int a1)], [.int 0, .int a0, .ref 256], cl_h (ct_x v1 (.ref 320) v3 s0) g1 g2 g3 (ct_p4 s4) (ct_e5 (.ref 256) (.ref 384) s5) g6 g7 g8 g9 q)) tk_X8_share (by omega) rfl trivial ?_
   refine pm_Wg.callV (m' := 33) (ix := 132) (rr := 163) (pl := 1193) (b := 256) (As := [.int a0, .int 0]) (S := []) (by decide) rfl (pm_dec tk_X8_share rfl) rfl rfl (by decide) rfl rfl (by decide) (Nat.le_of_ble_eq_true rfl) rfl (e_X2_hasTenant (by omega) q2) ?_
   by_cases h3 : r1 = 0
   · rw [if_pos h3] at H
     have J := Option.some.inj H
     refine pm_Wg.path (k := 1) (ds := [0]) (f' := (22, [some (.ref 0), some (.int a0), some (.int a1)], [], cl_h (ct_x v1 (.ref 320) v3 s0) g1 g2 g3 (ct_p4 s4) (ct_e5 (.ref 256) (.ref 384) s5) g6 g7 g8 g9 q)) tk_X8_share (by omega) rfl ⟨h3, trivial⟩ ?_
     exact pm_Wg.throw (ik := 112) (ic := 116) (ix := 13) (rx := px_rx13) (k := 19) rfl rfl (by omega) px_NSE rfl rfl (by decide +kernel) (by decide +kernel) (by decide +kernel) (by decide +kernel) (by decide +kernel) (Nat.le_of_ble_eq_true rfl)
   · rw [if_neg h3] at H
     by_cases h4 : a1 = 0
     · rw [if_pos h4] at H
       cases b5 : pm_inb a0 6 with
       | false => rw [b5] at H; cases H
       | true =>
        rw [b5] at H
        dsimp only at H
        have J := Option.some.inj H
        cases J
     rw [if_neg h4] at H
     by_cases h6 : a1 = 1
     · rw [if_pos h6] at H
       cases b7 : pm_inb a0 6 with
       | false => rw [b7] at H; cases H
       | true =>
        rw [b7] at H
        dsimp only at H
        have J := Option.some.inj H
        cases J
     rw [if_neg h6] at H
     by_cases h8 : a1 = 2
     · rw [if_pos h8] at H
       cases b9 : pm_inb a0 6 with
       | false => rw [b9] at H; cases H
       | true =>
        rw [b9] at H
        dsimp only at H
        have J := Option.some.inj H
        cases J
     rw [if_neg h8] at H
     have J := Option.some.inj H
     cases J

def tb_X8_submit : List pm_I := [(0, .aload_n 0, 0, 0), (1, .getfield 20, 13, 0), (4, .ifnull 32, 36, 0), (7, .aload_n 0, 0, 0), (8, .getfield 20, 13, 0), (11, .getfield 79, 98, 0), (14, .iload_n 1, 0, 0), (15, .iconst 1, 3, 0), (16, .invokevirtual 132, 163, 0), (19, .ifCond .eq 17, 36, 0), (22, .aload_n 0, 0, 0), (23, .getfield 20, 13, 0), (26, .getfield 79, 98, 0), (29, .iload_n 2, 0, 0), (30, .invokevirtual 108, 151, 0), (33, .ifCond .ne 13, 46, 0), (46, .iload 4, 0, 0), (48, .iconst (-1), 1, 0), (49, .if_icmp .eq 32, 81, 0), (52, .iload 4, 0, 0), (54, .aload_n 0, 0, 0), (55, .getfield 20, 13, 0), (58, .getfield 83, 106, 0), (61, .if_icmp .lt 10, 71, 0), (64, .iload 4, 0, 0), (66, .ldc 152, 0, 0), (68, .if_icmp .le 13, 81, 0), (81, .aload_n 0, 0, 0), (82, .getfield 20, 13, 0), (85, .getfield 155, 112, 0), (88, .getfield 159, 47, 0), (91, .sipush 400, 33, 0), (94, .if_icmp .lt 13, 107, 0), (107, .aload_n 0, 0, 0), (108, .getfield 20, 13, 0), (111, .iload_n 1, 0, 0), (112, .iload_n 2, 0, 0), (113, .iload_n 3, 0, 0), (114, .iload 4, 0, 0), (116, .invokevirtual 164, 166, 0), (119, .ireturn, 0, 0)]
theorem tk_X8_submit : ∀ e ∈ tb_X8_submit, pm_ck 109 e = true := List.all_eq_true.mp (by decide +kernel)

def f_X8_submit_N (s0 : cs_S) (a0 : Int32) (a1 : Int32) (a2 : Int32) (a3 : Int32) : Option ((Int32 ⊕ Nat)) :=
  some (.inr 2)
set_option maxRecDepth 20000 in
set_option maxHeartbeats 20000000 in
theorem e_X8_submit_N_t2 {d : Nat} (hd : 6 ≤ d) {g1 g2 g3 g4 g5 g6 g7 g8 g9 : List pm_E} {v1 v3 : Value} {q : Nat × Nat × Nat} {s0 : cs_S} {a0 : Int32} {a1 : Int32} {a2 : Int32} {a3 : Int32} (H : f_X8_submit_N s0 a0 a1 a2 a3 = some (.inr 2)) : pm_Mt 109 d [.ref 0, .int a0, .int a1, .int a2, .int a3] (cl_h (ct_x v1 (.null) v3 s0) g1 g2 g3 g4 g5 g6 g7 g8 g9 q) (.inr "java/util/NoSuchElementException") (cl_h (ct_x v1 (.null) v3 s0) g1 g2 g3 g4 g5 g6 g7 g8 g9 (q.1, q.2.1 + 1, q.2.2 + 6)) := by
  refine pm_Mt.of (by decide) (by decide +kernel) rfl rfl ?_
  obtain ⟨d, rfl⟩ : ∃ d', d = d' + 1 := ⟨d - 1, by omega⟩
  unfold f_X8_submit_N at H
  have J := Option.some.inj H
  refine pm_Wg.path (k := 3) (ds := []) (f' := (36, [some (.ref 0), some (.int a0), some (.int a1), some (.int a2), some (.int a3)], [], cl_h (ct_x v1 (.null) v3 s0) g1 g2 g3 g4 g5 g6 g7 g8 g9 q)) tk_X8_submit (by omega) rfl trivial ?_
  exact pm_Wg.throw (ik := 112) (ic := 116) (ix := 13) (rx := px_rx13) (k := 21) rfl rfl (by omega) px_NSE rfl rfl (by decide +kernel) (by decide +kernel) (by decide +kernel) (by decide +kernel) (by decide +kernel) (Nat.le_of_ble_eq_true rfl)

def f_X8_submit_E (s0 : cs_S) (s4 : cs_S) (s5 : cs_S) (a0 : Int32) (a1 : Int32) (a2 : Int32) (a3 : Int32) : Option ((Int32 ⊕ Nat) × cs_S) :=
  (match f_X2_hasTenant s4 a0 1 with
  | none => none
  | some r1 =>
   (if r1 = 0 then
    some (.inr 2, s5)
   else
    (match f_X2_hasUnit s4 a1 with
    | none => none
    | some r4 =>
     (if r4 = 0 then
      some (.inr 2, s5)
     else
      (if a3 = (-1) then
       (if (s5.1 19 0) < 400 then
        (match f_X1_accept s4 s5 a0 a1 a2 a3 with
        | none => none
        | some (r12, s5_13) =>
         some (.inl r12, s5_13))
       else
        some (.inr 0, s5))
      else
       (if a3 < (s5.1 0 4) then
        some (.inr 1, s5)
       else
        (if a3 ≤ 99999 then
         (if (s5.1 19 0) < 400 then
          (match f_X1_accept s4 s5 a0 a1 a2 a3 with
          | none => none
          | some (r15, s5_16) =>
           some (.inl r15, s5_16))
         else
          some (.inr 0, s5))
        else
         some (.inr 1, s5))))))))
set_option maxRecDepth 20000 in
set_option maxHeartbeats 20000000 in
theorem e_X8_submit_E {d : Nat} (hd : 6 ≤ d) {g1 g2 g3 g6 g7 g8 g9 : List pm_E} {v1 v3 : Value} {q : Nat × Nat × Nat} {s0 : cs_S} {s4 : cs_S} {s5 : cs_S} {a0 : Int32} {a1 : Int32} {a2 : Int32} {a3 : Int32} {r : Int32} {z5 : cs_S} (H : f_X8_submit_E s0 s4 s5 a0 a1 a2 a3 = some (.inl r, z5)) : pm_Mt 109 d [.ref 0, .int a0, .int a1, .int a2, .int a3] (cl_h (ct_x v1 (.ref 320) v3 s0) g1 g2 g3 (ct_p4 s4) (ct_e5 (.ref 256) (.ref 384) s5) g6 g7 g8 g9 q) (.inl (some (.int r))) (cl_h (ct_x v1 (.ref 320) v3 s0) g1 g2 g3 (ct_p4 s4) (ct_e5 (.ref 256) (.ref 384) z5) g6 g7 g8 g9 q) := by
  refine pm_Mt.of (by decide) (by decide +kernel) rfl rfl ?_
  obtain ⟨d, rfl⟩ : ∃ d', d = d' + 1 := ⟨d - 1, by omega⟩
  unfold f_X8_submit_E at H
  cases q2 : f_X2_hasTenant s4 a0 1 with
  | none => rw [q2] at H; cases H
  | some r1 =>
   rw [q2] at H
   dsimp only at H
   refine pm_Wg.path (k := 8) (ds := []) (f' := (16, [some (.ref 0), some (.int a0), some (.int a1), some (.int a2), some (.int a3)], [.int 1, .int a0, .ref 256], cl_h (ct_x v1 (.ref 320) v3 s0) g1 g2 g3 (ct_p4 s4) (ct_e5 (.ref 256) (.ref 384) s5) g6 g7 g8 g9 q)) tk_X8_submit (by omega) rfl trivial ?_
   refine pm_Wg.callV (m' := 33) (ix := 132) (rr := 163) (pl := 1193) (b := 256) (As := [.int a0, .int 1]) (S := []) (by decide) rfl (pm_dec tk_X8_submit rfl) rfl rfl (by decide) rfl rfl (by decide) (Nat.le_of_ble_eq_true rfl) rfl (e_X2_hasTenant (by omega) q2) ?_
   by_cases h3 : r1 = 0
   · rw [if_pos h3] at H
     have J := Option.some.inj H
     injection J with J0a J0z
     cases J0a
   · rw [if_neg h3] at H
     cases q5 : f_X2_hasUnit s4 a1 with
     | none => rw [q5] at H; cases H
     | some r4 =>
      rw [q5] at H
      dsimp only at H
      refine pm_Wg.path (k := 5) (ds := [0]) (f' := (30, [some (.ref 0), some (.int a0), some (.int a1), some (.int a2), some (.int a3)], [.int a1, .ref 256], cl_h (ct_x v1 (.ref 320) v3 s0) g1 g2 g3 (ct_p4 s4) (ct_e5 (.ref 256) (.ref 384) s5) g6 g7 g8 g9 q)) tk_X8_submit (by omega) rfl ⟨h3, trivial⟩ ?_
      refine pm_Wg.callV (m' := 37) (ix := 108) (rr := 151) (pl := 1143) (b := 256) (As := [.int a1]) (S := []) (by decide) rfl (pm_dec tk_X8_submit rfl) rfl rfl (by decide) rfl rfl (by decide) (Nat.le_of_ble_eq_true rfl) rfl (e_X2_hasUnit (by omega) q5) ?_
      by_cases h6 : r4 = 0
      · rw [if_pos h6] at H
        have J := Option.some.inj H
        injection J with J0a J0z
        cases J0a
      · rw [if_neg h6] at H
        by_cases h7 : a3 = (-1)
        · rw [if_pos h7] at H
          by_cases h8 : (s5.1 19 0) < 400
          · rw [if_pos h8] at H
            cases q14 : f_X1_accept s4 s5 a0 a1 a2 a3 with
            | none => rw [q14] at H; cases H
            | some w =>
             obtain ⟨r12, s5_13⟩ := w
             rw [q14] at H
             dsimp only at H
             refine pm_Wg.path (k := 16) (ds := [1, 1, 1]) (f' := (116, [some (.ref 0), some (.int a0), some (.int a1), some (.int a2), some (.int a3)], [.int a3, .int a2, .int a1, .int a0, .ref 320], cl_h (ct_x v1 (.ref 320) v3 s0) g1 g2 g3 (ct_p4 s4) (ct_e5 (.ref 256) (.ref 384) s5) g6 g7 g8 g9 q)) tk_X8_submit (by omega) rfl ⟨h8, h7, h6, trivial⟩ ?_
             refine pm_Wg.callV (m' := 9) (ix := 164) (rr := 166) (pl := 1209) (b := 320) (As := [.int a0, .int a1, .int a2, .int a3]) (S := []) (by decide) rfl (pm_dec tk_X8_submit rfl) rfl rfl (by decide) rfl rfl (by decide) (Nat.le_of_ble_eq_true rfl) rfl (e_X1_accept (by omega) q14) ?_
             have J := Option.some.inj H
             injection J with J0a J0z
             injection J0a with JR
             subst JR
             subst J0z
             exact pm_Wg.iret (pm_dec tk_X8_submit rfl) rfl rfl
          · rw [if_neg h8] at H
            have J := Option.some.inj H
            injection J with J0a J0z
            cases J0a
        · rw [if_neg h7] at H
          by_cases h9 : a3 < (s5.1 0 4)
          · rw [if_pos h9] at H
            have J := Option.some.inj H
            injection J with J0a J0z
            cases J0a
          · rw [if_neg h9] at H
            by_cases h10 : a3 ≤ 99999
            · rw [if_pos h10] at H
              by_cases h11 : (s5.1 19 0) < 400
              · rw [if_pos h11] at H
                cases q17 : f_X1_accept s4 s5 a0 a1 a2 a3 with
                | none => rw [q17] at H; cases H
                | some w =>
                 obtain ⟨r15, s5_16⟩ := w
                 rw [q17] at H
                 dsimp only at H
                 refine pm_Wg.path (k := 24) (ds := [1, 0, 0, 1, 1]) (f' := (116, [some (.ref 0), some (.int a0), some (.int a1), some (.int a2), some (.int a3)], [.int a3, .int a2, .int a1, .int a0, .ref 320], cl_h (ct_x v1 (.ref 320) v3 s0) g1 g2 g3 (ct_p4 s4) (ct_e5 (.ref 256) (.ref 384) s5) g6 g7 g8 g9 q)) tk_X8_submit (by omega) rfl ⟨h11, h10, h9, h7, h6, trivial⟩ ?_
                 refine pm_Wg.callV (m' := 9) (ix := 164) (rr := 166) (pl := 1209) (b := 320) (As := [.int a0, .int a1, .int a2, .int a3]) (S := []) (by decide) rfl (pm_dec tk_X8_submit rfl) rfl rfl (by decide) rfl rfl (by decide) (Nat.le_of_ble_eq_true rfl) rfl (e_X1_accept (by omega) q17) ?_
                 have J := Option.some.inj H
                 injection J with J0a J0z
                 injection J0a with JR
                 subst JR
                 subst J0z
                 exact pm_Wg.iret (pm_dec tk_X8_submit rfl) rfl rfl
              · rw [if_neg h11] at H
                have J := Option.some.inj H
                injection J with J0a J0z
                cases J0a
            · rw [if_neg h10] at H
              have J := Option.some.inj H
              injection J with J0a J0z
              cases J0a
set_option maxRecDepth 20000 in
set_option maxHeartbeats 20000000 in
theorem e_X8_submit_E_t0 {d : Nat} (hd : 6 ≤ d) {g1 g2 g3 g6 g7 g8 g9 : List pm_E} {v1 v3 : Value} {q : Nat × Nat × Nat} {s0 : cs_S} {s4 : cs_S} {s5 : cs_S} {a0 : Int32} {a1 : Int32} {a2 : Int32} {a3 : Int32} {z5 : cs_S} (H : f_X8_submit_E s0 s4 s5 a0 a1 a2 a3 = some (.inr 0, z5)) : pm_Mt 109 d [.ref 0, .int a0, .int a1, .int a2, .int a3] (cl_h (ct_x v1 (.ref 320) v3 s0) g1 g2 g3 (ct_p4 s4) (ct_e5 (.ref 256) (.ref 384) s5) g6 g7 g8 g9 q) (.inr "java/lang/IllegalStateException") (cl_h (ct_x v1 (.ref 320) v3 s0) g1 g2 g3 (ct_p4 s4) (ct_e5 (.ref 256) (.ref 384) z5) g6 g7 g8 g9 (q.1, q.2.1 + 1, q.2.2 + 6)) := by
  refine pm_Mt.of (by decide) (by decide +kernel) rfl rfl ?_
  obtain ⟨d, rfl⟩ : ∃ d', d = d' + 1 := ⟨d - 1, by omega⟩
  unfold f_X8_submit_E at H
  cases q2 : f_X2_hasTenant s4 a0 1 with
  | none => rw [q2] at H; cases H
  | some r1 =>
   rw [q2] at H
   dsimp only at H
   refine pm_Wg.path (k := 8) (ds := []) (f' := (16, [some (.ref 0), some (.int a0), some (.int a1), some (.int a2), some (.int a3)], [.int 1, .int a0, .ref 256], cl_h (ct_x v1 (.ref 320) v3 s0) g1 g2 g3 (ct_p4 s4) (ct_e5 (.ref 256) (.ref 384) s5) g6 g7 g8 g9 q)) tk_X8_submit (by omega) rfl trivial ?_
   refine pm_Wg.callV (m' := 33) (ix := 132) (rr := 163) (pl := 1193) (b := 256) (As := [.int a0, .int 1]) (S := []) (by decide) rfl (pm_dec tk_X8_submit rfl) rfl rfl (by decide) rfl rfl (by decide) (Nat.le_of_ble_eq_true rfl) rfl (e_X2_hasTenant (by omega) q2) ?_
   by_cases h3 : r1 = 0
   · rw [if_pos h3] at H
     have J := Option.some.inj H
     injection J with J0a J0z
     cases J0a
   · rw [if_neg h3] at H
     cases q5 : f_X2_hasUnit s4 a1 with
     | none => rw [q5] at H; cases H
     | some r4 =>
      rw [q5] at H
      dsimp only at H
      refine pm_Wg.path (k := 5) (ds := [0]) (f' := (30, [some (.ref 0), some (.int a0), some (.int a1), some (.int a2), some (.int a3)], [.int a1, .ref 256], cl_h (ct_x v1 (.ref 320) v3 s0) g1 g2 g3 (ct_p4 s4) (ct_e5 (.ref 256) (.ref 384) s5) g6 g7 g8 g9 q)) tk_X8_submit (by omega) rfl ⟨h3, trivial⟩ ?_
      refine pm_Wg.callV (m' := 37) (ix := 108) (rr := 151) (pl := 1143) (b := 256) (As := [.int a1]) (S := []) (by decide) rfl (pm_dec tk_X8_submit rfl) rfl rfl (by decide) rfl rfl (by decide) (Nat.le_of_ble_eq_true rfl) rfl (e_X2_hasUnit (by omega) q5) ?_
      by_cases h6 : r4 = 0
      · rw [if_pos h6] at H
        have J := Option.some.inj H
        injection J with J0a J0z
        cases J0a
      · rw [if_neg h6] at H
        by_cases h7 : a3 = (-1)
        · rw [if_pos h7] at H
          by_cases h8 : (s5.1 19 0) < 400
          · rw [if_pos h8] at H
            cases q14 : f_X1_accept s4 s5 a0 a1 a2 a3 with
            | none => rw [q14] at H; cases H
            | some w =>
             obtain ⟨r12, s5_13⟩ := w
             rw [q14] at H
             dsimp only at H
             refine pm_Wg.path (k := 16) (ds := [1, 1, 1]) (f' := (116, [some (.ref 0), some (.int a0), some (.int a1), some (.int a2), some (.int a3)], [.int a3, .int a2, .int a1, .int a0, .ref 320], cl_h (ct_x v1 (.ref 320) v3 s0) g1 g2 g3 (ct_p4 s4) (ct_e5 (.ref 256) (.ref 384) s5) g6 g7 g8 g9 q)) tk_X8_submit (by omega) rfl ⟨h8, h7, h6, trivial⟩ ?_
             refine pm_Wg.callV (m' := 9) (ix := 164) (rr := 166) (pl := 1209) (b := 320) (As := [.int a0, .int a1, .int a2, .int a3]) (S := []) (by decide) rfl (pm_dec tk_X8_submit rfl) rfl rfl (by decide) rfl rfl (by decide) (Nat.le_of_ble_eq_true rfl) rfl (e_X1_accept (by omega) q14) ?_
             have J := Option.some.inj H
             injection J with J0a J0z
             cases J0a
          · rw [if_neg h8] at H
            have J := Option.some.inj H
            injection J with J0a J0z
            subst J0z
            refine pm_Wg.path (k := 10) (ds := [1, 1, 0]) (f' := (97, [some (.ref 0), some (.int a0), some (.int a1), some (.int a2), some (.int a3)], [], cl_h (ct_x v1 (.ref 320) v3 s0) g1 g2 g3 (ct_p4 s4) (ct_e5 (.ref 256) (.ref 384) s5) g6 g7 g8 g9 q)) tk_X8_submit (by omega) rfl ⟨h8, h7, h6, trivial⟩ ?_
            exact pm_Wg.throw (ik := 31) (ic := 35) (ix := 7) (rx := Bundle.six) (k := 23) rfl rfl (by omega) px_ISE rfl rfl (by decide +kernel) (by decide +kernel) (by decide +kernel) (by decide +kernel) (by decide +kernel) (Nat.le_of_ble_eq_true rfl)
        · rw [if_neg h7] at H
          by_cases h9 : a3 < (s5.1 0 4)
          · rw [if_pos h9] at H
            have J := Option.some.inj H
            injection J with J0a J0z
            cases J0a
          · rw [if_neg h9] at H
            by_cases h10 : a3 ≤ 99999
            · rw [if_pos h10] at H
              by_cases h11 : (s5.1 19 0) < 400
              · rw [if_pos h11] at H
                cases q17 : f_X1_accept s4 s5 a0 a1 a2 a3 with
                | none => rw [q17] at H; cases H
                | some w =>
                 obtain ⟨r15, s5_16⟩ := w
                 rw [q17] at H
                 dsimp only at H
                 refine pm_Wg.path (k := 24) (ds := [1, 0, 0, 1, 1]) (f' := (116, [some (.ref 0), some (.int a0), some (.int a1), some (.int a2), some (.int a3)], [.int a3, .int a2, .int a1, .int a0, .ref 320], cl_h (ct_x v1 (.ref 320) v3 s0) g1 g2 g3 (ct_p4 s4) (ct_e5 (.ref 256) (.ref 384) s5) g6 g7 g8 g9 q)) tk_X8_submit (by omega) rfl ⟨h11, h10, h9, h7, h6, trivial⟩ ?_
                 refine pm_Wg.callV (m' := 9) (ix := 164) (rr := 166) (pl := 1209) (b := 320) (As := [.int a0, .int a1, .int a2, .int a3]) (S := []) (by decide) rfl (pm_dec tk_X8_submit rfl) rfl rfl (by decide) rfl rfl (by decide) (Nat.le_of_ble_eq_true rfl) rfl (e_X1_accept (by omega) q17) ?_
                 have J := Option.some.inj H
                 injection J with J0a J0z
                 cases J0a
              · rw [if_neg h11] at H
                have J := Option.some.inj H
                injection J with J0a J0z
                subst J0z
                refine pm_Wg.path (k := 18) (ds := [1, 0, 0, 1, 0]) (f' := (97, [some (.ref 0), some (.int a0), some (.int a1), some (.int a2), some (.int a3)], [], cl_h (ct_x v1 (.ref 320) v3 s0) g1 g2 g3 (ct_p4 s4) (ct_e5 (.ref 256) (.ref 384) s5) g6 g7 g8 g9 q)) tk_X8_submit (by omega) rfl ⟨h11, h10, h9, h7, h6, trivial⟩ ?_
                exact pm_Wg.throw (ik := 31) (ic := 35) (ix := 7) (rx := Bundle.six) (k := 23) rfl rfl (by omega) px_ISE rfl rfl (by decide +kernel) (by decide +kernel) (by decide +kernel) (by decide +kernel) (by decide +kernel) (Nat.le_of_ble_eq_true rfl)
            · rw [if_neg h10] at H
              have J := Option.some.inj H
              injection J with J0a J0z
              cases J0a
set_option maxRecDepth 20000 in
set_option maxHeartbeats 20000000 in
theorem e_X8_submit_E_t1 {d : Nat} (hd : 6 ≤ d) {g1 g2 g3 g6 g7 g8 g9 : List pm_E} {v1 v3 : Value} {q : Nat × Nat × Nat} {s0 : cs_S} {s4 : cs_S} {s5 : cs_S} {a0 : Int32} {a1 : Int32} {a2 : Int32} {a3 : Int32} {z5 : cs_S} (H : f_X8_submit_E s0 s4 s5 a0 a1 a2 a3 = some (.inr 1, z5)) : pm_Mt 109 d [.ref 0, .int a0, .int a1, .int a2, .int a3] (cl_h (ct_x v1 (.ref 320) v3 s0) g1 g2 g3 (ct_p4 s4) (ct_e5 (.ref 256) (.ref 384) s5) g6 g7 g8 g9 q) (.inr "java/lang/IllegalArgumentException") (cl_h (ct_x v1 (.ref 320) v3 s0) g1 g2 g3 (ct_p4 s4) (ct_e5 (.ref 256) (.ref 384) z5) g6 g7 g8 g9 (q.1, q.2.1 + 1, q.2.2 + 6)) := by
  refine pm_Mt.of (by decide) (by decide +kernel) rfl rfl ?_
  obtain ⟨d, rfl⟩ : ∃ d', d = d' + 1 := ⟨d - 1, by omega⟩
  unfold f_X8_submit_E at H
  cases q2 : f_X2_hasTenant s4 a0 1 with
  | none => rw [q2] at H; cases H
  | some r1 =>
   rw [q2] at H
   dsimp only at H
   refine pm_Wg.path (k := 8) (ds := []) (f' := (16, [some (.ref 0), some (.int a0), some (.int a1), some (.int a2), some (.int a3)], [.int 1, .int a0, .ref 256], cl_h (ct_x v1 (.ref 320) v3 s0) g1 g2 g3 (ct_p4 s4) (ct_e5 (.ref 256) (.ref 384) s5) g6 g7 g8 g9 q)) tk_X8_submit (by omega) rfl trivial ?_
   refine pm_Wg.callV (m' := 33) (ix := 132) (rr := 163) (pl := 1193) (b := 256) (As := [.int a0, .int 1]) (S := []) (by decide) rfl (pm_dec tk_X8_submit rfl) rfl rfl (by decide) rfl rfl (by decide) (Nat.le_of_ble_eq_true rfl) rfl (e_X2_hasTenant (by omega) q2) ?_
   by_cases h3 : r1 = 0
   · rw [if_pos h3] at H
     have J := Option.some.inj H
     injection J with J0a J0z
     cases J0a
   · rw [if_neg h3] at H
     cases q5 : f_X2_hasUnit s4 a1 with
     | none => rw [q5] at H; cases H
     | some r4 =>
      rw [q5] at H
      dsimp only at H
      refine pm_Wg.path (k := 5) (ds := [0]) (f' := (30, [some (.ref 0), some (.int a0), some (.int a1), some (.int a2), some (.int a3)], [.int a1, .ref 256], cl_h (ct_x v1 (.ref 320) v3 s0) g1 g2 g3 (ct_p4 s4) (ct_e5 (.ref 256) (.ref 384) s5) g6 g7 g8 g9 q)) tk_X8_submit (by omega) rfl ⟨h3, trivial⟩ ?_
      refine pm_Wg.callV (m' := 37) (ix := 108) (rr := 151) (pl := 1143) (b := 256) (As := [.int a1]) (S := []) (by decide) rfl (pm_dec tk_X8_submit rfl) rfl rfl (by decide) rfl rfl (by decide) (Nat.le_of_ble_eq_true rfl) rfl (e_X2_hasUnit (by omega) q5) ?_
      by_cases h6 : r4 = 0
      · rw [if_pos h6] at H
        have J := Option.some.inj H
        injection J with J0a J0z
        cases J0a
      · rw [if_neg h6] at H
        by_cases h7 : a3 = (-1)
        · rw [if_pos h7] at H
          by_cases h8 : (s5.1 19 0) < 400
          · rw [if_pos h8] at H
            cases q14 : f_X1_accept s4 s5 a0 a1 a2 a3 with
            | none => rw [q14] at H; cases H
            | some w =>
             obtain ⟨r12, s5_13⟩ := w
             rw [q14] at H
             dsimp only at H
             refine pm_Wg.path (k := 16) (ds := [1, 1, 1]) (f' := (116, [some (.ref 0), some (.int a0), some (.int a1), some (.int a2), some (.int a3)], [.int a3, .int a2, .int a1, .int a0, .ref 320], cl_h (ct_x v1 (.ref 320) v3 s0) g1 g2 g3 (ct_p4 s4) (ct_e5 (.ref 256) (.ref 384) s5) g6 g7 g8 g9 q)) tk_X8_submit (by omega) rfl ⟨h8, h7, h6, trivial⟩ ?_
             refine pm_Wg.callV (m' := 9) (ix := 164) (rr := 166) (pl := 1209) (b := 320) (As := [.int a0, .int a1, .int a2, .int a3]) (S := []) (by decide) rfl (pm_dec tk_X8_submit rfl) rfl rfl (by decide) rfl rfl (by decide) (Nat.le_of_ble_eq_true rfl) rfl (e_X1_accept (by omega) q14) ?_
             have J := Option.some.inj H
             injection J with J0a J0z
             cases J0a
          · rw [if_neg h8] at H
            have J := Option.some.inj H
            injection J with J0a J0z
            cases J0a
        · rw [if_neg h7] at H
          by_cases h9 : a3 < (s5.1 0 4)
          · rw [if_pos h9] at H
            have J := Option.some.inj H
            injection J with J0a J0z
            subst J0z
            refine pm_Wg.path (k := 9) (ds := [1, 0, 1]) (f' := (71, [some (.ref 0), some (.int a0), some (.int a1), some (.int a2), some (.int a3)], [], cl_h (ct_x v1 (.ref 320) v3 s0) g1 g2 g3 (ct_p4 s4) (ct_e5 (.ref 256) (.ref 384) s5) g6 g7 g8 g9 q)) tk_X8_submit (by omega) rfl ⟨h9, h7, h6, trivial⟩ ?_
            exact pm_Wg.throw (ik := 42) (ic := 46) (ix := 7) (rx := Bundle.six) (k := 22) rfl rfl (by omega) px_IAE rfl rfl (by decide +kernel) (by decide +kernel) (by decide +kernel) (by decide +kernel) (by decide +kernel) (Nat.le_of_ble_eq_true rfl)
          · rw [if_neg h9] at H
            by_cases h10 : a3 ≤ 99999
            · rw [if_pos h10] at H
              by_cases h11 : (s5.1 19 0) < 400
              · rw [if_pos h11] at H
                cases q17 : f_X1_accept s4 s5 a0 a1 a2 a3 with
                | none => rw [q17] at H; cases H
                | some w =>
                 obtain ⟨r15, s5_16⟩ := w
                 rw [q17] at H
                 dsimp only at H
                 refine pm_Wg.path (k := 24) (ds := [1, 0, 0, 1, 1]) (f' := (116, [some (.ref 0), some (.int a0), some (.int a1), some (.int a2), some (.int a3)], [.int a3, .int a2, .int a1, .int a0, .ref 320], cl_h (ct_x v1 (.ref 320) v3 s0) g1 g2 g3 (ct_p4 s4) (ct_e5 (.ref 256) (.ref 384) s5) g6 g7 g8 g9 q)) tk_X8_submit (by omega) rfl ⟨h11, h10, h9, h7, h6, trivial⟩ ?_
                 refine pm_Wg.callV (m' := 9) (ix := 164) (rr := 166) (pl := 1209) (b := 320) (As := [.int a0, .int a1, .int a2, .int a3]) (S := []) (by decide) rfl (pm_dec tk_X8_submit rfl) rfl rfl (by decide) rfl rfl (by decide) (Nat.le_of_ble_eq_true rfl) rfl (e_X1_accept (by omega) q17) ?_
                 have J := Option.some.inj H
                 injection J with J0a J0z
                 cases J0a
              · rw [if_neg h11] at H
                have J := Option.some.inj H
                injection J with J0a J0z
                cases J0a
            · rw [if_neg h10] at H
              have J := Option.some.inj H
              injection J with J0a J0z
              subst J0z
              refine pm_Wg.path (k := 12) (ds := [1, 0, 0, 0]) (f' := (71, [some (.ref 0), some (.int a0), some (.int a1), some (.int a2), some (.int a3)], [], cl_h (ct_x v1 (.ref 320) v3 s0) g1 g2 g3 (ct_p4 s4) (ct_e5 (.ref 256) (.ref 384) s5) g6 g7 g8 g9 q)) tk_X8_submit (by omega) rfl ⟨h10, h9, h7, h6, trivial⟩ ?_
              exact pm_Wg.throw (ik := 42) (ic := 46) (ix := 7) (rx := Bundle.six) (k := 22) rfl rfl (by omega) px_IAE rfl rfl (by decide +kernel) (by decide +kernel) (by decide +kernel) (by decide +kernel) (by decide +kernel) (Nat.le_of_ble_eq_true rfl)
set_option maxRecDepth 20000 in
set_option maxHeartbeats 20000000 in
theorem e_X8_submit_E_t2 {d : Nat} (hd : 6 ≤ d) {g1 g2 g3 g6 g7 g8 g9 : List pm_E} {v1 v3 : Value} {q : Nat × Nat × Nat} {s0 : cs_S} {s4 : cs_S} {s5 : cs_S} {a0 : Int32} {a1 : Int32} {a2 : Int32} {a3 : Int32} {z5 : cs_S} (H : f_X8_submit_E s0 s4 s5 a0 a1 a2 a3 = some (.inr 2, z5)) : pm_Mt 109 d [.ref 0, .int a0, .int a1, .int a2, .int a3] (cl_h (ct_x v1 (.ref 320) v3 s0) g1 g2 g3 (ct_p4 s4) (ct_e5 (.ref 256) (.ref 384) s5) g6 g7 g8 g9 q) (.inr "java/util/NoSuchElementException") (cl_h (ct_x v1 (.ref 320) v3 s0) g1 g2 g3 (ct_p4 s4) (ct_e5 (.ref 256) (.ref 384) z5) g6 g7 g8 g9 (q.1, q.2.1 + 1, q.2.2 + 6)) := by
  refine pm_Mt.of (by decide) (by decide +kernel) rfl rfl ?_
  obtain ⟨d, rfl⟩ : ∃ d', d = d' + 1 := ⟨d - 1, by omega⟩
  unfold f_X8_submit_E at H
  cases q2 : f_X2_hasTenant s4 a0 1 with
  | none => rw [q2] at H; cases H
  | some r1 =>
   rw [q2] at H
   dsimp only at H
   refine pm_Wg.path (k := 8) (ds := []) (f' := (16, [some (.ref 0), some (.int a0), some (.int a1), some (.int a2), some (.int a3)], [.int 1, .int a0, .ref 256], cl_h (ct_x v1 (.ref 320) v3 s0) g1 g2 g3 (ct_p4 s4) (ct_e5 (.ref 256) (.ref 384) s5) g6 g7 g8 g9 q)) tk_X8_submit (by omega) rfl trivial ?_
   refine pm_Wg.callV (m' := 33) (ix := 132) (rr := 163) (pl := 1193) (b := 256) (As := [.int a0, .int 1]) (S := []) (by decide) rfl (pm_dec tk_X8_submit rfl) rfl rfl (by decide) rfl rfl (by decide) (Nat.le_of_ble_eq_true rfl) rfl (e_X2_hasTenant (by omega) q2) ?_
   by_cases h3 : r1 = 0
   · rw [if_pos h3] at H
     have J := Option.some.inj H
     injection J with J0a J0z
     subst J0z
     refine pm_Wg.path (k := 1) (ds := [1]) (f' := (36, [some (.ref 0), some (.int a0), some (.int a1), some (.int a2), some (.int a3)], [], cl_h (ct_x v1 (.ref 320) v3 s0) g1 g2 g3 (ct_p4 s4) (ct_e5 (.ref 256) (.ref 384) s5) g6 g7 g8 g9 q)) tk_X8_submit (by omega) rfl ⟨h3, trivial⟩ ?_
     exact pm_Wg.throw (ik := 112) (ic := 116) (ix := 13) (rx := px_rx13) (k := 21) rfl rfl (by omega) px_NSE rfl rfl (by decide +kernel) (by decide +kernel) (by decide +kernel) (by decide +kernel) (by decide +kernel) (Nat.le_of_ble_eq_true rfl)
   · rw [if_neg h3] at H
     cases q5 : f_X2_hasUnit s4 a1 with
     | none => rw [q5] at H; cases H
     | some r4 =>
      rw [q5] at H
      dsimp only at H
      refine pm_Wg.path (k := 5) (ds := [0]) (f' := (30, [some (.ref 0), some (.int a0), some (.int a1), some (.int a2), some (.int a3)], [.int a1, .ref 256], cl_h (ct_x v1 (.ref 320) v3 s0) g1 g2 g3 (ct_p4 s4) (ct_e5 (.ref 256) (.ref 384) s5) g6 g7 g8 g9 q)) tk_X8_submit (by omega) rfl ⟨h3, trivial⟩ ?_
      refine pm_Wg.callV (m' := 37) (ix := 108) (rr := 151) (pl := 1143) (b := 256) (As := [.int a1]) (S := []) (by decide) rfl (pm_dec tk_X8_submit rfl) rfl rfl (by decide) rfl rfl (by decide) (Nat.le_of_ble_eq_true rfl) rfl (e_X2_hasUnit (by omega) q5) ?_
      by_cases h6 : r4 = 0
      · rw [if_pos h6] at H
        have J := Option.some.inj H
        injection J with J0a J0z
        subst J0z
        refine pm_Wg.path (k := 1) (ds := [0]) (f' := (36, [some (.ref 0), some (.int a0), some (.int a1), some (.int a2), some (.int a3)], [], cl_h (ct_x v1 (.ref 320) v3 s0) g1 g2 g3 (ct_p4 s4) (ct_e5 (.ref 256) (.ref 384) s5) g6 g7 g8 g9 q)) tk_X8_submit (by omega) rfl ⟨h6, trivial⟩ ?_
        exact pm_Wg.throw (ik := 112) (ic := 116) (ix := 13) (rx := px_rx13) (k := 21) rfl rfl (by omega) px_NSE rfl rfl (by decide +kernel) (by decide +kernel) (by decide +kernel) (by decide +kernel) (by decide +kernel) (Nat.le_of_ble_eq_true rfl)
      · rw [if_neg h6] at H
        by_cases h7 : a3 = (-1)
        · rw [if_pos h7] at H
          by_cases h8 : (s5.1 19 0) < 400
          · rw [if_pos h8] at H
            cases q14 : f_X1_accept s4 s5 a0 a1 a2 a3 with
            | none => rw [q14] at H; cases H
            | some w =>
             obtain ⟨r12, s5_13⟩ := w
             rw [q14] at H
             dsimp only at H
             refine pm_Wg.path (k := 16) (ds := [1, 1, 1]) (f' := (116, [some (.ref 0), some (.int a0), some (.int a1), some (.int a2), some (.int a3)], [.int a3, .int a2, .int a1, .int a0, .ref 320], cl_h (ct_x v1 (.ref 320) v3 s0) g1 g2 g3 (ct_p4 s4) (ct_e5 (.ref 256) (.ref 384) s5) g6 g7 g8 g9 q)) tk_X8_submit (by omega) rfl ⟨h8, h7, h6, trivial⟩ ?_
             refine pm_Wg.callV (m' := 9) (ix := 164) (rr := 166) (pl := 1209) (b := 320) (As := [.int a0, .int a1, .int a2, .int a3]) (S := []) (by decide) rfl (pm_dec tk_X8_submit rfl) rfl rfl (by decide) rfl rfl (by decide) (Nat.le_of_ble_eq_true rfl) rfl (e_X1_accept (by omega) q14) ?_
             have J := Option.some.inj H
             injection J with J0a J0z
             cases J0a
          · rw [if_neg h8] at H
            have J := Option.some.inj H
            injection J with J0a J0z
            cases J0a
        · rw [if_neg h7] at H
          by_cases h9 : a3 < (s5.1 0 4)
          · rw [if_pos h9] at H
            have J := Option.some.inj H
            injection J with J0a J0z
            cases J0a
          · rw [if_neg h9] at H
            by_cases h10 : a3 ≤ 99999
            · rw [if_pos h10] at H
              by_cases h11 : (s5.1 19 0) < 400
              · rw [if_pos h11] at H
                cases q17 : f_X1_accept s4 s5 a0 a1 a2 a3 with
                | none => rw [q17] at H; cases H
                | some w =>
                 obtain ⟨r15, s5_16⟩ := w
                 rw [q17] at H
                 dsimp only at H
                 refine pm_Wg.path (k := 24) (ds := [1, 0, 0, 1, 1]) (f' := (116, [some (.ref 0), some (.int a0), some (.int a1), some (.int a2), some (.int a3)], [.int a3, .int a2, .int a1, .int a0, .ref 320], cl_h (ct_x v1 (.ref 320) v3 s0) g1 g2 g3 (ct_p4 s4) (ct_e5 (.ref 256) (.ref 384) s5) g6 g7 g8 g9 q)) tk_X8_submit (by omega) rfl ⟨h11, h10, h9, h7, h6, trivial⟩ ?_
                 refine pm_Wg.callV (m' := 9) (ix := 164) (rr := 166) (pl := 1209) (b := 320) (As := [.int a0, .int a1, .int a2, .int a3]) (S := []) (by decide) rfl (pm_dec tk_X8_submit rfl) rfl rfl (by decide) rfl rfl (by decide) (Nat.le_of_ble_eq_true rfl) rfl (e_X1_accept (by omega) q17) ?_
                 have J := Option.some.inj H
                 injection J with J0a J0z
                 cases J0a
              · rw [if_neg h11] at H
                have J := Option.some.inj H
                injection J with J0a J0z
                cases J0a
            · rw [if_neg h10] at H
              have J := Option.some.inj H
              injection J with J0a J0z
              cases J0a

def tb_X8_fail : List pm_I := [(0, .aload_n 0, 0, 0), (1, .getfield 20, 13, 0), (4, .ifnull 21, 25, 0), (7, .iload_n 1, 0, 0), (8, .ifCond .lt 17, 25, 0), (11, .iload_n 1, 0, 0), (12, .aload_n 0, 0, 0), (13, .getfield 20, 13, 0), (16, .getfield 79, 98, 0), (19, .getfield 102, 117, 0), (22, .if_icmp .lt 13, 35, 0), (35, .aload_n 0, 0, 0), (36, .getfield 20, 13, 0), (39, .getfield 170, 114, 0), (42, .getfield 174, 72, 0), (45, .iconst (-1), 1, 0), (46, .if_icmp .eq 13, 59, 0), (59, .aload_n 0, 0, 0), (60, .getfield 20, 13, 0), (63, .iload_n 1, 0, 0), (64, .invokevirtual 181, 169, 0), (67, .ireturn, 0, 0)]
theorem tk_X8_fail : ∀ e ∈ tb_X8_fail, pm_ck 110 e = true := List.all_eq_true.mp (by decide +kernel)

def f_X8_fail_N (s0 : cs_S) (a0 : Int32) : Option ((Int32 ⊕ Nat)) :=
  some (.inr 2)
set_option maxRecDepth 20000 in
set_option maxHeartbeats 20000000 in
theorem e_X8_fail_N_t2 {d : Nat} (hd : 7 ≤ d) {g1 g2 g3 g4 g5 g6 g7 g8 g9 : List pm_E} {v1 v3 : Value} {q : Nat × Nat × Nat} {s0 : cs_S} {a0 : Int32} (H : f_X8_fail_N s0 a0 = some (.inr 2)) : pm_Mt 110 d [.ref 0, .int a0] (cl_h (ct_x v1 (.null) v3 s0) g1 g2 g3 g4 g5 g6 g7 g8 g9 q) (.inr "java/util/NoSuchElementException") (cl_h (ct_x v1 (.null) v3 s0) g1 g2 g3 g4 g5 g6 g7 g8 g9 (q.1, q.2.1 + 1, q.2.2 + 6)) := by
  refine pm_Mt.of (by decide) (by decide +kernel) rfl rfl ?_
  obtain ⟨d, rfl⟩ : ∃ d', d = d' + 1 := ⟨d - 1, by omega⟩
  unfold f_X8_fail_N at H
  have J := Option.some.inj H
  refine pm_Wg.path (k := 3) (ds := []) (f' := (25, [some (.ref 0), some (.int a0)], [], cl_h (ct_x v1 (.null) v3 s0) g1 g2 g3 g4 g5 g6 g7 g8 g9 q)) tk_X8_fail (by omega) rfl trivial ?_
  exact pm_Wg.throw (ik := 112) (ic := 116) (ix := 13) (rx := px_rx13) (k := 24) rfl rfl (by omega) px_NSE rfl rfl (by decide +kernel) (by decide +kernel) (by decide +kernel) (by decide +kernel) (by decide +kernel) (Nat.le_of_ble_eq_true rfl)

def f_X8_fail_E (s0 : cs_S) (s4 : cs_S) (s5 : cs_S) (a0 : Int32) : Option ((Int32 ⊕ Nat) × cs_S) :=
  (if a0 < 0 then
   some (.inr 2, s5)
  else
   (if a0 < (s4.1 0 0) then
    (if (s5.1 31 0) = (-1) then
     (match f_X1_loseDisk s4 s5 a0 with
     | none => none
     | some (r4, s5_5) =>
      some (.inl r4, s5_5))
    else
     some (.inr 0, s5))
   else
    some (.inr 2, s5)))
set_option maxRecDepth 20000 in
set_option maxHeartbeats 20000000 in
theorem e_X8_fail_E {d : Nat} (hd : 7 ≤ d) {g1 g2 g3 g6 g7 g8 g9 : List pm_E} {v1 v3 : Value} {q : Nat × Nat × Nat} {s0 : cs_S} {s4 : cs_S} {s5 : cs_S} {a0 : Int32} {r : Int32} {z5 : cs_S} (H : f_X8_fail_E s0 s4 s5 a0 = some (.inl r, z5)) : pm_Mt 110 d [.ref 0, .int a0] (cl_h (ct_x v1 (.ref 320) v3 s0) g1 g2 g3 (ct_p4 s4) (ct_e5 (.ref 256) (.ref 384) s5) g6 g7 g8 g9 q) (.inl (some (.int r))) (cl_h (ct_x v1 (.ref 320) v3 s0) g1 g2 g3 (ct_p4 s4) (ct_e5 (.ref 256) (.ref 384) z5) g6 g7 g8 g9 q) := by
  refine pm_Mt.of (by decide) (by decide +kernel) rfl rfl ?_
  obtain ⟨d, rfl⟩ : ∃ d', d = d' + 1 := ⟨d - 1, by omega⟩
  unfold f_X8_fail_E at H
  by_cases h1 : a0 < 0
  · rw [if_pos h1] at H
    have J := Option.some.inj H
    injection J with J0a J0z
    cases J0a
  · rw [if_neg h1] at H
    by_cases h2 : a0 < (s4.1 0 0)
    · rw [if_pos h2] at H
      by_cases h3 : (s5.1 31 0) = (-1)
      · rw [if_pos h3] at H
        cases q6 : f_X1_loseDisk s4 s5 a0 with
        | none => rw [q6] at H; cases H
        | some w =>
         obtain ⟨r4, s5_5⟩ := w
         rw [q6] at H
         dsimp only at H
         refine pm_Wg.path (k := 20) (ds := [0, 1, 1]) (f' := (64, [some (.ref 0), some (.int a0)], [.int a0, .ref 320], cl_h (ct_x v1 (.ref 320) v3 s0) g1 g2 g3 (ct_p4 s4) (ct_e5 (.ref 256) (.ref 384) s5) g6 g7 g8 g9 q)) tk_X8_fail (by omega) rfl ⟨h3, h2, h1, trivial⟩ ?_
         refine pm_Wg.callV (m' := 14) (ix := 181) (rr := 169) (pl := 1219) (b := 320) (As := [.int a0]) (S := []) (by decide) rfl (pm_dec tk_X8_fail rfl) rfl rfl (by decide) rfl rfl (by decide) (Nat.le_of_ble_eq_true rfl) rfl (e_X1_loseDisk (by omega) q6) ?_
         have J := Option.some.inj H
         injection J with J0a J0z
         injection J0a with JR
         subst JR
         subst J0z
         exact pm_Wg.iret (pm_dec tk_X8_fail rfl) rfl rfl
      · rw [if_neg h3] at H
        have J := Option.some.inj H
        injection J with J0a J0z
        cases J0a
    · rw [if_neg h2] at H
      have J := Option.some.inj H
      injection J with J0a J0z
      cases J0a
set_option maxRecDepth 20000 in
set_option maxHeartbeats 20000000 in
theorem e_X8_fail_E_t0 {d : Nat} (hd : 7 ≤ d) {g1 g2 g3 g6 g7 g8 g9 : List pm_E} {v1 v3 : Value} {q : Nat × Nat × Nat} {s0 : cs_S} {s4 : cs_S} {s5 : cs_S} {a0 : Int32} {z5 : cs_S} (H : f_X8_fail_E s0 s4 s5 a0 = some (.inr 0, z5)) : pm_Mt 110 d [.ref 0, .int a0] (cl_h (ct_x v1 (.ref 320) v3 s0) g1 g2 g3 (ct_p4 s4) (ct_e5 (.ref 256) (.ref 384) s5) g6 g7 g8 g9 q) (.inr "java/lang/IllegalStateException") (cl_h (ct_x v1 (.ref 320) v3 s0) g1 g2 g3 (ct_p4 s4) (ct_e5 (.ref 256) (.ref 384) z5) g6 g7 g8 g9 (q.1, q.2.1 + 1, q.2.2 + 6)) := by
  refine pm_Mt.of (by decide) (by decide +kernel) rfl rfl ?_
  obtain ⟨d, rfl⟩ : ∃ d', d = d' + 1 := ⟨d - 1, by omega⟩
  unfold f_X8_fail_E at H
  by_cases h1 : a0 < 0
  · rw [if_pos h1] at H
    have J := Option.some.inj H
    injection J with J0a J0z
    cases J0a
  · rw [if_neg h1] at H
    by_cases h2 : a0 < (s4.1 0 0)
    · rw [if_pos h2] at H
      by_cases h3 : (s5.1 31 0) = (-1)
      · rw [if_pos h3] at H
        cases q6 : f_X1_loseDisk s4 s5 a0 with
        | none => rw [q6] at H; cases H
        | some w =>
         obtain ⟨r4, s5_5⟩ := w
         rw [q6] at H
         dsimp only at H
         refine pm_Wg.path (k := 20) (ds := [0, 1, 1]) (f' := (64, [some (.ref 0), some (.int a0)], [.int a0, .ref 320], cl_h (ct_x v1 (.ref 320) v3 s0) g1 g2 g3 (ct_p4 s4) (ct_e5 (.ref 256) (.ref 384) s5) g6 g7 g8 g9 q)) tk_X8_fail (by omega) rfl ⟨h3, h2, h1, trivial⟩ ?_
         refine pm_Wg.callV (m' := 14) (ix := 181) (rr := 169) (pl := 1219) (b := 320) (As := [.int a0]) (S := []) (by decide) rfl (pm_dec tk_X8_fail rfl) rfl rfl (by decide) rfl rfl (by decide) (Nat.le_of_ble_eq_true rfl) rfl (e_X1_loseDisk (by omega) q6) ?_
         have J := Option.some.inj H
         injection J with J0a J0z
         cases J0a
      · rw [if_neg h3] at H
        have J := Option.some.inj H
        injection J with J0a J0z
        subst J0z
        refine pm_Wg.path (k := 17) (ds := [0, 1, 0]) (f' := (49, [some (.ref 0), some (.int a0)], [], cl_h (ct_x v1 (.ref 320) v3 s0) g1 g2 g3 (ct_p4 s4) (ct_e5 (.ref 256) (.ref 384) s5) g6 g7 g8 g9 q)) tk_X8_fail (by omega) rfl ⟨h3, h2, h1, trivial⟩ ?_
        exact pm_Wg.throw (ik := 31) (ic := 35) (ix := 7) (rx := Bundle.six) (k := 25) rfl rfl (by omega) px_ISE rfl rfl (by decide +kernel) (by decide +kernel) (by decide +kernel) (by decide +kernel) (by decide +kernel) (Nat.le_of_ble_eq_true rfl)
    · rw [if_neg h2] at H
      have J := Option.some.inj H
      injection J with J0a J0z
      cases J0a
set_option maxRecDepth 20000 in
set_option maxHeartbeats 20000000 in
theorem e_X8_fail_E_t2 {d : Nat} (hd : 7 ≤ d) {g1 g2 g3 g6 g7 g8 g9 : List pm_E} {v1 v3 : Value} {q : Nat × Nat × Nat} {s0 : cs_S} {s4 : cs_S} {s5 : cs_S} {a0 : Int32} {z5 : cs_S} (H : f_X8_fail_E s0 s4 s5 a0 = some (.inr 2, z5)) : pm_Mt 110 d [.ref 0, .int a0] (cl_h (ct_x v1 (.ref 320) v3 s0) g1 g2 g3 (ct_p4 s4) (ct_e5 (.ref 256) (.ref 384) s5) g6 g7 g8 g9 q) (.inr "java/util/NoSuchElementException") (cl_h (ct_x v1 (.ref 320) v3 s0) g1 g2 g3 (ct_p4 s4) (ct_e5 (.ref 256) (.ref 384) z5) g6 g7 g8 g9 (q.1, q.2.1 + 1, q.2.2 + 6)) := by
  refine pm_Mt.of (by decide) (by decide +kernel) rfl rfl ?_
  obtain ⟨d, rfl⟩ : ∃ d', d = d' + 1 := ⟨d - 1, by omega⟩
  unfold f_X8_fail_E at H
  by_cases h1 : a0 < 0
  · rw [if_pos h1] at H
    have J := Option.some.inj H
    injection J with J0a J0z
    subst J0z
    refine pm_Wg.path (k := 5) (ds := [1]) (f' := (25, [some (.ref 0), some (.int a0)], [], cl_h (ct_x v1 (.ref 320) v3 s0) g1 g2 g3 (ct_p4 s4) (ct_e5 (.ref 256) (.ref 384) s5) g6 g7 g8 g9 q)) tk_X8_fail (by omega) rfl ⟨h1, trivial⟩ ?_
    exact pm_Wg.throw (ik := 112) (ic := 116) (ix := 13) (rx := px_rx13) (k := 24) rfl rfl (by omega) px_NSE rfl rfl (by decide +kernel) (by decide +kernel) (by decide +kernel) (by decide +kernel) (by decide +kernel) (Nat.le_of_ble_eq_true rfl)
  · rw [if_neg h1] at H
    by_cases h2 : a0 < (s4.1 0 0)
    · rw [if_pos h2] at H
      by_cases h3 : (s5.1 31 0) = (-1)
      · rw [if_pos h3] at H
        cases q6 : f_X1_loseDisk s4 s5 a0 with
        | none => rw [q6] at H; cases H
        | some w =>
         obtain ⟨r4, s5_5⟩ := w
         rw [q6] at H
         dsimp only at H
         refine pm_Wg.path (k := 20) (ds := [0, 1, 1]) (f' := (64, [some (.ref 0), some (.int a0)], [.int a0, .ref 320], cl_h (ct_x v1 (.ref 320) v3 s0) g1 g2 g3 (ct_p4 s4) (ct_e5 (.ref 256) (.ref 384) s5) g6 g7 g8 g9 q)) tk_X8_fail (by omega) rfl ⟨h3, h2, h1, trivial⟩ ?_
         refine pm_Wg.callV (m' := 14) (ix := 181) (rr := 169) (pl := 1219) (b := 320) (As := [.int a0]) (S := []) (by decide) rfl (pm_dec tk_X8_fail rfl) rfl rfl (by decide) rfl rfl (by decide) (Nat.le_of_ble_eq_true rfl) rfl (e_X1_loseDisk (by omega) q6) ?_
         have J := Option.some.inj H
         injection J with J0a J0z
         cases J0a
      · rw [if_neg h3] at H
        have J := Option.some.inj H
        injection J with J0a J0z
        cases J0a
    · rw [if_neg h2] at H
      have J := Option.some.inj H
      injection J with J0a J0z
      subst J0z
      refine pm_Wg.path (k := 11) (ds := [0, 0]) (f' := (25, [some (.ref 0), some (.int a0)], [], cl_h (ct_x v1 (.ref 320) v3 s0) g1 g2 g3 (ct_p4 s4) (ct_e5 (.ref 256) (.ref 384) s5) g6 g7 g8 g9 q)) tk_X8_fail (by omega) rfl ⟨h2, h1, trivial⟩ ?_
      exact pm_Wg.throw (ik := 112) (ic := 116) (ix := 13) (rx := px_rx13) (k := 24) rfl rfl (by omega) px_NSE rfl rfl (by decide +kernel) (by decide +kernel) (by decide +kernel) (by decide +kernel) (by decide +kernel) (Nat.le_of_ble_eq_true rfl)

def tb_X8_advance : List pm_I := [(0, .iload_n 1, 0, 0), (1, .iconst 1, 3, 0), (2, .if_icmp .lt 21, 23, 0), (5, .iload_n 1, 0, 0), (6, .sipush 2000, 40, 0), (9, .if_icmp .gt 14, 23, 0), (12, .iload_n 1, 0, 0), (13, .ldc 152, 0, 0), (15, .aload_n 0, 0, 0), (16, .invokevirtual 184, 173, 0), (19, .isub, 0, 0), (20, .if_icmp .le 13, 33, 0), (33, .aload_n 0, 0, 0), (34, .getfield 20, 13, 0), (37, .ifnonnull 13, 50, 0), (50, .aload_n 0, 0, 0), (51, .getfield 20, 13, 0), (54, .aload_n 0, 0, 0), (55, .getfield 20, 13, 0), (58, .getfield 83, 106, 0), (61, .iload_n 1, 0, 0), (62, .iadd, 0, 0), (63, .iconst 0, 2, 0), (64, .invokevirtual 189, 26, 0), (67, .aload_n 0, 0, 0), (68, .getfield 20, 13, 0), (71, .getfield 83, 106, 0), (74, .ireturn, 0, 0)]
theorem tk_X8_advance : ∀ e ∈ tb_X8_advance, pm_ck 111 e = true := List.all_eq_true.mp (by decide +kernel)

def f_X8_advance_N (s0 : cs_S) (a0 : Int32) : Option ((Int32 ⊕ Nat)) :=
  (if a0 < 1 then
   some (.inr 1)
  else
   (if 2000 < a0 then
    some (.inr 1)
   else
    (match f_X8_now_N s0 with
    | none => none
    | some r3 =>
     (if a0 ≤ (99999 - r3) then
      some (.inr 0)
     else
      some (.inr 1)))))
set_option maxRecDepth 20000 in
set_option maxHeartbeats 20000000 in
theorem e_X8_advance_N_t0 {d : Nat} (hd : 7 ≤ d) {g1 g2 g3 g4 g5 g6 g7 g8 g9 : List pm_E} {v1 v3 : Value} {q : Nat × Nat × Nat} {s0 : cs_S} {a0 : Int32} (H : f_X8_advance_N s0 a0 = some (.inr 0)) : pm_Mt 111 d [.ref 0, .int a0] (cl_h (ct_x v1 (.null) v3 s0) g1 g2 g3 g4 g5 g6 g7 g8 g9 q) (.inr "java/lang/IllegalStateException") (cl_h (ct_x v1 (.null) v3 s0) g1 g2 g3 g4 g5 g6 g7 g8 g9 (q.1, q.2.1 + 1, q.2.2 + 6)) := by
  refine pm_Mt.of (by decide) (by decide +kernel) rfl rfl ?_
  obtain ⟨d, rfl⟩ : ∃ d', d = d' + 1 := ⟨d - 1, by omega⟩
  unfold f_X8_advance_N at H
  by_cases h1 : a0 < 1
  · rw [if_pos h1] at H
    have J := Option.some.inj H
    cases J
  · rw [if_neg h1] at H
    by_cases h2 : 2000 < a0
    · rw [if_pos h2] at H
      have J := Option.some.inj H
      cases J
    · rw [if_neg h2] at H
      cases q4 : f_X8_now_N s0 with
      | none => rw [q4] at H; cases H
      | some r3 =>
       rw [q4] at H
       dsimp only at H
       refine pm_Wg.path (k := 9) (ds := [0, 0]) (f' := (16, [some (.ref 0), some (.int a0)], [.ref 0, .int 99999, .int a0], cl_h (ct_x v1 (.null) v3 s0) g1 g2 g3 g4 g5 g6 g7 g8 g9 q)) tk_X8_advance (by omega) rfl ⟨h2, h1, trivial⟩ ?_
       refine pm_Wg.callV (m' := 114) (ix := 184) (rr := 173) (pl := 1234) (b := 0) (As := []) (S := [.int 99999, .int a0]) (by decide) rfl (pm_dec tk_X8_advance rfl) rfl rfl (by decide) rfl rfl (by decide) (Nat.le_of_ble_eq_true rfl) rfl (e_X8_now_N (by omega) q4) ?_
       by_cases h5 : a0 ≤ (99999 - r3)
       · rw [if_pos h5] at H
         have J := Option.some.inj H
         refine pm_Wg.path (k := 5) (ds := [1]) (f' := (40, [some (.ref 0), some (.int a0)], [], cl_h (ct_x v1 (.null) v3 s0) g1 g2 g3 g4 g5 g6 g7 g8 g9 q)) tk_X8_advance (by omega) rfl ⟨h5, trivial⟩ ?_
         exact pm_Wg.throw (ik := 31) (ic := 35) (ix := 7) (rx := Bundle.six) (k := 12) rfl rfl (by omega) px_ISE rfl rfl (by decide +kernel) (by decide +kernel) (by decide +kernel) (by decide +kernel) (by decide +kernel) (Nat.le_of_ble_eq_true rfl)
       · rw [if_neg h5] at H
         have J := Option.some.inj H
         cases J
set_option maxRecDepth 20000 in
set_option maxHeartbeats 20000000 in
theorem e_X8_advance_N_t1 {d : Nat} (hd : 7 ≤ d) {g1 g2 g3 g4 g5 g6 g7 g8 g9 : List pm_E} {v1 v3 : Value} {q : Nat × Nat × Nat} {s0 : cs_S} {a0 : Int32} (H : f_X8_advance_N s0 a0 = some (.inr 1)) : pm_Mt 111 d [.ref 0, .int a0] (cl_h (ct_x v1 (.null) v3 s0) g1 g2 g3 g4 g5 g6 g7 g8 g9 q) (.inr "java/lang/IllegalArgumentException") (cl_h (ct_x v1 (.null) v3 s0) g1 g2 g3 g4 g5 g6 g7 g8 g9 (q.1, q.2.1 + 1, q.2.2 + 6)) := by
  refine pm_Mt.of (by decide) (by decide +kernel) rfl rfl ?_
  obtain ⟨d, rfl⟩ : ∃ d', d = d' + 1 := ⟨d - 1, by omega⟩
  unfold f_X8_advance_N at H
  by_cases h1 : a0 < 1
  · rw [if_pos h1] at H
    have J := Option.some.inj H
    refine pm_Wg.path (k := 3) (ds := [1]) (f' := (23, [some (.ref 0), some (.int a0)], [], cl_h (ct_x v1 (.null) v3 s0) g1 g2 g3 g4 g5 g6 g7 g8 g9 q)) tk_X8_advance (by omega) rfl ⟨h1, trivial⟩ ?_
    exact pm_Wg.throw (ik := 42) (ic := 46) (ix := 7) (rx := Bundle.six) (k := 26) rfl rfl (by omega) px_IAE rfl rfl (by decide +kernel) (by decide +kernel) (by decide +kernel) (by decide +kernel) (by decide +kernel) (Nat.le_of_ble_eq_true rfl)
  · rw [if_neg h1] at H
    by_cases h2 : 2000 < a0
    · rw [if_pos h2] at H
      have J := Option.some.inj H
      refine pm_Wg.path (k := 6) (ds := [0, 1]) (f' := (23, [some (.ref 0), some (.int a0)], [], cl_h (ct_x v1 (.null) v3 s0) g1 g2 g3 g4 g5 g6 g7 g8 g9 q)) tk_X8_advance (by omega) rfl ⟨h2, h1, trivial⟩ ?_
      exact pm_Wg.throw (ik := 42) (ic := 46) (ix := 7) (rx := Bundle.six) (k := 26) rfl rfl (by omega) px_IAE rfl rfl (by decide +kernel) (by decide +kernel) (by decide +kernel) (by decide +kernel) (by decide +kernel) (Nat.le_of_ble_eq_true rfl)
    · rw [if_neg h2] at H
      cases q4 : f_X8_now_N s0 with
      | none => rw [q4] at H; cases H
      | some r3 =>
       rw [q4] at H
       dsimp only at H
       refine pm_Wg.path (k := 9) (ds := [0, 0]) (f' := (16, [some (.ref 0), some (.int a0)], [.ref 0, .int 99999, .int a0], cl_h (ct_x v1 (.null) v3 s0) g1 g2 g3 g4 g5 g6 g7 g8 g9 q)) tk_X8_advance (by omega) rfl ⟨h2, h1, trivial⟩ ?_
       refine pm_Wg.callV (m' := 114) (ix := 184) (rr := 173) (pl := 1234) (b := 0) (As := []) (S := [.int 99999, .int a0]) (by decide) rfl (pm_dec tk_X8_advance rfl) rfl rfl (by decide) rfl rfl (by decide) (Nat.le_of_ble_eq_true rfl) rfl (e_X8_now_N (by omega) q4) ?_
       by_cases h5 : a0 ≤ (99999 - r3)
       · rw [if_pos h5] at H
         have J := Option.some.inj H
         cases J
       · rw [if_neg h5] at H
         have J := Option.some.inj H
         refine pm_Wg.path (k := 2) (ds := [0]) (f' := (23, [some (.ref 0), some (.int a0)], [], cl_h (ct_x v1 (.null) v3 s0) g1 g2 g3 g4 g5 g6 g7 g8 g9 q)) tk_X8_advance (by omega) rfl ⟨h5, trivial⟩ ?_
         exact pm_Wg.throw (ik := 42) (ic := 46) (ix := 7) (rx := Bundle.six) (k := 26) rfl rfl (by omega) px_IAE rfl rfl (by decide +kernel) (by decide +kernel) (by decide +kernel) (by decide +kernel) (by decide +kernel) (Nat.le_of_ble_eq_true rfl)

def f_X8_advance_E (s0 : cs_S) (s4 : cs_S) (s5 : cs_S) (s6 : cs_S) (a0 : Int32) : Option ((Int32 ⊕ Nat) × cs_S) :=
  (if a0 < 1 then
   some (.inr 1, s5)
  else
   (if 2000 < a0 then
    some (.inr 1, s5)
   else
    (match f_X8_now_E s0 s5 with
    | none => none
    | some r3 =>
     (if a0 ≤ (99999 - r3) then
      (match f_X1_runTo s4 s5 s6 ((s5.1 0 4) + a0) 0 with
      | none => none
      | some s5_6 =>
       some (.inl (s5_6.1 0 4), s5_6))
     else
      some (.inr 1, s5)))))
set_option maxRecDepth 20000 in
set_option maxHeartbeats 20000000 in
theorem e_X8_advance_E {d : Nat} (hd : 7 ≤ d) {g1 g2 g3 g7 g8 g9 : List pm_E} {v1 v3 : Value} {q : Nat × Nat × Nat} {s0 : cs_S} {s4 : cs_S} {s5 : cs_S} {s6 : cs_S} {a0 : Int32} {r : Int32} {z5 : cs_S} (H : f_X8_advance_E s0 s4 s5 s6 a0 = some (.inl r, z5)) : pm_Mt 111 d [.ref 0, .int a0] (cl_h (ct_x v1 (.ref 320) v3 s0) g1 g2 g3 (ct_p4 s4) (ct_e5 (.ref 256) (.ref 384) s5) (ct_t6 s6) g7 g8 g9 q) (.inl (some (.int r))) (cl_h (ct_x v1 (.ref 320) v3 s0) g1 g2 g3 (ct_p4 s4) (ct_e5 (.ref 256) (.ref 384) z5) (ct_t6 s6) g7 g8 g9 q) := by
  refine pm_Mt.of (by decide) (by decide +kernel) rfl rfl ?_
  obtain ⟨d, rfl⟩ : ∃ d', d = d' + 1 := ⟨d - 1, by omega⟩
  unfold f_X8_advance_E at H
  by_cases h1 : a0 < 1
  · rw [if_pos h1] at H
    have J := Option.some.inj H
    injection J with J0a J0z
    cases J0a
  · rw [if_neg h1] at H
    by_cases h2 : 2000 < a0
    · rw [if_pos h2] at H
      have J := Option.some.inj H
      injection J with J0a J0z
      cases J0a
    · rw [if_neg h2] at H
      cases q4 : f_X8_now_E s0 s5 with
      | none => rw [q4] at H; cases H
      | some r3 =>
       rw [q4] at H
       dsimp only at H
       refine pm_Wg.path (k := 9) (ds := [0, 0]) (f' := (16, [some (.ref 0), some (.int a0)], [.ref 0, .int 99999, .int a0], cl_h (ct_x v1 (.ref 320) v3 s0) g1 g2 g3 (ct_p4 s4) (ct_e5 (.ref 256) (.ref 384) s5) (ct_t6 s6) g7 g8 g9 q)) tk_X8_advance (by omega) rfl ⟨h2, h1, trivial⟩ ?_
       refine pm_Wg.callV (m' := 114) (ix := 184) (rr := 173) (pl := 1234) (b := 0) (As := []) (S := [.int 99999, .int a0]) (by decide) rfl (pm_dec tk_X8_advance rfl) rfl rfl (by decide) rfl rfl (by decide) (Nat.le_of_ble_eq_true rfl) rfl (e_X8_now_E (by omega) q4) ?_
       by_cases h5 : a0 ≤ (99999 - r3)
       · rw [if_pos h5] at H
         cases q7 : f_X1_runTo s4 s5 s6 ((s5.1 0 4) + a0) 0 with
         | none => rw [q7] at H; cases H
         | some s5_6 =>
          rw [q7] at H
          dsimp only at H
          refine pm_Wg.path (k := 13) (ds := [1]) (f' := (64, [some (.ref 0), some (.int a0)], [.int 0, .int ((s5.1 0 4) + a0), .ref 320], cl_h (ct_x v1 (.ref 320) v3 s0) g1 g2 g3 (ct_p4 s4) (ct_e5 (.ref 256) (.ref 384) s5) (ct_t6 s6) g7 g8 g9 q)) tk_X8_advance (by omega) rfl ⟨h5, trivial⟩ ?_
          refine pm_Wg.callV (m' := 16) (ix := 189) (rr := 26) (pl := 528) (b := 320) (As := [.int ((s5.1 0 4) + a0), .int 0]) (S := []) (by decide) rfl (pm_dec tk_X8_advance rfl) rfl rfl (by decide) rfl rfl (by decide) (Nat.le_of_ble_eq_true rfl) rfl (e_X1_runTo (by omega) q7) ?_
          have J := Option.some.inj H
          injection J with J0a J0z
          injection J0a with JR
          subst JR
          subst J0z
          refine pm_Wg.path (k := 3) (ds := []) (f' := (74, [some (.ref 0), some (.int a0)], [.int (s5_6.1 0 4)], cl_h (ct_x v1 (.ref 320) v3 s0) g1 g2 g3 (ct_p4 s4) (ct_e5 (.ref 256) (.ref 384) s5_6) (ct_t6 s6) g7 g8 g9 q)) tk_X8_advance (by omega) rfl trivial ?_
          exact pm_Wg.iret (pm_dec tk_X8_advance rfl) rfl rfl
       · rw [if_neg h5] at H
         have J := Option.some.inj H
         injection J with J0a J0z
         cases J0a
set_option maxRecDepth 20000 in
set_option maxHeartbeats 20000000 in
theorem e_X8_advance_E_t1 {d : Nat} (hd : 7 ≤ d) {g1 g2 g3 g7 g8 g9 : List pm_E} {v1 v3 : Value} {q : Nat × Nat × Nat} {s0 : cs_S} {s4 : cs_S} {s5 : cs_S} {s6 : cs_S} {a0 : Int32} {z5 : cs_S} (H : f_X8_advance_E s0 s4 s5 s6 a0 = some (.inr 1, z5)) : pm_Mt 111 d [.ref 0, .int a0] (cl_h (ct_x v1 (.ref 320) v3 s0) g1 g2 g3 (ct_p4 s4) (ct_e5 (.ref 256) (.ref 384) s5) (ct_t6 s6) g7 g8 g9 q) (.inr "java/lang/IllegalArgumentException") (cl_h (ct_x v1 (.ref 320) v3 s0) g1 g2 g3 (ct_p4 s4) (ct_e5 (.ref 256) (.ref 384) z5) (ct_t6 s6) g7 g8 g9 (q.1, q.2.1 + 1, q.2.2 + 6)) := by
  refine pm_Mt.of (by decide) (by decide +kernel) rfl rfl ?_
  obtain ⟨d, rfl⟩ : ∃ d', d = d' + 1 := ⟨d - 1, by omega⟩
  unfold f_X8_advance_E at H
  by_cases h1 : a0 < 1
  · rw [if_pos h1] at H
    have J := Option.some.inj H
    injection J with J0a J0z
    subst J0z
    refine pm_Wg.path (k := 3) (ds := [1]) (f' := (23, [some (.ref 0), some (.int a0)], [], cl_h (ct_x v1 (.ref 320) v3 s0) g1 g2 g3 (ct_p4 s4) (ct_e5 (.ref 256) (.ref 384) s5) (ct_t6 s6) g7 g8 g9 q)) tk_X8_advance (by omega) rfl ⟨h1, trivial⟩ ?_
    exact pm_Wg.throw (ik := 42) (ic := 46) (ix := 7) (rx := Bundle.six) (k := 26) rfl rfl (by omega) px_IAE rfl rfl (by decide +kernel) (by decide +kernel) (by decide +kernel) (by decide +kernel) (by decide +kernel) (Nat.le_of_ble_eq_true rfl)
  · rw [if_neg h1] at H
    by_cases h2 : 2000 < a0
    · rw [if_pos h2] at H
      have J := Option.some.inj H
      injection J with J0a J0z
      subst J0z
      refine pm_Wg.path (k := 6) (ds := [0, 1]) (f' := (23, [some (.ref 0), some (.int a0)], [], cl_h (ct_x v1 (.ref 320) v3 s0) g1 g2 g3 (ct_p4 s4) (ct_e5 (.ref 256) (.ref 384) s5) (ct_t6 s6) g7 g8 g9 q)) tk_X8_advance (by omega) rfl ⟨h2, h1, trivial⟩ ?_
      exact pm_Wg.throw (ik := 42) (ic := 46) (ix := 7) (rx := Bundle.six) (k := 26) rfl rfl (by omega) px_IAE rfl rfl (by decide +kernel) (by decide +kernel) (by decide +kernel) (by decide +kernel) (by decide +kernel) (Nat.le_of_ble_eq_true rfl)
    · rw [if_neg h2] at H
      cases q4 : f_X8_now_E s0 s5 with
      | none => rw [q4] at H; cases H
      | some r3 =>
       rw [q4] at H
       dsimp only at H
       refine pm_Wg.path (k := 9) (ds := [0, 0]) (f' := (16, [some (.ref 0), some (.int a0)], [.ref 0, .int 99999, .int a0], cl_h (ct_x v1 (.ref 320) v3 s0) g1 g2 g3 (ct_p4 s4) (ct_e5 (.ref 256) (.ref 384) s5) (ct_t6 s6) g7 g8 g9 q)) tk_X8_advance (by omega) rfl ⟨h2, h1, trivial⟩ ?_
       refine pm_Wg.callV (m' := 114) (ix := 184) (rr := 173) (pl := 1234) (b := 0) (As := []) (S := [.int 99999, .int a0]) (by decide) rfl (pm_dec tk_X8_advance rfl) rfl rfl (by decide) rfl rfl (by decide) (Nat.le_of_ble_eq_true rfl) rfl (e_X8_now_E (by omega) q4) ?_
       by_cases h5 : a0 ≤ (99999 - r3)
       · rw [if_pos h5] at H
         cases q7 : f_X1_runTo s4 s5 s6 ((s5.1 0 4) + a0) 0 with
         | none => rw [q7] at H; cases H
         | some s5_6 =>
          rw [q7] at H
          dsimp only at H
          refine pm_Wg.path (k := 13) (ds := [1]) (f' := (64, [some (.ref 0), some (.int a0)], [.int 0, .int ((s5.1 0 4) + a0), .ref 320], cl_h (ct_x v1 (.ref 320) v3 s0) g1 g2 g3 (ct_p4 s4) (ct_e5 (.ref 256) (.ref 384) s5) (ct_t6 s6) g7 g8 g9 q)) tk_X8_advance (by omega) rfl ⟨h5, trivial⟩ ?_
          refine pm_Wg.callV (m' := 16) (ix := 189) (rr := 26) (pl := 528) (b := 320) (As := [.int ((s5.1 0 4) + a0), .int 0]) (S := []) (by decide) rfl (pm_dec tk_X8_advance rfl) rfl rfl (by decide) rfl rfl (by decide) (Nat.le_of_ble_eq_true rfl) rfl (e_X1_runTo (by omega) q7) ?_
          have J := Option.some.inj H
          injection J with J0a J0z
          cases J0a
       · rw [if_neg h5] at H
         have J := Option.some.inj H
         injection J with J0a J0z
         subst J0z
         refine pm_Wg.path (k := 2) (ds := [0]) (f' := (23, [some (.ref 0), some (.int a0)], [], cl_h (ct_x v1 (.ref 320) v3 s0) g1 g2 g3 (ct_p4 s4) (ct_e5 (.ref 256) (.ref 384) s5) (ct_t6 s6) g7 g8 g9 q)) tk_X8_advance (by omega) rfl ⟨h5, trivial⟩ ?_
         exact pm_Wg.throw (ik := 42) (ic := 46) (ix := 7) (rx := Bundle.six) (k := 26) rfl rfl (by omega) px_IAE rfl rfl (by decide +kernel) (by decide +kernel) (by decide +kernel) (by decide +kernel) (by decide +kernel) (Nat.le_of_ble_eq_true rfl)

def tb_X8_promise : List pm_I := [(0, .iload_n 1, 0, 0), (1, .iconst (-1), 1, 0), (2, .if_icmp .eq 27, 29, 0), (5, .iload_n 1, 0, 0), (6, .aload_n 0, 0, 0), (7, .invokevirtual 184, 173, 0), (10, .if_icmp .le 9, 19, 0), (13, .iload_n 1, 0, 0), (14, .ldc 152, 0, 0), (16, .if_icmp .le 13, 29, 0), (29, .aload_n 0, 0, 0), (30, .getfield 20, 13, 0), (33, .ifnonnull 13, 46, 0), (46, .aload_n 0, 0, 0), (47, .getfield 20, 13, 0), (50, .getfield 170, 114, 0), (53, .getfield 195, 94, 0), (56, .istore_n 2, 0, 0), (57, .aload_n 0, 0, 0), (58, .getfield 20, 13, 0), (61, .getfield 170, 114, 0), (64, .iload_n 1, 0, 0), (65, .putfield 195, 94, 0), (68, .aload_n 0, 0, 0), (69, .getfield 20, 13, 0), (72, .getfield 170, 114, 0), (75, .aload_n 0, 0, 0), (76, .getfield 20, 13, 0), (79, .getfield 83, 106, 0), (82, .putfield 198, 96, 0), (85, .iload_n 2, 0, 0), (86, .ireturn, 0, 0)]
theorem tk_X8_promise : ∀ e ∈ tb_X8_promise, pm_ck 112 e = true := List.all_eq_true.mp (by decide +kernel)

def f_X8_promise_N (s0 : cs_S) (a0 : Int32) : Option ((Int32 ⊕ Nat)) :=
  (if a0 = (-1) then
   some (.inr 0)
  else
   (match f_X8_now_N s0 with
   | none => none
   | some r2 =>
    (if a0 ≤ r2 then
     some (.inr 1)
    else
     (if a0 ≤ 99999 then
      some (.inr 0)
     else
      some (.inr 1)))))
set_option maxRecDepth 20000 in
set_option maxHeartbeats 20000000 in
theorem e_X8_promise_N_t0 {d : Nat} (hd : 6 ≤ d) {g1 g2 g3 g4 g5 g6 g7 g8 g9 : List pm_E} {v1 v3 : Value} {q : Nat × Nat × Nat} {s0 : cs_S} {a0 : Int32} (H : f_X8_promise_N s0 a0 = some (.inr 0)) : pm_Mt 112 d [.ref 0, .int a0] (cl_h (ct_x v1 (.null) v3 s0) g1 g2 g3 g4 g5 g6 g7 g8 g9 q) (.inr "java/lang/IllegalStateException") (cl_h (ct_x v1 (.null) v3 s0) g1 g2 g3 g4 g5 g6 g7 g8 g9 (q.1, q.2.1 + 1, q.2.2 + 6)) := by
  refine pm_Mt.of (by decide) (by decide +kernel) rfl rfl ?_
  obtain ⟨d, rfl⟩ : ∃ d', d = d' + 1 := ⟨d - 1, by omega⟩
  unfold f_X8_promise_N at H
  by_cases h1 : a0 = (-1)
  · rw [if_pos h1] at H
    have J := Option.some.inj H
    refine pm_Wg.path (k := 6) (ds := [1]) (f' := (36, [some (.ref 0), some (.int a0), none], [], cl_h (ct_x v1 (.null) v3 s0) g1 g2 g3 g4 g5 g6 g7 g8 g9 q)) tk_X8_promise (by omega) rfl ⟨h1, trivial⟩ ?_
    exact pm_Wg.throw (ik := 31) (ic := 35) (ix := 7) (rx := Bundle.six) (k := 12) rfl rfl (by omega) px_ISE rfl rfl (by decide +kernel) (by decide +kernel) (by decide +kernel) (by decide +kernel) (by decide +kernel) (Nat.le_of_ble_eq_true rfl)
  · rw [if_neg h1] at H
    cases q3 : f_X8_now_N s0 with
    | none => rw [q3] at H; cases H
    | some r2 =>
     rw [q3] at H
     dsimp only at H
     refine pm_Wg.path (k := 5) (ds := [0]) (f' := (7, [some (.ref 0), some (.int a0), none], [.ref 0, .int a0], cl_h (ct_x v1 (.null) v3 s0) g1 g2 g3 g4 g5 g6 g7 g8 g9 q)) tk_X8_promise (by omega) rfl ⟨h1, trivial⟩ ?_
     refine pm_Wg.callV (m' := 114) (ix := 184) (rr := 173) (pl := 1234) (b := 0) (As := []) (S := [.int a0]) (by decide) rfl (pm_dec tk_X8_promise rfl) rfl rfl (by decide) rfl rfl (by decide) (Nat.le_of_ble_eq_true rfl) rfl (e_X8_now_N (by omega) q3) ?_
     by_cases h4 : a0 ≤ r2
     · rw [if_pos h4] at H
       have J := Option.some.inj H
       cases J
     · rw [if_neg h4] at H
       by_cases h5 : a0 ≤ 99999
       · rw [if_pos h5] at H
         have J := Option.some.inj H
         refine pm_Wg.path (k := 7) (ds := [0, 1]) (f' := (36, [some (.ref 0), some (.int a0), none], [], cl_h (ct_x v1 (.null) v3 s0) g1 g2 g3 g4 g5 g6 g7 g8 g9 q)) tk_X8_promise (by omega) rfl ⟨h5, h4, trivial⟩ ?_
         exact pm_Wg.throw (ik := 31) (ic := 35) (ix := 7) (rx := Bundle.six) (k := 12) rfl rfl (by omega) px_ISE rfl rfl (by decide +kernel) (by decide +kernel) (by decide +kernel) (by decide +kernel) (by decide +kernel) (Nat.le_of_ble_eq_true rfl)
       · rw [if_neg h5] at H
         have J := Option.some.inj H
         cases J
set_option maxRecDepth 20000 in
set_option maxHeartbeats 20000000 in
theorem e_X8_promise_N_t1 {d : Nat} (hd : 6 ≤ d) {g1 g2 g3 g4 g5 g6 g7 g8 g9 : List pm_E} {v1 v3 : Value} {q : Nat × Nat × Nat} {s0 : cs_S} {a0 : Int32} (H : f_X8_promise_N s0 a0 = some (.inr 1)) : pm_Mt 112 d [.ref 0, .int a0] (cl_h (ct_x v1 (.null) v3 s0) g1 g2 g3 g4 g5 g6 g7 g8 g9 q) (.inr "java/lang/IllegalArgumentException") (cl_h (ct_x v1 (.null) v3 s0) g1 g2 g3 g4 g5 g6 g7 g8 g9 (q.1, q.2.1 + 1, q.2.2 + 6)) := by
  refine pm_Mt.of (by decide) (by decide +kernel) rfl rfl ?_
  obtain ⟨d, rfl⟩ : ∃ d', d = d' + 1 := ⟨d - 1, by omega⟩
  unfold f_X8_promise_N at H
  by_cases h1 : a0 = (-1)
  · rw [if_pos h1] at H
    have J := Option.some.inj H
    cases J
  · rw [if_neg h1] at H
    cases q3 : f_X8_now_N s0 with
    | none => rw [q3] at H; cases H
    | some r2 =>
     rw [q3] at H
     dsimp only at H
     refine pm_Wg.path (k := 5) (ds := [0]) (f' := (7, [some (.ref 0), some (.int a0), none], [.ref 0, .int a0], cl_h (ct_x v1 (.null) v3 s0) g1 g2 g3 g4 g5 g6 g7 g8 g9 q)) tk_X8_promise (by omega) rfl ⟨h1, trivial⟩ ?_
     refine pm_Wg.callV (m' := 114) (ix := 184) (rr := 173) (pl := 1234) (b := 0) (As := []) (S := [.int a0]) (by decide) rfl (pm_dec tk_X8_promise rfl) rfl rfl (by decide) rfl rfl (by decide) (Nat.le_of_ble_eq_true rfl) rfl (e_X8_now_N (by omega) q3) ?_
     by_cases h4 : a0 ≤ r2
     · rw [if_pos h4] at H
       have J := Option.some.inj H
       refine pm_Wg.path (k := 1) (ds := [1]) (f' := (19, [some (.ref 0), some (.int a0), none], [], cl_h (ct_x v1 (.null) v3 s0) g1 g2 g3 g4 g5 g6 g7 g8 g9 q)) tk_X8_promise (by omega) rfl ⟨h4, trivial⟩ ?_
       exact pm_Wg.throw (ik := 42) (ic := 46) (ix := 7) (rx := Bundle.six) (k := 27) rfl rfl (by omega) px_IAE rfl rfl (by decide +kernel) (by decide +kernel) (by decide +kernel) (by decide +kernel) (by decide +kernel) (Nat.le_of_ble_eq_true rfl)
     · rw [if_neg h4] at H
       by_cases h5 : a0 ≤ 99999
       · rw [if_pos h5] at H
         have J := Option.some.inj H
         cases J
       · rw [if_neg h5] at H
         have J := Option.some.inj H
         refine pm_Wg.path (k := 4) (ds := [0, 0]) (f' := (19, [some (.ref 0), some (.int a0), none], [], cl_h (ct_x v1 (.null) v3 s0) g1 g2 g3 g4 g5 g6 g7 g8 g9 q)) tk_X8_promise (by omega) rfl ⟨h5, h4, trivial⟩ ?_
         exact pm_Wg.throw (ik := 42) (ic := 46) (ix := 7) (rx := Bundle.six) (k := 27) rfl rfl (by omega) px_IAE rfl rfl (by decide +kernel) (by decide +kernel) (by decide +kernel) (by decide +kernel) (by decide +kernel) (Nat.le_of_ble_eq_true rfl)

def fc_X8_promise_E_c1 (s0 : cs_S) (s5 : cs_S) (l1 : Int32) (l2 : Int32) (k0 : Int32) : Option ((Int32 ⊕ Nat) × cs_S) :=
  some (.inl l2, (cs_i s5 31 10 k0))
def f_X8_promise_E (s0 : cs_S) (s5 : cs_S) (a0 : Int32) : Option ((Int32 ⊕ Nat) × cs_S) :=
  (if a0 = (-1) then
   (fc_X8_promise_E_c1 s0 (cs_i s5 31 9 a0) a0 (s5.1 31 9) ((cs_i s5 31 9 a0).1 0 4))
  else
   (match f_X8_now_E s0 s5 with
   | none => none
   | some r2 =>
    (if a0 ≤ r2 then
     some (.inr 1, s5)
    else
     (if a0 ≤ 99999 then
      (fc_X8_promise_E_c1 s0 (cs_i s5 31 9 a0) a0 (s5.1 31 9) ((cs_i s5 31 9 a0).1 0 4))
     else
      some (.inr 1, s5)))))
set_option maxRecDepth 20000 in
set_option maxHeartbeats 20000000 in
theorem ec_X8_promise_E_c1 {d : Nat} (hd : 6 ≤ d) {g1 g2 g3 g4 g6 g7 g8 g9 : List pm_E} {v1 v3 : Value} {q : Nat × Nat × Nat} {s0 : cs_S} {s5 : cs_S} {l1 : Int32} {l2 : Int32} {k0 : Int32} {r : Int32} {z5 : cs_S} (H : fc_X8_promise_E_c1 s0 s5 l1 l2 k0 = some (.inl r, z5)) : pm_Wg 112 d (.inl (some (.int r))) (cl_h (ct_x v1 (.ref 320) v3 s0) g1 g2 g3 g4 (ct_e5 (.ref 256) (.ref 384) z5) g6 g7 g8 g9 q) (82, [some (.ref 0), some (.int l1), some (.int l2)], [.int k0, .ref 351], cl_h (ct_x v1 (.ref 320) v3 s0) g1 g2 g3 g4 (ct_e5 (.ref 256) (.ref 384) s5) g6 g7 g8 g9 q) := by
  obtain ⟨d, rfl⟩ : ∃ d', d = d' + 1 := ⟨d - 1, by omega⟩
  unfold fc_X8_promise_E_c1 at H
  try dsimp only at H
  have J := Option.some.inj H
  injection J with J0a J0z
  injection J0a with JR
  subst JR
  subst J0z
  refine pm_Wg.path (k := 2) (ds := []) (f' := (86, [some (.ref 0), some (.int l1), some (.int l2)], [.int l2], cl_h (ct_x v1 (.ref 320) v3 s0) g1 g2 g3 g4 (ct_e5 (.ref 256) (.ref 384) (cs_i s5 31 10 k0)) g6 g7 g8 g9 q)) tk_X8_promise (by omega) rfl trivial ?_
  exact pm_Wg.iret (pm_dec tk_X8_promise rfl) rfl rfl
set_option maxRecDepth 20000 in
set_option maxHeartbeats 20000000 in
theorem e_X8_promise_E {d : Nat} (hd : 6 ≤ d) {g1 g2 g3 g4 g6 g7 g8 g9 : List pm_E} {v1 v3 : Value} {q : Nat × Nat × Nat} {s0 : cs_S} {s5 : cs_S} {a0 : Int32} {r : Int32} {z5 : cs_S} (H : f_X8_promise_E s0 s5 a0 = some (.inl r, z5)) : pm_Mt 112 d [.ref 0, .int a0] (cl_h (ct_x v1 (.ref 320) v3 s0) g1 g2 g3 g4 (ct_e5 (.ref 256) (.ref 384) s5) g6 g7 g8 g9 q) (.inl (some (.int r))) (cl_h (ct_x v1 (.ref 320) v3 s0) g1 g2 g3 g4 (ct_e5 (.ref 256) (.ref 384) z5) g6 g7 g8 g9 q) := by
  refine pm_Mt.of (by decide) (by decide +kernel) rfl rfl ?_
  obtain ⟨d, rfl⟩ : ∃ d', d = d' + 1 := ⟨d - 1, by omega⟩
  unfold f_X8_promise_E at H
  by_cases h1 : a0 = (-1)
  · rw [if_pos h1] at H
    refine pm_Wg.path (k := 22) (ds := [1]) (f' := (82, [some (.ref 0), some (.int a0), some (.int (s5.1 31 9))], [.int ((cs_i s5 31 9 a0).1 0 4), .ref 351], cl_h (ct_x v1 (.ref 320) v3 s0) g1 g2 g3 g4 (ct_e5 (.ref 256) (.ref 384) (cs_i s5 31 9 a0)) g6 g7 g8 g9 q)) tk_X8_promise (by omega) rfl ⟨h1, trivial⟩ ?_
    exact ec_X8_promise_E_c1 (by omega) H
  · rw [if_neg h1] at H
    cases q3 : f_X8_now_E s0 s5 with
    | none => rw [q3] at H; cases H
    | some r2 =>
     rw [q3] at H
     dsimp only at H
     refine pm_Wg.path (k := 5) (ds := [0]) (f' := (7, [some (.ref 0), some (.int a0), none], [.ref 0, .int a0], cl_h (ct_x v1 (.ref 320) v3 s0) g1 g2 g3 g4 (ct_e5 (.ref 256) (.ref 384) s5) g6 g7 g8 g9 q)) tk_X8_promise (by omega) rfl ⟨h1, trivial⟩ ?_
     refine pm_Wg.callV (m' := 114) (ix := 184) (rr := 173) (pl := 1234) (b := 0) (As := []) (S := [.int a0]) (by decide) rfl (pm_dec tk_X8_promise rfl) rfl rfl (by decide) rfl rfl (by decide) (Nat.le_of_ble_eq_true rfl) rfl (e_X8_now_E (by omega) q3) ?_
     by_cases h4 : a0 ≤ r2
     · rw [if_pos h4] at H
       have J := Option.some.inj H
       injection J with J0a J0z
       cases J0a
     · rw [if_neg h4] at H
       by_cases h5 : a0 ≤ 99999
       · rw [if_pos h5] at H
         refine pm_Wg.path (k := 23) (ds := [0, 1]) (f' := (82, [some (.ref 0), some (.int a0), some (.int (s5.1 31 9))], [.int ((cs_i s5 31 9 a0).1 0 4), .ref 351], cl_h (ct_x v1 (.ref 320) v3 s0) g1 g2 g3 g4 (ct_e5 (.ref 256) (.ref 384) (cs_i s5 31 9 a0)) g6 g7 g8 g9 q)) tk_X8_promise (by omega) rfl ⟨h5, h4, trivial⟩ ?_
         exact ec_X8_promise_E_c1 (by omega) H
       · rw [if_neg h5] at H
         have J := Option.some.inj H
         injection J with J0a J0z
         cases J0a
set_option maxRecDepth 20000 in
set_option maxHeartbeats 20000000 in
theorem ec_X8_promise_E_c1_t1 {d : Nat} (hd : 6 ≤ d) {g1 g2 g3 g4 g6 g7 g8 g9 : List pm_E} {v1 v3 : Value} {q : Nat × Nat × Nat} {s0 : cs_S} {s5 : cs_S} {l1 : Int32} {l2 : Int32} {k0 : Int32} {z5 : cs_S} (H : fc_X8_promise_E_c1 s0 s5 l1 l2 k0 = some (.inr 1, z5)) : pm_Wg 112 d (.inr "java/lang/IllegalArgumentException") (cl_h (ct_x v1 (.ref 320) v3 s0) g1 g2 g3 g4 (ct_e5 (.ref 256) (.ref 384) z5) g6 g7 g8 g9 (q.1, q.2.1 + 1, q.2.2 + 6)) (82, [some (.ref 0), some (.int l1), some (.int l2)], [.int k0, .ref 351], cl_h (ct_x v1 (.ref 320) v3 s0) g1 g2 g3 g4 (ct_e5 (.ref 256) (.ref 384) s5) g6 g7 g8 g9 q) := by
  obtain ⟨d, rfl⟩ : ∃ d', d = d' + 1 := ⟨d - 1, by omega⟩
  unfold fc_X8_promise_E_c1 at H
  try dsimp only at H
  have J := Option.some.inj H
  injection J with J0a J0z
  cases J0a
set_option maxRecDepth 20000 in
set_option maxHeartbeats 20000000 in
theorem e_X8_promise_E_t1 {d : Nat} (hd : 6 ≤ d) {g1 g2 g3 g4 g6 g7 g8 g9 : List pm_E} {v1 v3 : Value} {q : Nat × Nat × Nat} {s0 : cs_S} {s5 : cs_S} {a0 : Int32} {z5 : cs_S} (H : f_X8_promise_E s0 s5 a0 = some (.inr 1, z5)) : pm_Mt 112 d [.ref 0, .int a0] (cl_h (ct_x v1 (.ref 320) v3 s0) g1 g2 g3 g4 (ct_e5 (.ref 256) (.ref 384) s5) g6 g7 g8 g9 q) (.inr "java/lang/IllegalArgumentException") (cl_h (ct_x v1 (.ref 320) v3 s0) g1 g2 g3 g4 (ct_e5 (.ref 256) (.ref 384) z5) g6 g7 g8 g9 (q.1, q.2.1 + 1, q.2.2 + 6)) := by
  refine pm_Mt.of (by decide) (by decide +kernel) rfl rfl ?_
  obtain ⟨d, rfl⟩ : ∃ d', d = d' + 1 := ⟨d - 1, by omega⟩
  unfold f_X8_promise_E at H
  by_cases h1 : a0 = (-1)
  · rw [if_pos h1] at H
    refine pm_Wg.path (k := 22) (ds := [1]) (f' := (82, [some (.ref 0), some (.int a0), some (.int (s5.1 31 9))], [.int ((cs_i s5 31 9 a0).1 0 4), .ref 351], cl_h (ct_x v1 (.ref 320) v3 s0) g1 g2 g3 g4 (ct_e5 (.ref 256) (.ref 384) (cs_i s5 31 9 a0)) g6 g7 g8 g9 q)) tk_X8_promise (by omega) rfl ⟨h1, trivial⟩ ?_
    exact ec_X8_promise_E_c1_t1 (by omega) H
  · rw [if_neg h1] at H
    cases q3 : f_X8_now_E s0 s5 with
    | none => rw [q3] at H; cases H
    | some r2 =>
     rw [q3] at H
     dsimp only at H
     refine pm_Wg.path (k := 5) (ds := [0]) (f' := (7, [some (.ref 0), some (.int a0), none], [.ref 0, .int a0], cl_h (ct_x v1 (.ref 320) v3 s0) g1 g2 g3 g4 (ct_e5 (.ref 256) (.ref 384) s5) g6 g7 g8 g9 q)) tk_X8_promise (by omega) rfl ⟨h1, trivial⟩ ?_
     refine pm_Wg.callV (m' := 114) (ix := 184) (rr := 173) (pl := 1234) (b := 0) (As := []) (S := [.int a0]) (by decide) rfl (pm_dec tk_X8_promise rfl) rfl rfl (by decide) rfl rfl (by decide) (Nat.le_of_ble_eq_true rfl) rfl (e_X8_now_E (by omega) q3) ?_
     by_cases h4 : a0 ≤ r2
     · rw [if_pos h4] at H
       have J := Option.some.inj H
       injection J with J0a J0z
       subst J0z
       refine pm_Wg.path (k := 1) (ds := [1]) (f' := (19, [some (.ref 0), some (.int a0), none], [], cl_h (ct_x v1 (.ref 320) v3 s0) g1 g2 g3 g4 (ct_e5 (.ref 256) (.ref 384) s5) g6 g7 g8 g9 q)) tk_X8_promise (by omega) rfl ⟨h4, trivial⟩ ?_
       exact pm_Wg.throw (ik := 42) (ic := 46) (ix := 7) (rx := Bundle.six) (k := 27) rfl rfl (by omega) px_IAE rfl rfl (by decide +kernel) (by decide +kernel) (by decide +kernel) (by decide +kernel) (by decide +kernel) (Nat.le_of_ble_eq_true rfl)
     · rw [if_neg h4] at H
       by_cases h5 : a0 ≤ 99999
       · rw [if_pos h5] at H
         refine pm_Wg.path (k := 23) (ds := [0, 1]) (f' := (82, [some (.ref 0), some (.int a0), some (.int (s5.1 31 9))], [.int ((cs_i s5 31 9 a0).1 0 4), .ref 351], cl_h (ct_x v1 (.ref 320) v3 s0) g1 g2 g3 g4 (ct_e5 (.ref 256) (.ref 384) (cs_i s5 31 9 a0)) g6 g7 g8 g9 q)) tk_X8_promise (by omega) rfl ⟨h5, h4, trivial⟩ ?_
         exact ec_X8_promise_E_c1_t1 (by omega) H
       · rw [if_neg h5] at H
         have J := Option.some.inj H
         injection J with J0a J0z
         subst J0z
         refine pm_Wg.path (k := 4) (ds := [0, 0]) (f' := (19, [some (.ref 0), some (.int a0), none], [], cl_h (ct_x v1 (.ref 320) v3 s0) g1 g2 g3 g4 (ct_e5 (.ref 256) (.ref 384) s5) g6 g7 g8 g9 q)) tk_X8_promise (by omega) rfl ⟨h5, h4, trivial⟩ ?_
         exact pm_Wg.throw (ik := 42) (ic := 46) (ix := 7) (rx := Bundle.six) (k := 27) rfl rfl (by omega) px_IAE rfl rfl (by decide +kernel) (by decide +kernel) (by decide +kernel) (by decide +kernel) (by decide +kernel) (Nat.le_of_ble_eq_true rfl)

def tb_X8_setShare : List pm_I := [(0, .aload_n 0, 0, 0), (1, .getfield 20, 13, 0), (4, .ifnull 18, 22, 0), (7, .aload_n 0, 0, 0), (8, .getfield 20, 13, 0), (11, .getfield 79, 98, 0), (14, .iload_n 1, 0, 0), (15, .iconst 0, 2, 0), (16, .invokevirtual 132, 163, 0), (19, .ifCond .ne 13, 32, 0), (32, .iload_n 2, 0, 0), (33, .iload_n 3, 0, 0), (34, .iload 4, 0, 0), (36, .invokestatic 201, 178, 0), (39, .ifCond .ne 13, 52, 0), (52, .aload_n 0, 0, 0), (53, .getfield 20, 13, 0), (56, .getfield 79, 98, 0), (59, .getfield 138, 138, 0), (62, .iload_n 1, 0, 0), (63, .iaload, 0, 0), (64, .istore 5, 0, 0), (66, .aload_n 0, 0, 0), (67, .getfield 20, 13, 0), (70, .getfield 79, 98, 0), (73, .getfield 138, 138, 0), (76, .iload_n 1, 0, 0), (77, .iload_n 2, 0, 0), (78, .iastore, 0, 0), (79, .aload_n 0, 0, 0), (80, .getfield 20, 13, 0), (83, .getfield 79, 98, 0), (86, .getfield 142, 142, 0), (89, .iload_n 1, 0, 0), (90, .iload_n 3, 0, 0), (91, .iastore, 0, 0), (92, .aload_n 0, 0, 0), (93, .getfield 20, 13, 0), (96, .getfield 79, 98, 0), (99, .getfield 145, 145, 0), (102, .iload_n 1, 0, 0), (103, .iload 4, 0, 0), (105, .iastore, 0, 0), (106, .iload 5, 0, 0), (108, .ireturn, 0, 0)]
theorem tk_X8_setShare : ∀ e ∈ tb_X8_setShare, pm_ck 113 e = true := List.all_eq_true.mp (by decide +kernel)

def f_X8_setShare_N (s0 : cs_S) (a0 : Int32) (a1 : Int32) (a2 : Int32) (a3 : Int32) : Option ((Int32 ⊕ Nat)) :=
  some (.inr 2)
set_option maxRecDepth 20000 in
set_option maxHeartbeats 20000000 in
theorem e_X8_setShare_N_t2 {d : Nat} (hd : 6 ≤ d) {g1 g2 g3 g4 g5 g6 g7 g8 g9 : List pm_E} {v1 v3 : Value} {q : Nat × Nat × Nat} {s0 : cs_S} {a0 : Int32} {a1 : Int32} {a2 : Int32} {a3 : Int32} (H : f_X8_setShare_N s0 a0 a1 a2 a3 = some (.inr 2)) : pm_Mt 113 d [.ref 0, .int a0, .int a1, .int a2, .int a3] (cl_h (ct_x v1 (.null) v3 s0) g1 g2 g3 g4 g5 g6 g7 g8 g9 q) (.inr "java/util/NoSuchElementException") (cl_h (ct_x v1 (.null) v3 s0) g1 g2 g3 g4 g5 g6 g7 g8 g9 (q.1, q.2.1 + 1, q.2.2 + 6)) := by
  refine pm_Mt.of (by decide) (by decide +kernel) rfl rfl ?_
  obtain ⟨d, rfl⟩ : ∃ d', d = d' + 1 := ⟨d - 1, by omega⟩
  unfold f_X8_setShare_N at H
  have J := Option.some.inj H
  refine pm_Wg.path (k := 3) (ds := []) (f' := (22, [some (.ref 0), some (.int a0), some (.int a1), some (.int a2), some (.int a3), none], [], cl_h (ct_x v1 (.null) v3 s0) g1 g2 g3 g4 g5 g6 g7 g8 g9 q)) tk_X8_setShare (by omega) rfl trivial ?_
  exact pm_Wg.throw (ik := 112) (ic := 116) (ix := 13) (rx := px_rx13) (k := 19) rfl rfl (by omega) px_NSE rfl rfl (by decide +kernel) (by decide +kernel) (by decide +kernel) (by decide +kernel) (by decide +kernel) (Nat.le_of_ble_eq_true rfl)

def fc_X8_setShare_E_c2 (s0 : cs_S) (s4 : cs_S) (s5 : cs_S) (l1 : Int32) (l2 : Int32) (l3 : Int32) (l4 : Int32) (l5 : Int32) (k0 : Int32) (k1 : Int32) : Option ((Int32 ⊕ Nat) × cs_S) :=
  (match pm_inb k1 6 with
  | false => none
  | true =>
  some (.inl l5, (cs_a s4 3 k1 k0)))
def fc_X8_setShare_E_c1 (s0 : cs_S) (s4 : cs_S) (s5 : cs_S) (l1 : Int32) (l2 : Int32) (l3 : Int32) (l4 : Int32) (l5 : Int32) (k0 : Int32) (k1 : Int32) : Option ((Int32 ⊕ Nat) × cs_S) :=
  (match pm_inb k1 6 with
  | false => none
  | true =>
  (fc_X8_setShare_E_c2 s0 (cs_a s4 2 k1 k0) s5 l1 l2 l3 l4 l5 l4 l1))
def f_X8_setShare_E (s0 : cs_S) (s4 : cs_S) (s5 : cs_S) (a0 : Int32) (a1 : Int32) (a2 : Int32) (a3 : Int32) : Option ((Int32 ⊕ Nat) × cs_S) :=
  (match f_X2_hasTenant s4 a0 0 with
  | none => none
  | some r1 =>
   (if r1 = 0 then
    some (.inr 2, s4)
   else
    (match f_X2_isShare a1 a2 a3 with
    | none => none
    | some r4 =>
     (if r4 = 0 then
      some (.inr 1, s4)
     else
      (match pm_inb a0 6 with
      | false => none
      | true =>
      (fc_X8_setShare_E_c1 s0 (cs_a s4 1 a0 a1) s5 a0 a1 a2 a3 (s4.2.1 1 (Int32.toNatClampNeg a0)) a2 a0))))))
set_option maxRecDepth 20000 in
set_option maxHeartbeats 20000000 in
theorem ec_X8_setShare_E_c2 {d : Nat} (hd : 6 ≤ d) {g1 g2 g3 g6 g7 g8 g9 : List pm_E} {v1 v3 : Value} {q : Nat × Nat × Nat} {s0 : cs_S} {s4 : cs_S} {s5 : cs_S} {l1 : Int32} {l2 : Int32} {l3 : Int32} {l4 : Int32} {l5 : Int32} {k0 : Int32} {k1 : Int32} {r : Int32} {z4 : cs_S} (H : fc_X8_setShare_E_c2 s0 s4 s5 l1 l2 l3 l4 l5 k0 k1 = some (.inl r, z4)) : pm_Wg 113 d (.inl (some (.int r))) (cl_h (ct_x v1 (.ref 320) v3 s0) g1 g2 g3 (ct_p4 z4) (ct_e5 (.ref 256) (.ref 384) s5) g6 g7 g8 g9 q) (105, [some (.ref 0), some (.int l1), some (.int l2), some (.int l3), some (.int l4), some (.int l5)], [.int k0, .int k1, .ref 259], cl_h (ct_x v1 (.ref 320) v3 s0) g1 g2 g3 (ct_p4 s4) (ct_e5 (.ref 256) (.ref 384) s5) g6 g7 g8 g9 q) := by
  obtain ⟨d, rfl⟩ : ∃ d', d = d' + 1 := ⟨d - 1, by omega⟩
  unfold fc_X8_setShare_E_c2 at H
  try dsimp only at H
  cases b10 : pm_inb k1 6 with
  | false => rw [b10] at H; cases H
  | true =>
   rw [b10] at H
   dsimp only at H
   have J := Option.some.inj H
   injection J with J0a J0z
   injection J0a with JR
   subst JR
   subst J0z
   refine pm_Wg.path (k := 2) (ds := []) (f' := (108, [some (.ref 0), some (.int l1), some (.int l2), some (.int l3), some (.int l4), some (.int l5)], [.int l5], cl_h (ct_x v1 (.ref 320) v3 s0) g1 g2 g3 (ct_p4 (cs_a s4 3 k1 k0)) (ct_e5 (.ref 256) (.ref 384) s5) g6 g7 g8 g9 q)) tk_X8_setShare (by omega) rfl ⟨pm_inb_vp b10, trivial⟩ ?_
   exact pm_Wg.iret (pm_dec tk_X8_setShare rfl) rfl rfl
set_option maxRecDepth 20000 in
set_option maxHeartbeats 20000000 in
theorem ec_X8_setShare_E_c1 {d : Nat} (hd : 6 ≤ d) {g1 g2 g3 g6 g7 g8 g9 : List pm_E} {v1 v3 : Value} {q : Nat × Nat × Nat} {s0 : cs_S} {s4 : cs_S} {s5 : cs_S} {l1 : Int32} {l2 : Int32} {l3 : Int32} {l4 : Int32} {l5 : Int32} {k0 : Int32} {k1 : Int32} {r : Int32} {z4 : cs_S} (H : fc_X8_setShare_E_c1 s0 s4 s5 l1 l2 l3 l4 l5 k0 k1 = some (.inl r, z4)) : pm_Wg 113 d (.inl (some (.int r))) (cl_h (ct_x v1 (.ref 320) v3 s0) g1 g2 g3 (ct_p4 z4) (ct_e5 (.ref 256) (.ref 384) s5) g6 g7 g8 g9 q) (91, [some (.ref 0), some (.int l1), some (.int l2), some (.int l3), some (.int l4), some (.int l5)], [.int k0, .int k1, .ref 258], cl_h (ct_x v1 (.ref 320) v3 s0) g1 g2 g3 (ct_p4 s4) (ct_e5 (.ref 256) (.ref 384) s5) g6 g7 g8 g9 q) := by
  obtain ⟨d, rfl⟩ : ∃ d', d = d' + 1 := ⟨d - 1, by omega⟩
  unfold fc_X8_setShare_E_c1 at H
  try dsimp only at H
  cases b9 : pm_inb k1 6 with
  | false => rw [b9] at H; cases H
  | true =>
   rw [b9] at H
   dsimp only at H
   refine pm_Wg.path (k := 7) (ds := []) (f' := (105, [some (.ref 0), some (.int l1), some (.int l2), some (.int l3), some (.int l4), some (.int l5)], [.int l4, .int l1, .ref 259], cl_h (ct_x v1 (.ref 320) v3 s0) g1 g2 g3 (ct_p4 (cs_a s4 2 k1 k0)) (ct_e5 (.ref 256) (.ref 384) s5) g6 g7 g8 g9 q)) tk_X8_setShare (by omega) rfl ⟨pm_inb_vp b9, trivial⟩ ?_
   exact ec_X8_setShare_E_c2 (by omega) H
set_option maxRecDepth 20000 in
set_option maxHeartbeats 20000000 in
theorem e_X8_setShare_E {d : Nat} (hd : 6 ≤ d) {g1 g2 g3 g6 g7 g8 g9 : List pm_E} {v1 v3 : Value} {q : Nat × Nat × Nat} {s0 : cs_S} {s4 : cs_S} {s5 : cs_S} {a0 : Int32} {a1 : Int32} {a2 : Int32} {a3 : Int32} {r : Int32} {z4 : cs_S} (H : f_X8_setShare_E s0 s4 s5 a0 a1 a2 a3 = some (.inl r, z4)) : pm_Mt 113 d [.ref 0, .int a0, .int a1, .int a2, .int a3] (cl_h (ct_x v1 (.ref 320) v3 s0) g1 g2 g3 (ct_p4 s4) (ct_e5 (.ref 256) (.ref 384) s5) g6 g7 g8 g9 q) (.inl (some (.int r))) (cl_h (ct_x v1 (.ref 320) v3 s0) g1 g2 g3 (ct_p4 z4) (ct_e5 (.ref 256) (.ref 384) s5) g6 g7 g8 g9 q) := by
  refine pm_Mt.of (by decide) (by decide +kernel) rfl rfl ?_
  obtain ⟨d, rfl⟩ : ∃ d', d = d' + 1 := ⟨d - 1, by omega⟩
  unfold f_X8_setShare_E at H
  cases q2 : f_X2_hasTenant s4 a0 0 with
  | none => rw [q2] at H; cases H
  | some r1 =>
   rw [q2] at H
   dsimp only at H
   refine pm_Wg.path (k := 8) (ds := []) (f' := (16, [some (.ref 0), some (.int a0), some (.int a1), some (.int a2), some (.int a3), none], [.int 0, .int a0, .ref 256], cl_h (ct_x v1 (.ref 320) v3 s0) g1 g2 g3 (ct_p4 s4) (ct_e5 (.ref 256) (.ref 384) s5) g6 g7 g8 g9 q)) tk_X8_setShare (by omega) rfl trivial ?_
   refine pm_Wg.callV (m' := 33) (ix := 132) (rr := 163) (pl := 1193) (b := 256) (As := [.int a0, .int 0]) (S := []) (by decide) rfl (pm_dec tk_X8_setShare rfl) rfl rfl (by decide) rfl rfl (by decide) (Nat.le_of_ble_eq_true rfl) rfl (e_X2_hasTenant (by omega) q2) ?_
   by_cases h3 : r1 = 0
   · rw [if_pos h3] at H
     have J := Option.some.inj H
     injection J with J0a J0z
     cases J0a
   · rw [if_neg h3] at H
     cases q5 : f_X2_isShare a1 a2 a3 with
     | none => rw [q5] at H; cases H
     | some r4 =>
      rw [q5] at H
      dsimp only at H
      refine pm_Wg.path (k := 4) (ds := [1]) (f' := (36, [some (.ref 0), some (.int a0), some (.int a1), some (.int a2), some (.int a3), none], [.int a3, .int a2, .int a1], cl_h (ct_x v1 (.ref 320) v3 s0) g1 g2 g3 (ct_p4 s4) (ct_e5 (.ref 256) (.ref 384) s5) g6 g7 g8 g9 q)) tk_X8_setShare (by omega) rfl ⟨h3, trivial⟩ ?_
      refine pm_Wg.callS (m' := 31) (ix := 201) (rr := 178) (pl := 1251) (As := [.int a1, .int a2, .int a3]) (S := []) (by decide) rfl (pm_dec tk_X8_setShare rfl) rfl rfl rfl (Nat.le_of_ble_eq_true rfl) rfl (e_X2_isShare (by omega) q5) ?_
      by_cases h6 : r4 = 0
      · rw [if_pos h6] at H
        have J := Option.some.inj H
        injection J with J0a J0z
        cases J0a
      · rw [if_neg h6] at H
        cases b7 : pm_inb a0 6 with
        | false => rw [b7] at H; cases H
        | true =>
         rw [b7] at H
         dsimp only at H
         refine pm_Wg.path (k := 21) (ds := [1]) (f' := (91, [some (.ref 0), some (.int a0), some (.int a1), some (.int a2), some (.int a3), some (.int (s4.2.1 1 (Int32.toNatClampNeg a0)))], [.int a2, .int a0, .ref 258], cl_h (ct_x v1 (.ref 320) v3 s0) g1 g2 g3 (ct_p4 (cs_a s4 1 a0 a1)) (ct_e5 (.ref 256) (.ref 384) s5) g6 g7 g8 g9 q)) tk_X8_setShare (by omega) rfl ⟨pm_inb_vp b7, pm_inb_vp b7, h6, trivial⟩ ?_
         exact ec_X8_setShare_E_c1 (by omega) H
set_option maxRecDepth 20000 in
set_option maxHeartbeats 20000000 in
theorem ec_X8_setShare_E_c2_t1 {d : Nat} (hd : 6 ≤ d) {g1 g2 g3 g6 g7 g8 g9 : List pm_E} {v1 v3 : Value} {q : Nat × Nat × Nat} {s0 : cs_S} {s4 : cs_S} {s5 : cs_S} {l1 : Int32} {l2 : Int32} {l3 : Int32} {l4 : Int32} {l5 : Int32} {k0 : Int32} {k1 : Int32} {z4 : cs_S} (H : fc_X8_setShare_E_c2 s0 s4 s5 l1 l2 l3 l4 l5 k0 k1 = some (.inr 1, z4)) : pm_Wg 113 d (.inr "java/lang/IllegalArgumentException") (cl_h (ct_x v1 (.ref 320) v3 s0) g1 g2 g3 (ct_p4 z4) (ct_e5 (.ref 256) (.ref 384) s5) g6 g7 g8 g9 (q.1, q.2.1 + 1, q.2.2 + 6)) (105, [some (.ref 0), some (.int l1), some (.int l2), some (.int l3), some (.int l4), some (.int l5)], [.int k0, .int k1, .ref 259], cl_h (ct_x v1 (.ref 320) v3 s0) g1 g2 g3 (ct_p4 s4) (ct_e5 (.ref 256) (.ref 384) s5) g6 g7 g8 g9 q) := by
  obtain ⟨d, rfl⟩ : ∃ d', d = d' + 1 := ⟨d - 1, by omega⟩
  unfold fc_X8_setShare_E_c2 at H
  try dsimp only at H
  cases b10 : pm_inb k1 6 with
  | false => rw [b10] at H; cases H
  | true =>
   rw [b10] at H
   dsimp only at H
   have J := Option.some.inj H
   injection J with J0a J0z
   cases J0a
set_option maxRecDepth 20000 in
set_option maxHeartbeats 20000000 in
theorem ec_X8_setShare_E_c1_t1 {d : Nat} (hd : 6 ≤ d) {g1 g2 g3 g6 g7 g8 g9 : List pm_E} {v1 v3 : Value} {q : Nat × Nat × Nat} {s0 : cs_S} {s4 : cs_S} {s5 : cs_S} {l1 : Int32} {l2 : Int32} {l3 : Int32} {l4 : Int32} {l5 : Int32} {k0 : Int32} {k1 : Int32} {z4 : cs_S} (H : fc_X8_setShare_E_c1 s0 s4 s5 l1 l2 l3 l4 l5 k0 k1 = some (.inr 1, z4)) : pm_Wg 113 d (.inr "java/lang/IllegalArgumentException") (cl_h (ct_x v1 (.ref 320) v3 s0) g1 g2 g3 (ct_p4 z4) (ct_e5 (.ref 256) (.ref 384) s5) g6 g7 g8 g9 (q.1, q.2.1 + 1, q.2.2 + 6)) (91, [some (.ref 0), some (.int l1), some (.int l2), some (.int l3), some (.int l4), some (.int l5)], [.int k0, .int k1, .ref 258], cl_h (ct_x v1 (.ref 320) v3 s0) g1 g2 g3 (ct_p4 s4) (ct_e5 (.ref 256) (.ref 384) s5) g6 g7 g8 g9 q) := by
  obtain ⟨d, rfl⟩ : ∃ d', d = d' + 1 := ⟨d - 1, by omega⟩
  unfold fc_X8_setShare_E_c1 at H
  try dsimp only at H
  cases b9 : pm_inb k1 6 with
  | false => rw [b9] at H; cases H
  | true =>
   rw [b9] at H
   dsimp only at H
   refine pm_Wg.path (k := 7) (ds := []) (f' := (105, [some (.ref 0), some (.int l1), some (.int l2), some (.int l3), some (.int l4), some (.int l5)], [.int l4, .int l1, .ref 259], cl_h (ct_x v1 (.ref 320) v3 s0) g1 g2 g3 (ct_p4 (cs_a s4 2 k1 k0)) (ct_e5 (.ref 256) (.ref 384) s5) g6 g7 g8 g9 q)) tk_X8_setShare (by omega) rfl ⟨pm_inb_vp b9, trivial⟩ ?_
   exact ec_X8_setShare_E_c2_t1 (by omega) H
set_option maxRecDepth 20000 in
set_option maxHeartbeats 20000000 in
theorem e_X8_setShare_E_t1 {d : Nat} (hd : 6 ≤ d) {g1 g2 g3 g6 g7 g8 g9 : List pm_E} {v1 v3 : Value} {q : Nat × Nat × Nat} {s0 : cs_S} {s4 : cs_S} {s5 : cs_S} {a0 : Int32} {a1 : Int32} {a2 : Int32} {a3 : Int32} {z4 : cs_S} (H : f_X8_setShare_E s0 s4 s5 a0 a1 a2 a3 = some (.inr 1, z4)) : pm_Mt 113 d [.ref 0, .int a0, .int a1, .int a2, .int a3] (cl_h (ct_x v1 (.ref 320) v3 s0) g1 g2 g3 (ct_p4 s4) (ct_e5 (.ref 256) (.ref 384) s5) g6 g7 g8 g9 q) (.inr "java/lang/IllegalArgumentException") (cl_h (ct_x v1 (.ref 320) v3 s0) g1 g2 g3 (ct_p4 z4) (ct_e5 (.ref 256) (.ref 384) s5) g6 g7 g8 g9 (q.1, q.2.1 + 1, q.2.2 + 6)) := by
  refine pm_Mt.of (by decide) (by decide +kernel) rfl rfl ?_
  obtain ⟨d, rfl⟩ : ∃ d', d = d' + 1 := ⟨d - 1, by omega⟩
  unfold f_X8_setShare_E at H
  cases q2 : f_X2_hasTenant s4 a0 0 with
  | none => rw [q2] at H; cases H
  | some r1 =>
   rw [q2] at H
   dsimp only at H
   refine pm_Wg.path (k := 8) (ds := []) (f' := (16, [some (.ref 0), some (.int a0), some (.int a1), some (.int a2), some (.int a3), none], [.int 0, .int a0, .ref 256], cl_h (ct_x v1 (.ref 320) v3 s0) g1 g2 g3 (ct_p4 s4) (ct_e5 (.ref 256) (.ref 384) s5) g6 g7 g8 g9 q)) tk_X8_setShare (by omega) rfl trivial ?_
   refine pm_Wg.callV (m' := 33) (ix := 132) (rr := 163) (pl := 1193) (b := 256) (As := [.int a0, .int 0]) (S := []) (by decide) rfl (pm_dec tk_X8_setShare rfl) rfl rfl (by decide) rfl rfl (by decide) (Nat.le_of_ble_eq_true rfl) rfl (e_X2_hasTenant (by omega) q2) ?_
   by_cases h3 : r1 = 0
   · rw [if_pos h3] at H
     have J := Option.some.inj H
     injection J with J0a J0z
     cases J0a
   · rw [if_neg h3] at H
     cases q5 : f_X2_isShare a1 a2 a3 with
     | none => rw [q5] at H; cases H
     | some r4 =>
      rw [q5] at H
      dsimp only at H
      refine pm_Wg.path (k := 4) (ds := [1]) (f' := (36, [some (.ref 0), some (.int a0), some (.int a1), some (.int a2), some (.int a3), none], [.int a3, .int a2, .int a1], cl_h (ct_x v1 (.ref 320) v3 s0) g1 g2 g3 (ct_p4 s4) (ct_e5 (.ref 256) (.ref 384) s5) g6 g7 g8 g9 q)) tk_X8_setShare (by omega) rfl ⟨h3, trivial⟩ ?_
      refine pm_Wg.callS (m' := 31) (ix := 201) (rr := 178) (pl := 1251) (As := [.int a1, .int a2, .int a3]) (S := []) (by decide) rfl (pm_dec tk_X8_setShare rfl) rfl rfl rfl (Nat.le_of_ble_eq_true rfl) rfl (e_X2_isShare (by omega) q5) ?_
      by_cases h6 : r4 = 0
      · rw [if_pos h6] at H
        have J := Option.some.inj H
        injection J with J0a J0z
        subst J0z
        refine pm_Wg.path (k := 1) (ds := [0]) (f' := (42, [some (.ref 0), some (.int a0), some (.int a1), some (.int a2), some (.int a3), none], [], cl_h (ct_x v1 (.ref 320) v3 s0) g1 g2 g3 (ct_p4 s4) (ct_e5 (.ref 256) (.ref 384) s5) g6 g7 g8 g9 q)) tk_X8_setShare (by omega) rfl ⟨h6, trivial⟩ ?_
        exact pm_Wg.throw (ik := 42) (ic := 46) (ix := 7) (rx := Bundle.six) (k := 28) rfl rfl (by omega) px_IAE rfl rfl (by decide +kernel) (by decide +kernel) (by decide +kernel) (by decide +kernel) (by decide +kernel) (Nat.le_of_ble_eq_true rfl)
      · rw [if_neg h6] at H
        cases b7 : pm_inb a0 6 with
        | false => rw [b7] at H; cases H
        | true =>
         rw [b7] at H
         dsimp only at H
         refine pm_Wg.path (k := 21) (ds := [1]) (f' := (91, [some (.ref 0), some (.int a0), some (.int a1), some (.int a2), some (.int a3), some (.int (s4.2.1 1 (Int32.toNatClampNeg a0)))], [.int a2, .int a0, .ref 258], cl_h (ct_x v1 (.ref 320) v3 s0) g1 g2 g3 (ct_p4 (cs_a s4 1 a0 a1)) (ct_e5 (.ref 256) (.ref 384) s5) g6 g7 g8 g9 q)) tk_X8_setShare (by omega) rfl ⟨pm_inb_vp b7, pm_inb_vp b7, h6, trivial⟩ ?_
         exact ec_X8_setShare_E_c1_t1 (by omega) H
set_option maxRecDepth 20000 in
set_option maxHeartbeats 20000000 in
theorem ec_X8_setShare_E_c2_t2 {d : Nat} (hd : 6 ≤ d) {g1 g2 g3 g6 g7 g8 g9 : List pm_E} {v1 v3 : Value} {q : Nat × Nat × Nat} {s0 : cs_S} {s4 : cs_S} {s5 : cs_S} {l1 : Int32} {l2 : Int32} {l3 : Int32} {l4 : Int32} {l5 : Int32} {k0 : Int32} {k1 : Int32} {z4 : cs_S} (H : fc_X8_setShare_E_c2 s0 s4 s5 l1 l2 l3 l4 l5 k0 k1 = some (.inr 2, z4)) : pm_Wg 113 d (.inr "java/util/NoSuchElementException") (cl_h (ct_x v1 (.ref 320) v3 s0) g1 g2 g3 (ct_p4 z4) (ct_e5 (.ref 256) (.ref 384) s5) g6 g7 g8 g9 (q.1, q.2.1 + 1, q.2.2 + 6)) (105, [some (.ref 0), some (.int l1), some (.int l2), some (.int l3), some (.int l4), some (.int l5)], [.int k0, .int k1, .ref 259], cl_h (ct_x v1 (.ref 320) v3 s0) g1 g2 g3 (ct_p4 s4) (ct_e5 (.ref 256) (.ref 384) s5) g6 g7 g8 g9 q) := by
  obtain ⟨d, rfl⟩ : ∃ d', d = d' + 1 := ⟨d - 1, by omega⟩
  unfold fc_X8_setShare_E_c2 at H
  try dsimp only at H
  cases b10 : pm_inb k1 6 with
  | false => rw [b10] at H; cases H
  | true =>
   rw [b10] at H
   dsimp only at H
   have J := Option.some.inj H
   injection J with J0a J0z
   cases J0a
set_option maxRecDepth 20000 in
set_option maxHeartbeats 20000000 in
theorem ec_X8_setShare_E_c1_t2 {d : Nat} (hd : 6 ≤ d) {g1 g2 g3 g6 g7 g8 g9 : List pm_E} {v1 v3 : Value} {q : Nat × Nat × Nat} {s0 : cs_S} {s4 : cs_S} {s5 : cs_S} {l1 : Int32} {l2 : Int32} {l3 : Int32} {l4 : Int32} {l5 : Int32} {k0 : Int32} {k1 : Int32} {z4 : cs_S} (H : fc_X8_setShare_E_c1 s0 s4 s5 l1 l2 l3 l4 l5 k0 k1 = some (.inr 2, z4)) : pm_Wg 113 d (.inr "java/util/NoSuchElementException") (cl_h (ct_x v1 (.ref 320) v3 s0) g1 g2 g3 (ct_p4 z4) (ct_e5 (.ref 256) (.ref 384) s5) g6 g7 g8 g9 (q.1, q.2.1 + 1, q.2.2 + 6)) (91, [some (.ref 0), some (.int l1), some (.int l2), some (.int l3), some (.int l4), some (.int l5)], [.int k0, .int k1, .ref 258], cl_h (ct_x v1 (.ref 320) v3 s0) g1 g2 g3 (ct_p4 s4) (ct_e5 (.ref 256) (.ref 384) s5) g6 g7 g8 g9 q) := by
  obtain ⟨d, rfl⟩ : ∃ d', d = d' + 1 := ⟨d - 1, by omega⟩
  unfold fc_X8_setShare_E_c1 at H
  try dsimp only at H
  cases b9 : pm_inb k1 6 with
  | false => rw [b9] at H; cases H
  | true =>
   rw [b9] at H
   dsimp only at H
   refine pm_Wg.path (k := 7) (ds := []) (f' := (105, [some (.ref 0), some (.int l1), some (.int l2), some (.int l3), some (.int l4), some (.int l5)], [.int l4, .int l1, .ref 259], cl_h (ct_x v1 (.ref 320) v3 s0) g1 g2 g3 (ct_p4 (cs_a s4 2 k1 k0)) (ct_e5 (.ref 256) (.ref 384) s5) g6 g7 g8 g9 q)) tk_X8_setShare (by omega) rfl ⟨pm_inb_vp b9, trivial⟩ ?_
   exact ec_X8_setShare_E_c2_t2 (by omega) H
set_option maxRecDepth 20000 in
set_option maxHeartbeats 20000000 in
theorem e_X8_setShare_E_t2 {d : Nat} (hd : 6 ≤ d) {g1 g2 g3 g6 g7 g8 g9 : List pm_E} {v1 v3 : Value} {q : Nat × Nat × Nat} {s0 : cs_S} {s4 : cs_S} {s5 : cs_S} {a0 : Int32} {a1 : Int32} {a2 : Int32} {a3 : Int32} {z4 : cs_S} (H : f_X8_setShare_E s0 s4 s5 a0 a1 a2 a3 = some (.inr 2, z4)) : pm_Mt 113 d [.ref 0, .int a0, .int a1, .int a2, .int a3] (cl_h (ct_x v1 (.ref 320) v3 s0) g1 g2 g3 (ct_p4 s4) (ct_e5 (.ref 256) (.ref 384) s5) g6 g7 g8 g9 q) (.inr "java/util/NoSuchElementException") (cl_h (ct_x v1 (.ref 320) v3 s0) g1 g2 g3 (ct_p4 z4) (ct_e5 (.ref 256) (.ref 384) s5) g6 g7 g8 g9 (q.1, q.2.1 + 1, q.2.2 + 6)) := by
  refine pm_Mt.of (by decide) (by decide +kernel) rfl rfl ?_
  obtain ⟨d, rfl⟩ : ∃ d', d = d' + 1 := ⟨d - 1, by omega⟩
  unfold f_X8_setShare_E at H
  cases q2 : f_X2_hasTenant s4 a0 0 with
  | none => rw [q2] at H; cases H
  | some r1 =>
   rw [q2] at H
   dsimp only at H
   refine pm_Wg.path (k := 8) (ds := []) (f' := (16, [some (.ref 0), some (.int a0), some (.int a1), some (.int a2), some (.int a3), none], [.int 0, .int a0, .ref 256], cl_h (ct_x v1 (.ref 320) v3 s0) g1 g2 g3 (ct_p4 s4) (ct_e5 (.ref 256) (.ref 384) s5) g6 g7 g8 g9 q)) tk_X8_setShare (by omega) rfl trivial ?_
   refine pm_Wg.callV (m' := 33) (ix := 132) (rr := 163) (pl := 1193) (b := 256) (As := [.int a0, .int 0]) (S := []) (by decide) rfl (pm_dec tk_X8_setShare rfl) rfl rfl (by decide) rfl rfl (by decide) (Nat.le_of_ble_eq_true rfl) rfl (e_X2_hasTenant (by omega) q2) ?_
   by_cases h3 : r1 = 0
   · rw [if_pos h3] at H
     have J := Option.some.inj H
     injection J with J0a J0z
     subst J0z
     refine pm_Wg.path (k := 1) (ds := [0]) (f' := (22, [some (.ref 0), some (.int a0), some (.int a1), some (.int a2), some (.int a3), none], [], cl_h (ct_x v1 (.ref 320) v3 s0) g1 g2 g3 (ct_p4 s4) (ct_e5 (.ref 256) (.ref 384) s5) g6 g7 g8 g9 q)) tk_X8_setShare (by omega) rfl ⟨h3, trivial⟩ ?_
     exact pm_Wg.throw (ik := 112) (ic := 116) (ix := 13) (rx := px_rx13) (k := 19) rfl rfl (by omega) px_NSE rfl rfl (by decide +kernel) (by decide +kernel) (by decide +kernel) (by decide +kernel) (by decide +kernel) (Nat.le_of_ble_eq_true rfl)
   · rw [if_neg h3] at H
     cases q5 : f_X2_isShare a1 a2 a3 with
     | none => rw [q5] at H; cases H
     | some r4 =>
      rw [q5] at H
      dsimp only at H
      refine pm_Wg.path (k := 4) (ds := [1]) (f' := (36, [some (.ref 0), some (.int a0), some (.int a1), some (.int a2), some (.int a3), none], [.int a3, .int a2, .int a1], cl_h (ct_x v1 (.ref 320) v3 s0) g1 g2 g3 (ct_p4 s4) (ct_e5 (.ref 256) (.ref 384) s5) g6 g7 g8 g9 q)) tk_X8_setShare (by omega) rfl ⟨h3, trivial⟩ ?_
      refine pm_Wg.callS (m' := 31) (ix := 201) (rr := 178) (pl := 1251) (As := [.int a1, .int a2, .int a3]) (S := []) (by decide) rfl (pm_dec tk_X8_setShare rfl) rfl rfl rfl (Nat.le_of_ble_eq_true rfl) rfl (e_X2_isShare (by omega) q5) ?_
      by_cases h6 : r4 = 0
      · rw [if_pos h6] at H
        have J := Option.some.inj H
        injection J with J0a J0z
        cases J0a
      · rw [if_neg h6] at H
        cases b7 : pm_inb a0 6 with
        | false => rw [b7] at H; cases H
        | true =>
         rw [b7] at H
         dsimp only at H
         refine pm_Wg.path (k := 21) (ds := [1]) (f' := (91, [some (.ref 0), some (.int a0), some (.int a1), some (.int a2), some (.int a3), some (.int (s4.2.1 1 (Int32.toNatClampNeg a0)))], [.int a2, .int a0, .ref 258], cl_h (ct_x v1 (.ref 320) v3 s0) g1 g2 g3 (ct_p4 (cs_a s4 1 a0 a1)) (ct_e5 (.ref 256) (.ref 384) s5) g6 g7 g8 g9 q)) tk_X8_setShare (by omega) rfl ⟨pm_inb_vp b7, pm_inb_vp b7, h6, trivial⟩ ?_
         exact ec_X8_setShare_E_c1_t2 (by omega) H

def tb_X8_failedDisk : List pm_I := [(0, .aload_n 0, 0, 0), (1, .getfield 20, 13, 0), (4, .ifnonnull 7, 11, 0), (7, .iconst (-1), 1, 0), (8, .goto 13, 21, 0), (11, .aload_n 0, 0, 0), (12, .getfield 20, 13, 0), (15, .getfield 170, 114, 0), (18, .getfield 174, 72, 0), (21, .ireturn, 0, 0)]
theorem tk_X8_failedDisk : ∀ e ∈ tb_X8_failedDisk, pm_ck 115 e = true := List.all_eq_true.mp (by decide +kernel)

def f_X8_failedDisk_N (s0 : cs_S) : Option (Int32) :=
  some (-1)
set_option maxRecDepth 20000 in
set_option maxHeartbeats 20000000 in
theorem e_X8_failedDisk_N {d : Nat} (hd : 1 ≤ d) {g1 g2 g3 g4 g5 g6 g7 g8 g9 : List pm_E} {v1 v3 : Value} {q : Nat × Nat × Nat} {s0 : cs_S} {r : Int32} (H : f_X8_failedDisk_N s0 = some r) : pm_Mt 115 d [.ref 0] (cl_h (ct_x v1 (.null) v3 s0) g1 g2 g3 g4 g5 g6 g7 g8 g9 q) (.inl (some (.int r))) (cl_h (ct_x v1 (.null) v3 s0) g1 g2 g3 g4 g5 g6 g7 g8 g9 q) := by
  refine pm_Mt.of (by decide) (by decide +kernel) rfl rfl ?_
  unfold f_X8_failedDisk_N at H
  have J := Option.some.inj H
  subst J
  refine pm_Wg.path (k := 5) (ds := []) (f' := (21, [some (.ref 0)], [.int (-1)], cl_h (ct_x v1 (.null) v3 s0) g1 g2 g3 g4 g5 g6 g7 g8 g9 q)) tk_X8_failedDisk (by omega) rfl trivial ?_
  exact pm_Wg.iret (pm_dec tk_X8_failedDisk rfl) rfl rfl

def f_X8_failedDisk_E (s0 : cs_S) (s5 : cs_S) : Option (Int32) :=
  some (s5.1 31 0)
set_option maxRecDepth 20000 in
set_option maxHeartbeats 20000000 in
theorem e_X8_failedDisk_E {d : Nat} (hd : 1 ≤ d) {g1 g2 g3 g4 g6 g7 g8 g9 : List pm_E} {v1 v3 : Value} {q : Nat × Nat × Nat} {s0 : cs_S} {s5 : cs_S} {r : Int32} (H : f_X8_failedDisk_E s0 s5 = some r) : pm_Mt 115 d [.ref 0] (cl_h (ct_x v1 (.ref 320) v3 s0) g1 g2 g3 g4 (ct_e5 (.ref 256) (.ref 384) s5) g6 g7 g8 g9 q) (.inl (some (.int r))) (cl_h (ct_x v1 (.ref 320) v3 s0) g1 g2 g3 g4 (ct_e5 (.ref 256) (.ref 384) s5) g6 g7 g8 g9 q) := by
  refine pm_Mt.of (by decide) (by decide +kernel) rfl rfl ?_
  unfold f_X8_failedDisk_E at H
  have J := Option.some.inj H
  subst J
  refine pm_Wg.path (k := 7) (ds := []) (f' := (21, [some (.ref 0)], [.int (s5.1 31 0)], cl_h (ct_x v1 (.ref 320) v3 s0) g1 g2 g3 g4 (ct_e5 (.ref 256) (.ref 384) s5) g6 g7 g8 g9 q)) tk_X8_failedDisk (by omega) rfl trivial ?_
  exact pm_Wg.iret (pm_dec tk_X8_failedDisk rfl) rfl rfl

def tb_X8_queueLength : List pm_I := [(0, .aload_n 0, 0, 0), (1, .getfield 20, 13, 0), (4, .ifnull 18, 22, 0), (7, .aload_n 0, 0, 0), (8, .getfield 20, 13, 0), (11, .getfield 79, 98, 0), (14, .iload_n 1, 0, 0), (15, .iload_n 2, 0, 0), (16, .invokevirtual 207, 181, 0), (19, .ifCond .ne 13, 32, 0), (32, .aload_n 0, 0, 0), (33, .getfield 20, 13, 0), (36, .getfield 212, 108, 0), (39, .getfield 216, 20, 0), (42, .iload_n 1, 0, 0), (43, .iload_n 2, 0, 0), (44, .invokestatic 221, 184, 0), (47, .iaload, 0, 0), (48, .ireturn, 0, 0)]
theorem tk_X8_queueLength : ∀ e ∈ tb_X8_queueLength, pm_ck 116 e = true := List.all_eq_true.mp (by decide +kernel)

def f_X8_queueLength_N (s0 : cs_S) (a0 : Int32) (a1 : Int32) : Option ((Int32 ⊕ Nat)) :=
  some (.inr 2)
set_option maxRecDepth 20000 in
set_option maxHeartbeats 20000000 in
theorem e_X8_queueLength_N_t2 {d : Nat} (hd : 6 ≤ d) {g1 g2 g3 g4 g5 g6 g7 g8 g9 : List pm_E} {v1 v3 : Value} {q : Nat × Nat × Nat} {s0 : cs_S} {a0 : Int32} {a1 : Int32} (H : f_X8_queueLength_N s0 a0 a1 = some (.inr 2)) : pm_Mt 116 d [.ref 0, .int a0, .int a1] (cl_h (ct_x v1 (.null) v3 s0) g1 g2 g3 g4 g5 g6 g7 g8 g9 q) (.inr "java/util/NoSuchElementException") (cl_h (ct_x v1 (.null) v3 s0) g1 g2 g3 g4 g5 g6 g7 g8 g9 (q.1, q.2.1 + 1, q.2.2 + 6)) := by
  refine pm_Mt.of (by decide) (by decide +kernel) rfl rfl ?_
  obtain ⟨d, rfl⟩ : ∃ d', d = d' + 1 := ⟨d - 1, by omega⟩
  unfold f_X8_queueLength_N at H
  have J := Option.some.inj H
  refine pm_Wg.path (k := 3) (ds := []) (f' := (22, [some (.ref 0), some (.int a0), some (.int a1)], [], cl_h (ct_x v1 (.null) v3 s0) g1 g2 g3 g4 g5 g6 g7 g8 g9 q)) tk_X8_queueLength (by omega) rfl trivial ?_
  exact pm_Wg.throw (ik := 112) (ic := 116) (ix := 13) (rx := px_rx13) (k := 29) rfl rfl (by omega) px_NSE rfl rfl (by decide +kernel) (by decide +kernel) (by decide +kernel) (by decide +kernel) (by decide +kernel) (Nat.le_of_ble_eq_true rfl)

def f_X8_queueLength_E (s0 : cs_S) (s4 : cs_S) (s5 : cs_S) (a0 : Int32) (a1 : Int32) : Option ((Int32 ⊕ Nat)) :=
  (match f_X2_hasQueue s4 a0 a1 with
  | none => none
  | some r1 =>
   (if r1 = 0 then
    some (.inr 2)
   else
    (match f_X3_numberOf a0 a1 with
    | none => none
    | some r4 =>
     (match pm_inb r4 42 with
     | false => none
     | true =>
     some (.inl (s5.2.1 4 (Int32.toNatClampNeg r4)))))))
set_option maxRecDepth 20000 in
set_option maxHeartbeats 20000000 in
theorem e_X8_queueLength_E {d : Nat} (hd : 6 ≤ d) {g1 g2 g3 g6 g7 g8 g9 : List pm_E} {v1 v3 : Value} {q : Nat × Nat × Nat} {s0 : cs_S} {s4 : cs_S} {s5 : cs_S} {a0 : Int32} {a1 : Int32} {r : Int32} (H : f_X8_queueLength_E s0 s4 s5 a0 a1 = some (.inl r)) : pm_Mt 116 d [.ref 0, .int a0, .int a1] (cl_h (ct_x v1 (.ref 320) v3 s0) g1 g2 g3 (ct_p4 s4) (ct_e5 (.ref 256) (.ref 384) s5) g6 g7 g8 g9 q) (.inl (some (.int r))) (cl_h (ct_x v1 (.ref 320) v3 s0) g1 g2 g3 (ct_p4 s4) (ct_e5 (.ref 256) (.ref 384) s5) g6 g7 g8 g9 q) := by
  refine pm_Mt.of (by decide) (by decide +kernel) rfl rfl ?_
  obtain ⟨d, rfl⟩ : ∃ d', d = d' + 1 := ⟨d - 1, by omega⟩
  unfold f_X8_queueLength_E at H
  cases q2 : f_X2_hasQueue s4 a0 a1 with
  | none => rw [q2] at H; cases H
  | some r1 =>
   rw [q2] at H
   dsimp only at H
   refine pm_Wg.path (k := 8) (ds := []) (f' := (16, [some (.ref 0), some (.int a0), some (.int a1)], [.int a1, .int a0, .ref 256], cl_h (ct_x v1 (.ref 320) v3 s0) g1 g2 g3 (ct_p4 s4) (ct_e5 (.ref 256) (.ref 384) s5) g6 g7 g8 g9 q)) tk_X8_queueLength (by omega) rfl trivial ?_
   refine pm_Wg.callV (m' := 34) (ix := 207) (rr := 181) (pl := 1262) (b := 256) (As := [.int a0, .int a1]) (S := []) (by decide) rfl (pm_dec tk_X8_queueLength rfl) rfl rfl (by decide) rfl rfl (by decide) (Nat.le_of_ble_eq_true rfl) rfl (e_X2_hasQueue (by omega) q2) ?_
   by_cases h3 : r1 = 0
   · rw [if_pos h3] at H
     have J := Option.some.inj H
     cases J
   · rw [if_neg h3] at H
     cases q5 : f_X3_numberOf a0 a1 with
     | none => rw [q5] at H; cases H
     | some r4 =>
      rw [q5] at H
      dsimp only at H
      refine pm_Wg.path (k := 7) (ds := [1]) (f' := (44, [some (.ref 0), some (.int a0), some (.int a1)], [.int a1, .int a0, .ref 324], cl_h (ct_x v1 (.ref 320) v3 s0) g1 g2 g3 (ct_p4 s4) (ct_e5 (.ref 256) (.ref 384) s5) g6 g7 g8 g9 q)) tk_X8_queueLength (by omega) rfl ⟨h3, trivial⟩ ?_
      refine pm_Wg.callS (m' := 42) (ix := 221) (rr := 184) (pl := 1272) (As := [.int a0, .int a1]) (S := [.ref 324]) (by decide) rfl (pm_dec tk_X8_queueLength rfl) rfl rfl rfl (Nat.le_of_ble_eq_true rfl) rfl (e_X3_numberOf (by omega) q5) ?_
      cases b6 : pm_inb r4 42 with
      | false => rw [b6] at H; cases H
      | true =>
       rw [b6] at H
       dsimp only at H
       have J := Option.some.inj H
       injection J with JR
       subst JR
       refine pm_Wg.path (k := 1) (ds := []) (f' := (48, [some (.ref 0), some (.int a0), some (.int a1)], [.int (s5.2.1 4 (Int32.toNatClampNeg r4))], cl_h (ct_x v1 (.ref 320) v3 s0) g1 g2 g3 (ct_p4 s4) (ct_e5 (.ref 256) (.ref 384) s5) g6 g7 g8 g9 q)) tk_X8_queueLength (by omega) rfl ⟨pm_inb_vp b6, trivial⟩ ?_
       exact pm_Wg.iret (pm_dec tk_X8_queueLength rfl) rfl rfl
set_option maxRecDepth 20000 in
set_option maxHeartbeats 20000000 in
theorem e_X8_queueLength_E_t2 {d : Nat} (hd : 6 ≤ d) {g1 g2 g3 g6 g7 g8 g9 : List pm_E} {v1 v3 : Value} {q : Nat × Nat × Nat} {s0 : cs_S} {s4 : cs_S} {s5 : cs_S} {a0 : Int32} {a1 : Int32} (H : f_X8_queueLength_E s0 s4 s5 a0 a1 = some (.inr 2)) : pm_Mt 116 d [.ref 0, .int a0, .int a1] (cl_h (ct_x v1 (.ref 320) v3 s0) g1 g2 g3 (ct_p4 s4) (ct_e5 (.ref 256) (.ref 384) s5) g6 g7 g8 g9 q) (.inr "java/util/NoSuchElementException") (cl_h (ct_x v1 (.ref 320) v3 s0) g1 g2 g3 (ct_p4 s4) (ct_e5 (.ref 256) (.ref 384) s5) g6 g7 g8 g9 (q.1, q.2.1 + 1, q.2.2 + 6)) := by
  refine pm_Mt.of (by decide) (by decide +kernel) rfl rfl ?_
  obtain ⟨d, rfl⟩ : ∃ d', d = d' + 1 := ⟨d - 1, by omega⟩
  unfold f_X8_queueLength_E at H
  cases q2 : f_X2_hasQueue s4 a0 a1 with
  | none => rw [q2] at H; cases H
  | some r1 =>
   rw [q2] at H
   dsimp only at H
   refine pm_Wg.path (k := 8) (ds := []) (f' := (16, [some (.ref 0), some (.int a0), some (.int a1)], [.int a1, .int a0, .ref 256], cl_h (ct_x v1 (.ref 320) v3 s0) g1 g2 g3 (ct_p4 s4) (ct_e5 (.ref 256) (.ref 384) s5) g6 g7 g8 g9 q)) tk_X8_queueLength (by omega) rfl trivial ?_
   refine pm_Wg.callV (m' := 34) (ix := 207) (rr := 181) (pl := 1262) (b := 256) (As := [.int a0, .int a1]) (S := []) (by decide) rfl (pm_dec tk_X8_queueLength rfl) rfl rfl (by decide) rfl rfl (by decide) (Nat.le_of_ble_eq_true rfl) rfl (e_X2_hasQueue (by omega) q2) ?_
   by_cases h3 : r1 = 0
   · rw [if_pos h3] at H
     have J := Option.some.inj H
     refine pm_Wg.path (k := 1) (ds := [0]) (f' := (22, [some (.ref 0), some (.int a0), some (.int a1)], [], cl_h (ct_x v1 (.ref 320) v3 s0) g1 g2 g3 (ct_p4 s4) (ct_e5 (.ref 256) (.ref 384) s5) g6 g7 g8 g9 q)) tk_X8_queueLength (by omega) rfl ⟨h3, trivial⟩ ?_
     exact pm_Wg.throw (ik := 112) (ic := 116) (ix := 13) (rx := px_rx13) (k := 29) rfl rfl (by omega) px_NSE rfl rfl (by decide +kernel) (by decide +kernel) (by decide +kernel) (by decide +kernel) (by decide +kernel) (Nat.le_of_ble_eq_true rfl)
   · rw [if_neg h3] at H
     cases q5 : f_X3_numberOf a0 a1 with
     | none => rw [q5] at H; cases H
     | some r4 =>
      rw [q5] at H
      dsimp only at H
      refine pm_Wg.path (k := 7) (ds := [1]) (f' := (44, [some (.ref 0), some (.int a0), some (.int a1)], [.int a1, .int a0, .ref 324], cl_h (ct_x v1 (.ref 320) v3 s0) g1 g2 g3 (ct_p4 s4) (ct_e5 (.ref 256) (.ref 384) s5) g6 g7 g8 g9 q)) tk_X8_queueLength (by omega) rfl ⟨h3, trivial⟩ ?_
      refine pm_Wg.callS (m' := 42) (ix := 221) (rr := 184) (pl := 1272) (As := [.int a0, .int a1]) (S := [.ref 324]) (by decide) rfl (pm_dec tk_X8_queueLength rfl) rfl rfl rfl (Nat.le_of_ble_eq_true rfl) rfl (e_X3_numberOf (by omega) q5) ?_
      cases b6 : pm_inb r4 42 with
      | false => rw [b6] at H; cases H
      | true =>
       rw [b6] at H
       dsimp only at H
       have J := Option.some.inj H
       cases J

def tb_X8_tag : List pm_I := [(0, .aload_n 0, 0, 0), (1, .getfield 20, 13, 0), (4, .ifnull 18, 22, 0), (7, .aload_n 0, 0, 0), (8, .getfield 20, 13, 0), (11, .getfield 79, 98, 0), (14, .iload_n 1, 0, 0), (15, .iload_n 2, 0, 0), (16, .invokevirtual 207, 181, 0), (19, .ifCond .ne 13, 32, 0), (32, .iload_n 1, 0, 0), (33, .iload_n 2, 0, 0), (34, .invokestatic 221, 184, 0), (37, .istore 4, 0, 0), (39, .aload_n 0, 0, 0), (40, .getfield 20, 13, 0), (43, .getfield 212, 108, 0), (46, .getfield 216, 20, 0), (49, .iload 4, 0, 0), (51, .iaload, 0, 0), (52, .ifCond .ne 13, 65, 0), (65, .aload_n 0, 0, 0), (66, .getfield 20, 13, 0), (69, .getfield 212, 108, 0), (72, .getfield 227, 16, 0), (75, .iload 4, 0, 0), (77, .iaload, 0, 0), (78, .istore 5, 0, 0), (80, .iload_n 3, 0, 0), (81, .tableswitch 90 0 2 #[27, 62, 76], 0, 27), (108, .aload_n 0, 0, 0), (109, .getfield 20, 13, 0), (112, .getfield 212, 108, 0), (115, .iload 5, 0, 0), (117, .invokevirtual 230, 187, 0), (120, .ifCond .eq 19, 139, 0), (123, .aload_n 0, 0, 0), (124, .getfield 20, 13, 0), (127, .getfield 212, 108, 0), (130, .getfield 233, 25, 0), (133, .iload 5, 0, 0), (135, .laload, 0, 0), (136, .goto 6, 142, 0), (139, .ldc2_w 237, 3, 0), (142, .lreturn, 0, 0), (143, .aload_n 0, 0, 0), (144, .getfield 20, 13, 0), (147, .getfield 212, 108, 0), (150, .getfield 239, 27, 0), (153, .iload 5, 0, 0), (155, .laload, 0, 0), (156, .lreturn, 0, 0), (157, .aload_n 0, 0, 0), (158, .getfield 20, 13, 0), (161, .getfield 212, 108, 0), (164, .getfield 242, 29, 0), (167, .iload 5, 0, 0), (169, .laload, 0, 0), (170, .lreturn, 0, 0)]
theorem tk_X8_tag : ∀ e ∈ tb_X8_tag, pm_ck 117 e = true := List.all_eq_true.mp (by decide +kernel)

def f_X8_tag_N (s0 : cs_S) (a0 : Int32) (a1 : Int32) (a2 : Int32) : Option ((Int64 ⊕ Nat)) :=
  some (.inr 2)
set_option maxRecDepth 20000 in
set_option maxHeartbeats 20000000 in
theorem e_X8_tag_N_t2 {d : Nat} (hd : 6 ≤ d) {g1 g2 g3 g4 g5 g6 g7 g8 g9 : List pm_E} {v1 v3 : Value} {q : Nat × Nat × Nat} {s0 : cs_S} {a0 : Int32} {a1 : Int32} {a2 : Int32} (H : f_X8_tag_N s0 a0 a1 a2 = some (.inr 2)) : pm_Mt 117 d [.ref 0, .int a0, .int a1, .int a2] (cl_h (ct_x v1 (.null) v3 s0) g1 g2 g3 g4 g5 g6 g7 g8 g9 q) (.inr "java/util/NoSuchElementException") (cl_h (ct_x v1 (.null) v3 s0) g1 g2 g3 g4 g5 g6 g7 g8 g9 (q.1, q.2.1 + 1, q.2.2 + 6)) := by
  refine pm_Mt.of (by decide) (by decide +kernel) rfl rfl ?_
  obtain ⟨d, rfl⟩ : ∃ d', d = d' + 1 := ⟨d - 1, by omega⟩
  unfold f_X8_tag_N at H
  have J := Option.some.inj H
  refine pm_Wg.path (k := 3) (ds := []) (f' := (22, [some (.ref 0), some (.int a0), some (.int a1), some (.int a2), none, none], [], cl_h (ct_x v1 (.null) v3 s0) g1 g2 g3 g4 g5 g6 g7 g8 g9 q)) tk_X8_tag (by omega) rfl trivial ?_
  exact pm_Wg.throw (ik := 112) (ic := 116) (ix := 13) (rx := px_rx13) (k := 29) rfl rfl (by omega) px_NSE rfl rfl (by decide +kernel) (by decide +kernel) (by decide +kernel) (by decide +kernel) (by decide +kernel) (Nat.le_of_ble_eq_true rfl)

def f_X8_tag_E (s0 : cs_S) (s4 : cs_S) (s5 : cs_S) (a0 : Int32) (a1 : Int32) (a2 : Int32) : Option ((Int64 ⊕ Nat)) :=
  (match f_X2_hasQueue s4 a0 a1 with
  | none => none
  | some r1 =>
   (if r1 = 0 then
    some (.inr 2)
   else
    (match f_X3_numberOf a0 a1 with
    | none => none
    | some r4 =>
     (match pm_inb r4 42 with
     | false => none
     | true =>
     (if (s5.2.1 4 (Int32.toNatClampNeg r4)) = 0 then
      some (.inr 2)
     else
      (if a2 = 0 then
       (match f_X3_hasTagR s5 (s5.2.1 2 (Int32.toNatClampNeg r4)) with
       | none => none
       | some r14 =>
        (if r14 = 0 then
         some (.inl (-1))
        else
         (match pm_inb (s5.2.1 2 (Int32.toNatClampNeg r4)) 3248 with
         | false => none
         | true =>
         some (.inl (s5.2.2 8 (Int32.toNatClampNeg (s5.2.1 2 (Int32.toNatClampNeg r4))))))))
      else
      (if a2 = 1 then
       (match pm_inb (s5.2.1 2 (Int32.toNatClampNeg r4)) 3248 with
       | false => none
       | true =>
       some (.inl (s5.2.2 9 (Int32.toNatClampNeg (s5.2.1 2 (Int32.toNatClampNeg r4))))))
      else
      (if a2 = 2 then
       (match pm_inb (s5.2.1 2 (Int32.toNatClampNeg r4)) 3248 with
       | false => none
       | true =>
       some (.inl (s5.2.2 10 (Int32.toNatClampNeg (s5.2.1 2 (Int32.toNatClampNeg r4))))))
      else
       some (.inr 1)))))))))
set_option maxRecDepth 20000 in
set_option maxHeartbeats 20000000 in
theorem e_X8_tag_E {d : Nat} (hd : 6 ≤ d) {g1 g2 g3 g6 g7 g8 g9 : List pm_E} {v1 v3 : Value} {q : Nat × Nat × Nat} {s0 : cs_S} {s4 : cs_S} {s5 : cs_S} {a0 : Int32} {a1 : Int32} {a2 : Int32} {r : Int64} (H : f_X8_tag_E s0 s4 s5 a0 a1 a2 = some (.inl r)) : pm_Mt 117 d [.ref 0, .int a0, .int a1, .int a2] (cl_h (ct_x v1 (.ref 320) v3 s0) g1 g2 g3 (ct_p4 s4) (ct_e5 (.ref 256) (.ref 384) s5) g6 g7 g8 g9 q) (.inl (some (.long r))) (cl_h (ct_x v1 (.ref 320) v3 s0) g1 g2 g3 (ct_p4 s4) (ct_e5 (.ref 256) (.ref 384) s5) g6 g7 g8 g9 q) := by
  refine pm_Mt.of (by decide) (by decide +kernel) rfl rfl ?_
  obtain ⟨d, rfl⟩ : ∃ d', d = d' + 1 := ⟨d - 1, by omega⟩
  unfold f_X8_tag_E at H
  cases q2 : f_X2_hasQueue s4 a0 a1 with
  | none => rw [q2] at H; cases H
  | some r1 =>
   rw [q2] at H
   dsimp only at H
   refine pm_Wg.path (k := 8) (ds := []) (f' := (16, [some (.ref 0), some (.int a0), some (.int a1), some (.int a2), none, none], [.int a1, .int a0, .ref 256], cl_h (ct_x v1 (.ref 320) v3 s0) g1 g2 g3 (ct_p4 s4) (ct_e5 (.ref 256) (.ref 384) s5) g6 g7 g8 g9 q)) tk_X8_tag (by omega) rfl trivial ?_
   refine pm_Wg.callV (m' := 34) (ix := 207) (rr := 181) (pl := 1262) (b := 256) (As := [.int a0, .int a1]) (S := []) (by decide) rfl (pm_dec tk_X8_tag rfl) rfl rfl (by decide) rfl rfl (by decide) (Nat.le_of_ble_eq_true rfl) rfl (e_X2_hasQueue (by omega) q2) ?_
   by_cases h3 : r1 = 0
   · rw [if_pos h3] at H
     have J := Option.some.inj H
     cases J
   · rw [if_neg h3] at H
     cases q5 : f_X3_numberOf a0 a1 with
     | none => rw [q5] at H; cases H
     | some r4 =>
      rw [q5] at H
      dsimp only at H
      refine pm_Wg.path (k := 3) (ds := [1]) (f' := (34, [some (.ref 0), some (.int a0), some (.int a1), some (.int a2), none, none], [.int a1, .int a0], cl_h (ct_x v1 (.ref 320) v3 s0) g1 g2 g3 (ct_p4 s4) (ct_e5 (.ref 256) (.ref 384) s5) g6 g7 g8 g9 q)) tk_X8_tag (by omega) rfl ⟨h3, trivial⟩ ?_
      refine pm_Wg.callS (m' := 42) (ix := 221) (rr := 184) (pl := 1272) (As := [.int a0, .int a1]) (S := []) (by decide) rfl (pm_dec tk_X8_tag rfl) rfl rfl rfl (Nat.le_of_ble_eq_true rfl) rfl (e_X3_numberOf (by omega) q5) ?_
      cases b6 : pm_inb r4 42 with
      | false => rw [b6] at H; cases H
      | true =>
       rw [b6] at H
       dsimp only at H
       by_cases h7 : (s5.2.1 4 (Int32.toNatClampNeg r4)) = 0
       · rw [if_pos h7] at H
         have J := Option.some.inj H
         cases J
       · rw [if_neg h7] at H
         by_cases h9 : a2 = 0
         · rw [if_pos h9] at H
           cases q15 : f_X3_hasTagR s5 (s5.2.1 2 (Int32.toNatClampNeg r4)) with
           | none => rw [q15] at H; cases H
           | some r14 =>
            rw [q15] at H
            dsimp only at H
            refine pm_Wg.path (k := 21) (ds := [1, 0]) (f' := (117, [some (.ref 0), some (.int a0), some (.int a1), some (.int a2), some (.int r4), some (.int (s5.2.1 2 (Int32.toNatClampNeg r4)))], [.int (s5.2.1 2 (Int32.toNatClampNeg r4)), .ref 321], cl_h (ct_x v1 (.ref 320) v3 s0) g1 g2 g3 (ct_p4 s4) (ct_e5 (.ref 256) (.ref 384) s5) g6 g7 g8 g9 q)) tk_X8_tag (by omega) rfl ⟨(pm_sw0 h9), pm_inb_vp b6, h7, pm_inb_vp b6, trivial⟩ ?_
            refine pm_Wg.callV (m' := 50) (ix := 230) (rr := 187) (pl := 1281) (b := 321) (As := [.int (s5.2.1 2 (Int32.toNatClampNeg r4))]) (S := []) (by decide) rfl (pm_dec tk_X8_tag rfl) rfl rfl (by decide) rfl rfl (by decide) (Nat.le_of_ble_eq_true rfl) rfl (e_X3_hasTagR (by omega) q15) ?_
            by_cases h16 : r14 = 0
            · rw [if_pos h16] at H
              have J := Option.some.inj H
              injection J with JR
              subst JR
              refine pm_Wg.path (k := 2) (ds := [1]) (f' := (142, [some (.ref 0), some (.int a0), some (.int a1), some (.int a2), some (.int r4), some (.int (s5.2.1 2 (Int32.toNatClampNeg r4)))], [.long (-1)], cl_h (ct_x v1 (.ref 320) v3 s0) g1 g2 g3 (ct_p4 s4) (ct_e5 (.ref 256) (.ref 384) s5) g6 g7 g8 g9 q)) tk_X8_tag (by omega) rfl ⟨h16, trivial⟩ ?_
              exact pm_Wg.lret (pm_dec tk_X8_tag rfl) rfl
            · rw [if_neg h16] at H
              cases b17 : pm_inb (s5.2.1 2 (Int32.toNatClampNeg r4)) 3248 with
              | false => rw [b17] at H; cases H
              | true =>
               rw [b17] at H
               dsimp only at H
               have J := Option.some.inj H
               injection J with JR
               subst JR
               refine pm_Wg.path (k := 8) (ds := [0]) (f' := (142, [some (.ref 0), some (.int a0), some (.int a1), some (.int a2), some (.int r4), some (.int (s5.2.1 2 (Int32.toNatClampNeg r4)))], [.long (s5.2.2 8 (Int32.toNatClampNeg (s5.2.1 2 (Int32.toNatClampNeg r4))))], cl_h (ct_x v1 (.ref 320) v3 s0) g1 g2 g3 (ct_p4 s4) (ct_e5 (.ref 256) (.ref 384) s5) g6 g7 g8 g9 q)) tk_X8_tag (by omega) rfl ⟨pm_inb_vp b17, h16, trivial⟩ ?_
               exact pm_Wg.lret (pm_dec tk_X8_tag rfl) rfl
         rw [if_neg h9] at H
         by_cases h10 : a2 = 1
         · rw [if_pos h10] at H
           cases b11 : pm_inb (s5.2.1 2 (Int32.toNatClampNeg r4)) 3248 with
           | false => rw [b11] at H; cases H
           | true =>
            rw [b11] at H
            dsimp only at H
            have J := Option.some.inj H
            injection J with JR
            subst JR
            refine pm_Wg.path (k := 23) (ds := [1, 1]) (f' := (156, [some (.ref 0), some (.int a0), some (.int a1), some (.int a2), some (.int r4), some (.int (s5.2.1 2 (Int32.toNatClampNeg r4)))], [.long (s5.2.2 9 (Int32.toNatClampNeg (s5.2.1 2 (Int32.toNatClampNeg r4))))], cl_h (ct_x v1 (.ref 320) v3 s0) g1 g2 g3 (ct_p4 s4) (ct_e5 (.ref 256) (.ref 384) s5) g6 g7 g8 g9 q)) tk_X8_tag (by omega) rfl ⟨pm_inb_vp b11, (pm_sw1 h10), pm_inb_vp b6, h7, pm_inb_vp b6, trivial⟩ ?_
            exact pm_Wg.lret (pm_dec tk_X8_tag rfl) rfl
         rw [if_neg h10] at H
         by_cases h12 : a2 = 2
         · rw [if_pos h12] at H
           cases b13 : pm_inb (s5.2.1 2 (Int32.toNatClampNeg r4)) 3248 with
           | false => rw [b13] at H; cases H
           | true =>
            rw [b13] at H
            dsimp only at H
            have J := Option.some.inj H
            injection J with JR
            subst JR
            refine pm_Wg.path (k := 23) (ds := [1, 2]) (f' := (170, [some (.ref 0), some (.int a0), some (.int a1), some (.int a2), some (.int r4), some (.int (s5.2.1 2 (Int32.toNatClampNeg r4)))], [.long (s5.2.2 10 (Int32.toNatClampNeg (s5.2.1 2 (Int32.toNatClampNeg r4))))], cl_h (ct_x v1 (.ref 320) v3 s0) g1 g2 g3 (ct_p4 s4) (ct_e5 (.ref 256) (.ref 384) s5) g6 g7 g8 g9 q)) tk_X8_tag (by omega) rfl ⟨pm_inb_vp b13, (pm_sw2 h12), pm_inb_vp b6, h7, pm_inb_vp b6, trivial⟩ ?_
            exact pm_Wg.lret (pm_dec tk_X8_tag rfl) rfl
         rw [if_neg h12] at H
         have J := Option.some.inj H
         cases J
set_option maxRecDepth 20000 in
set_option maxHeartbeats 20000000 in
theorem e_X8_tag_E_t1 {d : Nat} (hd : 6 ≤ d) {g1 g2 g3 g6 g7 g8 g9 : List pm_E} {v1 v3 : Value} {q : Nat × Nat × Nat} {s0 : cs_S} {s4 : cs_S} {s5 : cs_S} {a0 : Int32} {a1 : Int32} {a2 : Int32} (H : f_X8_tag_E s0 s4 s5 a0 a1 a2 = some (.inr 1)) : pm_Mt 117 d [.ref 0, .int a0, .int a1, .int a2] (cl_h (ct_x v1 (.ref 320) v3 s0) g1 g2 g3 (ct_p4 s4) (ct_e5 (.ref 256) (.ref 384) s5) g6 g7 g8 g9 q) (.inr "java/lang/IllegalArgumentException") (cl_h (ct_x v1 (.ref 320) v3 s0) g1 g2 g3 (ct_p4 s4) (ct_e5 (.ref 256) (.ref 384) s5) g6 g7 g8 g9 (q.1, q.2.1 + 1, q.2.2 + 6)) := by
  refine pm_Mt.of (by decide) (by decide +kernel) rfl rfl ?_
  obtain ⟨d, rfl⟩ : ∃ d', d = d' + 1 := ⟨d - 1, by omega⟩
  unfold f_X8_tag_E at H
  cases q2 : f_X2_hasQueue s4 a0 a1 with
  | none => rw [q2] at H; cases H
  | some r1 =>
   rw [q2] at H
   dsimp only at H
   refine pm_Wg.path (k := 8) (ds := []) (f' := (16, [some (.ref 0), some (.int a0), some (.int a1), some (.int a2), none, none], [.int a1, .int a0, .ref 256], cl_h (ct_x v1 (.ref 320) v3 s0) g1 g2 g3 (ct_p4 s4) (ct_e5 (.ref 256) (.ref 384) s5) g6 g7 g8 g9 q)) tk_X8_tag (by omega) rfl trivial ?_
   refine pm_Wg.callV (m' := 34) (ix := 207) (rr := 181) (pl := 1262) (b := 256) (As := [.int a0, .int a1]) (S := []) (by decide) rfl (pm_dec tk_X8_tag rfl) rfl rfl (by decide) rfl rfl (by decide) (Nat.le_of_ble_eq_true rfl) rfl (e_X2_hasQueue (by omega) q2) ?_
   by_cases h3 : r1 = 0
   · rw [if_pos h3] at H
     have J := Option.some.inj H
     cases J
   · rw [if_neg h3] at H
     cases q5 : f_X3_numberOf a0 a1 with
     | none => rw [q5] at H; cases H
     | some r4 =>
      rw [q5] at H
      dsimp only at H
      refine pm_Wg.path (k := 3) (ds := [1]) (f' := (34, [some (.ref 0), some (.int a0), some (.int a1), some (.int a2), none, none], [.int a1, .int a0], cl_h (ct_x v1 (.ref 320) v3 s0) g1 g2 g3 (ct_p4 s4) (ct_e5 (.ref 256) (.ref 384) s5) g6 g7 g8 g9 q)) tk_X8_tag (by omega) rfl ⟨h3, trivial⟩ ?_
      refine pm_Wg.callS (m' := 42) (ix := 221) (rr := 184) (pl := 1272) (As := [.int a0, .int a1]) (S := []) (by decide) rfl (pm_dec tk_X8_tag rfl) rfl rfl rfl (Nat.le_of_ble_eq_true rfl) rfl (e_X3_numberOf (by omega) q5) ?_
      cases b6 : pm_inb r4 42 with
      | false => rw [b6] at H; cases H
      | true =>
       rw [b6] at H
       dsimp only at H
       by_cases h7 : (s5.2.1 4 (Int32.toNatClampNeg r4)) = 0
       · rw [if_pos h7] at H
         have J := Option.some.inj H
         cases J
       · rw [if_neg h7] at H
         by_cases h9 : a2 = 0
         · rw [if_pos h9] at H
           cases q15 : f_X3_hasTagR s5 (s5.2.1 2 (Int32.toNatClampNeg r4)) with
           | none => rw [q15] at H; cases H
           | some r14 =>
            rw [q15] at H
            dsimp only at H
            refine pm_Wg.path (k := 21) (ds := [1, 0]) (f' := (117, [some (.ref 0), some (.int a0), some (.int a1), some (.int a2), some (.int r4), some (.int (s5.2.1 2 (Int32.toNatClampNeg r4)))], [.int (s5.2.1 2 (Int32.toNatClampNeg r4)), .ref 321], cl_h (ct_x v1 (.ref 320) v3 s0) g1 g2 g3 (ct_p4 s4) (ct_e5 (.ref 256) (.ref 384) s5) g6 g7 g8 g9 q)) tk_X8_tag (by omega) rfl ⟨(pm_sw0 h9), pm_inb_vp b6, h7, pm_inb_vp b6, trivial⟩ ?_
            refine pm_Wg.callV (m' := 50) (ix := 230) (rr := 187) (pl := 1281) (b := 321) (As := [.int (s5.2.1 2 (Int32.toNatClampNeg r4))]) (S := []) (by decide) rfl (pm_dec tk_X8_tag rfl) rfl rfl (by decide) rfl rfl (by decide) (Nat.le_of_ble_eq_true rfl) rfl (e_X3_hasTagR (by omega) q15) ?_
            by_cases h16 : r14 = 0
            · rw [if_pos h16] at H
              have J := Option.some.inj H
              cases J
            · rw [if_neg h16] at H
              cases b17 : pm_inb (s5.2.1 2 (Int32.toNatClampNeg r4)) 3248 with
              | false => rw [b17] at H; cases H
              | true =>
               rw [b17] at H
               dsimp only at H
               have J := Option.some.inj H
               cases J
         rw [if_neg h9] at H
         by_cases h10 : a2 = 1
         · rw [if_pos h10] at H
           cases b11 : pm_inb (s5.2.1 2 (Int32.toNatClampNeg r4)) 3248 with
           | false => rw [b11] at H; cases H
           | true =>
            rw [b11] at H
            dsimp only at H
            have J := Option.some.inj H
            cases J
         rw [if_neg h10] at H
         by_cases h12 : a2 = 2
         · rw [if_pos h12] at H
           cases b13 : pm_inb (s5.2.1 2 (Int32.toNatClampNeg r4)) 3248 with
           | false => rw [b13] at H; cases H
           | true =>
            rw [b13] at H
            dsimp only at H
            have J := Option.some.inj H
            cases J
         rw [if_neg h12] at H
         have J := Option.some.inj H
         refine pm_Wg.path (k := 17) (ds := [1, 9]) (f' := (171, [some (.ref 0), some (.int a0), some (.int a1), some (.int a2), some (.int r4), some (.int (s5.2.1 2 (Int32.toNatClampNeg r4)))], [], cl_h (ct_x v1 (.ref 320) v3 s0) g1 g2 g3 (ct_p4 s4) (ct_e5 (.ref 256) (.ref 384) s5) g6 g7 g8 g9 q)) tk_X8_tag (by omega) rfl ⟨(pm_swd h9 h10 h12), pm_inb_vp b6, h7, pm_inb_vp b6, trivial⟩ ?_
         exact pm_Wg.throw (ik := 42) (ic := 46) (ix := 7) (rx := Bundle.six) (k := 20) rfl rfl (by omega) px_IAE rfl rfl (by decide +kernel) (by decide +kernel) (by decide +kernel) (by decide +kernel) (by decide +kernel) (Nat.le_of_ble_eq_true rfl)
set_option maxRecDepth 20000 in
set_option maxHeartbeats 20000000 in
theorem e_X8_tag_E_t2 {d : Nat} (hd : 6 ≤ d) {g1 g2 g3 g6 g7 g8 g9 : List pm_E} {v1 v3 : Value} {q : Nat × Nat × Nat} {s0 : cs_S} {s4 : cs_S} {s5 : cs_S} {a0 : Int32} {a1 : Int32} {a2 : Int32} (H : f_X8_tag_E s0 s4 s5 a0 a1 a2 = some (.inr 2)) : pm_Mt 117 d [.ref 0, .int a0, .int a1, .int a2] (cl_h (ct_x v1 (.ref 320) v3 s0) g1 g2 g3 (ct_p4 s4) (ct_e5 (.ref 256) (.ref 384) s5) g6 g7 g8 g9 q) (.inr "java/util/NoSuchElementException") (cl_h (ct_x v1 (.ref 320) v3 s0) g1 g2 g3 (ct_p4 s4) (ct_e5 (.ref 256) (.ref 384) s5) g6 g7 g8 g9 (q.1, q.2.1 + 1, q.2.2 + 6)) := by
  refine pm_Mt.of (by decide) (by decide +kernel) rfl rfl ?_
  obtain ⟨d, rfl⟩ : ∃ d', d = d' + 1 := ⟨d - 1, by omega⟩
  unfold f_X8_tag_E at H
  cases q2 : f_X2_hasQueue s4 a0 a1 with
  | none => rw [q2] at H; cases H
  | some r1 =>
   rw [q2] at H
   dsimp only at H
   refine pm_Wg.path (k := 8) (ds := []) (f' := (16, [some (.ref 0), some (.int a0), some (.int a1), some (.int a2), none, none], [.int a1, .int a0, .ref 256], cl_h (ct_x v1 (.ref 320) v3 s0) g1 g2 g3 (ct_p4 s4) (ct_e5 (.ref 256) (.ref 384) s5) g6 g7 g8 g9 q)) tk_X8_tag (by omega) rfl trivial ?_
   refine pm_Wg.callV (m' := 34) (ix := 207) (rr := 181) (pl := 1262) (b := 256) (As := [.int a0, .int a1]) (S := []) (by decide) rfl (pm_dec tk_X8_tag rfl) rfl rfl (by decide) rfl rfl (by decide) (Nat.le_of_ble_eq_true rfl) rfl (e_X2_hasQueue (by omega) q2) ?_
   by_cases h3 : r1 = 0
   · rw [if_pos h3] at H
     have J := Option.some.inj H
     refine pm_Wg.path (k := 1) (ds := [0]) (f' := (22, [some (.ref 0), some (.int a0), some (.int a1), some (.int a2), none, none], [], cl_h (ct_x v1 (.ref 320) v3 s0) g1 g2 g3 (ct_p4 s4) (ct_e5 (.ref 256) (.ref 384) s5) g6 g7 g8 g9 q)) tk_X8_tag (by omega) rfl ⟨h3, trivial⟩ ?_
     exact pm_Wg.throw (ik := 112) (ic := 116) (ix := 13) (rx := px_rx13) (k := 29) rfl rfl (by omega) px_NSE rfl rfl (by decide +kernel) (by decide +kernel) (by decide +kernel) (by decide +kernel) (by decide +kernel) (Nat.le_of_ble_eq_true rfl)
   · rw [if_neg h3] at H
     cases q5 : f_X3_numberOf a0 a1 with
     | none => rw [q5] at H; cases H
     | some r4 =>
      rw [q5] at H
      dsimp only at H
      refine pm_Wg.path (k := 3) (ds := [1]) (f' := (34, [some (.ref 0), some (.int a0), some (.int a1), some (.int a2), none, none], [.int a1, .int a0], cl_h (ct_x v1 (.ref 320) v3 s0) g1 g2 g3 (ct_p4 s4) (ct_e5 (.ref 256) (.ref 384) s5) g6 g7 g8 g9 q)) tk_X8_tag (by omega) rfl ⟨h3, trivial⟩ ?_
      refine pm_Wg.callS (m' := 42) (ix := 221) (rr := 184) (pl := 1272) (As := [.int a0, .int a1]) (S := []) (by decide) rfl (pm_dec tk_X8_tag rfl) rfl rfl rfl (Nat.le_of_ble_eq_true rfl) rfl (e_X3_numberOf (by omega) q5) ?_
      cases b6 : pm_inb r4 42 with
      | false => rw [b6] at H; cases H
      | true =>
       rw [b6] at H
       dsimp only at H
       by_cases h7 : (s5.2.1 4 (Int32.toNatClampNeg r4)) = 0
       · rw [if_pos h7] at H
         have J := Option.some.inj H
         refine pm_Wg.path (k := 8) (ds := [0]) (f' := (55, [some (.ref 0), some (.int a0), some (.int a1), some (.int a2), some (.int r4), none], [], cl_h (ct_x v1 (.ref 320) v3 s0) g1 g2 g3 (ct_p4 s4) (ct_e5 (.ref 256) (.ref 384) s5) g6 g7 g8 g9 q)) tk_X8_tag (by omega) rfl ⟨h7, pm_inb_vp b6, trivial⟩ ?_
         exact pm_Wg.throw (ik := 112) (ic := 116) (ix := 13) (rx := px_rx13) (k := 30) rfl rfl (by omega) px_NSE rfl rfl (by decide +kernel) (by decide +kernel) (by decide +kernel) (by decide +kernel) (by decide +kernel) (Nat.le_of_ble_eq_true rfl)
       · rw [if_neg h7] at H
         by_cases h9 : a2 = 0
         · rw [if_pos h9] at H
           cases q15 : f_X3_hasTagR s5 (s5.2.1 2 (Int32.toNatClampNeg r4)) with
           | none => rw [q15] at H; cases H
           | some r14 =>
            rw [q15] at H
            dsimp only at H
            refine pm_Wg.path (k := 21) (ds := [1, 0]) (f' := (117, [some (.ref 0), some (.int a0), some (.int a1), some (.int a2), some (.int r4), some (.int (s5.2.1 2 (Int32.toNatClampNeg r4)))], [.int (s5.2.1 2 (Int32.toNatClampNeg r4)), .ref 321], cl_h (ct_x v1 (.ref 320) v3 s0) g1 g2 g3 (ct_p4 s4) (ct_e5 (.ref 256) (.ref 384) s5) g6 g7 g8 g9 q)) tk_X8_tag (by omega) rfl ⟨(pm_sw0 h9), pm_inb_vp b6, h7, pm_inb_vp b6, trivial⟩ ?_
            refine pm_Wg.callV (m' := 50) (ix := 230) (rr := 187) (pl := 1281) (b := 321) (As := [.int (s5.2.1 2 (Int32.toNatClampNeg r4))]) (S := []) (by decide) rfl (pm_dec tk_X8_tag rfl) rfl rfl (by decide) rfl rfl (by decide) (Nat.le_of_ble_eq_true rfl) rfl (e_X3_hasTagR (by omega) q15) ?_
            by_cases h16 : r14 = 0
            · rw [if_pos h16] at H
              have J := Option.some.inj H
              cases J
            · rw [if_neg h16] at H
              cases b17 : pm_inb (s5.2.1 2 (Int32.toNatClampNeg r4)) 3248 with
              | false => rw [b17] at H; cases H
              | true =>
               rw [b17] at H
               dsimp only at H
               have J := Option.some.inj H
               cases J
         rw [if_neg h9] at H
         by_cases h10 : a2 = 1
         · rw [if_pos h10] at H
           cases b11 : pm_inb (s5.2.1 2 (Int32.toNatClampNeg r4)) 3248 with
           | false => rw [b11] at H; cases H
           | true =>
            rw [b11] at H
            dsimp only at H
            have J := Option.some.inj H
            cases J
         rw [if_neg h10] at H
         by_cases h12 : a2 = 2
         · rw [if_pos h12] at H
           cases b13 : pm_inb (s5.2.1 2 (Int32.toNatClampNeg r4)) 3248 with
           | false => rw [b13] at H; cases H
           | true =>
            rw [b13] at H
            dsimp only at H
            have J := Option.some.inj H
            cases J
         rw [if_neg h12] at H
         have J := Option.some.inj H
         cases J

def tb_X8_serving : List pm_I := [(0, .aload_n 0, 0, 0), (1, .getfield 20, 13, 0), (4, .ifnull 17, 21, 0), (7, .aload_n 0, 0, 0), (8, .getfield 20, 13, 0), (11, .getfield 79, 98, 0), (14, .iload_n 1, 0, 0), (15, .invokevirtual 245, 190, 0), (18, .ifCond .ne 13, 31, 0), (31, .aload_n 0, 0, 0), (32, .getfield 20, 13, 0), (35, .getfield 248, 110, 0), (38, .getfield 251, 34, 0), (41, .iload_n 1, 0, 0), (42, .iaload, 0, 0), (43, .istore_n 2, 0, 0), (44, .iload_n 2, 0, 0), (45, .iconst (-1), 1, 0), (46, .if_icmp .ne 7, 53, 0), (49, .iconst (-1), 1, 0), (50, .goto 14, 64, 0), (53, .aload_n 0, 0, 0), (54, .getfield 20, 13, 0), (57, .getfield 155, 112, 0), (60, .iload_n 2, 0, 0), (61, .invokevirtual 256, 191, 0), (64, .ireturn, 0, 0)]
theorem tk_X8_serving : ∀ e ∈ tb_X8_serving, pm_ck 118 e = true := List.all_eq_true.mp (by decide +kernel)

def f_X8_serving_N (s0 : cs_S) (a0 : Int32) : Option ((Int32 ⊕ Nat)) :=
  some (.inr 2)
set_option maxRecDepth 20000 in
set_option maxHeartbeats 20000000 in
theorem e_X8_serving_N_t2 {d : Nat} (hd : 6 ≤ d) {g1 g2 g3 g4 g5 g6 g7 g8 g9 : List pm_E} {v1 v3 : Value} {q : Nat × Nat × Nat} {s0 : cs_S} {a0 : Int32} (H : f_X8_serving_N s0 a0 = some (.inr 2)) : pm_Mt 118 d [.ref 0, .int a0] (cl_h (ct_x v1 (.null) v3 s0) g1 g2 g3 g4 g5 g6 g7 g8 g9 q) (.inr "java/util/NoSuchElementException") (cl_h (ct_x v1 (.null) v3 s0) g1 g2 g3 g4 g5 g6 g7 g8 g9 (q.1, q.2.1 + 1, q.2.2 + 6)) := by
  refine pm_Mt.of (by decide) (by decide +kernel) rfl rfl ?_
  obtain ⟨d, rfl⟩ : ∃ d', d = d' + 1 := ⟨d - 1, by omega⟩
  unfold f_X8_serving_N at H
  have J := Option.some.inj H
  refine pm_Wg.path (k := 3) (ds := []) (f' := (21, [some (.ref 0), some (.int a0), none], [], cl_h (ct_x v1 (.null) v3 s0) g1 g2 g3 g4 g5 g6 g7 g8 g9 q)) tk_X8_serving (by omega) rfl trivial ?_
  exact pm_Wg.throw (ik := 112) (ic := 116) (ix := 13) (rx := px_rx13) (k := 24) rfl rfl (by omega) px_NSE rfl rfl (by decide +kernel) (by decide +kernel) (by decide +kernel) (by decide +kernel) (by decide +kernel) (Nat.le_of_ble_eq_true rfl)

def f_X8_serving_E (s0 : cs_S) (s4 : cs_S) (s5 : cs_S) (a0 : Int32) : Option ((Int32 ⊕ Nat)) :=
  (match f_X2_hasDiskOrSpare s4 a0 with
  | none => none
  | some r1 =>
   (if r1 = 0 then
    some (.inr 2)
   else
    (match pm_inb a0 7 with
    | false => none
    | true =>
    (if (s5.2.1 14 (Int32.toNatClampNeg a0)) = (-1) then
     some (.inl (-1))
    else
     (match f_X5_tenantBehind s5 (s5.2.1 14 (Int32.toNatClampNeg a0)) with
     | none => none
     | some r6 =>
      some (.inl r6))))))
set_option maxRecDepth 20000 in
set_option maxHeartbeats 20000000 in
theorem e_X8_serving_E {d : Nat} (hd : 6 ≤ d) {g1 g2 g3 g6 g7 g8 g9 : List pm_E} {v1 v3 : Value} {q : Nat × Nat × Nat} {s0 : cs_S} {s4 : cs_S} {s5 : cs_S} {a0 : Int32} {r : Int32} (H : f_X8_serving_E s0 s4 s5 a0 = some (.inl r)) : pm_Mt 118 d [.ref 0, .int a0] (cl_h (ct_x v1 (.ref 320) v3 s0) g1 g2 g3 (ct_p4 s4) (ct_e5 (.ref 256) (.ref 384) s5) g6 g7 g8 g9 q) (.inl (some (.int r))) (cl_h (ct_x v1 (.ref 320) v3 s0) g1 g2 g3 (ct_p4 s4) (ct_e5 (.ref 256) (.ref 384) s5) g6 g7 g8 g9 q) := by
  refine pm_Mt.of (by decide) (by decide +kernel) rfl rfl ?_
  obtain ⟨d, rfl⟩ : ∃ d', d = d' + 1 := ⟨d - 1, by omega⟩
  unfold f_X8_serving_E at H
  cases q2 : f_X2_hasDiskOrSpare s4 a0 with
  | none => rw [q2] at H; cases H
  | some r1 =>
   rw [q2] at H
   dsimp only at H
   refine pm_Wg.path (k := 7) (ds := []) (f' := (15, [some (.ref 0), some (.int a0), none], [.int a0, .ref 256], cl_h (ct_x v1 (.ref 320) v3 s0) g1 g2 g3 (ct_p4 s4) (ct_e5 (.ref 256) (.ref 384) s5) g6 g7 g8 g9 q)) tk_X8_serving (by omega) rfl trivial ?_
   refine pm_Wg.callV (m' := 32) (ix := 245) (rr := 190) (pl := 1290) (b := 256) (As := [.int a0]) (S := []) (by decide) rfl (pm_dec tk_X8_serving rfl) rfl rfl (by decide) rfl rfl (by decide) (Nat.le_of_ble_eq_true rfl) rfl (e_X2_hasDiskOrSpare (by omega) q2) ?_
   by_cases h3 : r1 = 0
   · rw [if_pos h3] at H
     have J := Option.some.inj H
     cases J
   · rw [if_neg h3] at H
     cases b4 : pm_inb a0 7 with
     | false => rw [b4] at H; cases H
     | true =>
      rw [b4] at H
      dsimp only at H
      by_cases h5 : (s5.2.1 14 (Int32.toNatClampNeg a0)) = (-1)
      · rw [if_pos h5] at H
        have J := Option.some.inj H
        injection J with JR
        subst JR
        refine pm_Wg.path (k := 13) (ds := [1, 0]) (f' := (64, [some (.ref 0), some (.int a0), some (.int (s5.2.1 14 (Int32.toNatClampNeg a0)))], [.int (-1)], cl_h (ct_x v1 (.ref 320) v3 s0) g1 g2 g3 (ct_p4 s4) (ct_e5 (.ref 256) (.ref 384) s5) g6 g7 g8 g9 q)) tk_X8_serving (by omega) rfl ⟨h5, pm_inb_vp b4, h3, trivial⟩ ?_
        exact pm_Wg.iret (pm_dec tk_X8_serving rfl) rfl rfl
      · rw [if_neg h5] at H
        cases q7 : f_X5_tenantBehind s5 (s5.2.1 14 (Int32.toNatClampNeg a0)) with
        | none => rw [q7] at H; cases H
        | some r6 =>
         rw [q7] at H
         dsimp only at H
         refine pm_Wg.path (k := 15) (ds := [1, 1]) (f' := (61, [some (.ref 0), some (.int a0), some (.int (s5.2.1 14 (Int32.toNatClampNeg a0)))], [.int (s5.2.1 14 (Int32.toNatClampNeg a0)), .ref 339], cl_h (ct_x v1 (.ref 320) v3 s0) g1 g2 g3 (ct_p4 s4) (ct_e5 (.ref 256) (.ref 384) s5) g6 g7 g8 g9 q)) tk_X8_serving (by omega) rfl ⟨h5, pm_inb_vp b4, h3, trivial⟩ ?_
         refine pm_Wg.callV (m' := 76) (ix := 256) (rr := 191) (pl := 1291) (b := 339) (As := [.int (s5.2.1 14 (Int32.toNatClampNeg a0))]) (S := []) (by decide) rfl (pm_dec tk_X8_serving rfl) rfl rfl (by decide) rfl rfl (by decide) (Nat.le_of_ble_eq_true rfl) rfl (e_X5_tenantBehind (by omega) q7) ?_
         have J := Option.some.inj H
         injection J with JR
         subst JR
         exact pm_Wg.iret (pm_dec tk_X8_serving rfl) rfl rfl
set_option maxRecDepth 20000 in
set_option maxHeartbeats 20000000 in
theorem e_X8_serving_E_t2 {d : Nat} (hd : 6 ≤ d) {g1 g2 g3 g6 g7 g8 g9 : List pm_E} {v1 v3 : Value} {q : Nat × Nat × Nat} {s0 : cs_S} {s4 : cs_S} {s5 : cs_S} {a0 : Int32} (H : f_X8_serving_E s0 s4 s5 a0 = some (.inr 2)) : pm_Mt 118 d [.ref 0, .int a0] (cl_h (ct_x v1 (.ref 320) v3 s0) g1 g2 g3 (ct_p4 s4) (ct_e5 (.ref 256) (.ref 384) s5) g6 g7 g8 g9 q) (.inr "java/util/NoSuchElementException") (cl_h (ct_x v1 (.ref 320) v3 s0) g1 g2 g3 (ct_p4 s4) (ct_e5 (.ref 256) (.ref 384) s5) g6 g7 g8 g9 (q.1, q.2.1 + 1, q.2.2 + 6)) := by
  refine pm_Mt.of (by decide) (by decide +kernel) rfl rfl ?_
  obtain ⟨d, rfl⟩ : ∃ d', d = d' + 1 := ⟨d - 1, by omega⟩
  unfold f_X8_serving_E at H
  cases q2 : f_X2_hasDiskOrSpare s4 a0 with
  | none => rw [q2] at H; cases H
  | some r1 =>
   rw [q2] at H
   dsimp only at H
   refine pm_Wg.path (k := 7) (ds := []) (f' := (15, [some (.ref 0), some (.int a0), none], [.int a0, .ref 256], cl_h (ct_x v1 (.ref 320) v3 s0) g1 g2 g3 (ct_p4 s4) (ct_e5 (.ref 256) (.ref 384) s5) g6 g7 g8 g9 q)) tk_X8_serving (by omega) rfl trivial ?_
   refine pm_Wg.callV (m' := 32) (ix := 245) (rr := 190) (pl := 1290) (b := 256) (As := [.int a0]) (S := []) (by decide) rfl (pm_dec tk_X8_serving rfl) rfl rfl (by decide) rfl rfl (by decide) (Nat.le_of_ble_eq_true rfl) rfl (e_X2_hasDiskOrSpare (by omega) q2) ?_
   by_cases h3 : r1 = 0
   · rw [if_pos h3] at H
     have J := Option.some.inj H
     refine pm_Wg.path (k := 1) (ds := [0]) (f' := (21, [some (.ref 0), some (.int a0), none], [], cl_h (ct_x v1 (.ref 320) v3 s0) g1 g2 g3 (ct_p4 s4) (ct_e5 (.ref 256) (.ref 384) s5) g6 g7 g8 g9 q)) tk_X8_serving (by omega) rfl ⟨h3, trivial⟩ ?_
     exact pm_Wg.throw (ik := 112) (ic := 116) (ix := 13) (rx := px_rx13) (k := 24) rfl rfl (by omega) px_NSE rfl rfl (by decide +kernel) (by decide +kernel) (by decide +kernel) (by decide +kernel) (by decide +kernel) (Nat.le_of_ble_eq_true rfl)
   · rw [if_neg h3] at H
     cases b4 : pm_inb a0 7 with
     | false => rw [b4] at H; cases H
     | true =>
      rw [b4] at H
      dsimp only at H
      by_cases h5 : (s5.2.1 14 (Int32.toNatClampNeg a0)) = (-1)
      · rw [if_pos h5] at H
        have J := Option.some.inj H
        cases J
      · rw [if_neg h5] at H
        cases q7 : f_X5_tenantBehind s5 (s5.2.1 14 (Int32.toNatClampNeg a0)) with
        | none => rw [q7] at H; cases H
        | some r6 =>
         rw [q7] at H
         dsimp only at H
         refine pm_Wg.path (k := 15) (ds := [1, 1]) (f' := (61, [some (.ref 0), some (.int a0), some (.int (s5.2.1 14 (Int32.toNatClampNeg a0)))], [.int (s5.2.1 14 (Int32.toNatClampNeg a0)), .ref 339], cl_h (ct_x v1 (.ref 320) v3 s0) g1 g2 g3 (ct_p4 s4) (ct_e5 (.ref 256) (.ref 384) s5) g6 g7 g8 g9 q)) tk_X8_serving (by omega) rfl ⟨h5, pm_inb_vp b4, h3, trivial⟩ ?_
         refine pm_Wg.callV (m' := 76) (ix := 256) (rr := 191) (pl := 1291) (b := 339) (As := [.int (s5.2.1 14 (Int32.toNatClampNeg a0))]) (S := []) (by decide) rfl (pm_dec tk_X8_serving rfl) rfl rfl (by decide) rfl rfl (by decide) (Nat.le_of_ble_eq_true rfl) rfl (e_X5_tenantBehind (by omega) q7) ?_
         have J := Option.some.inj H
         cases J

def tb_X8_busyUntil : List pm_I := [(0, .aload_n 0, 0, 0), (1, .getfield 20, 13, 0), (4, .ifnull 17, 21, 0), (7, .aload_n 0, 0, 0), (8, .getfield 20, 13, 0), (11, .getfield 79, 98, 0), (14, .iload_n 1, 0, 0), (15, .invokevirtual 245, 190, 0), (18, .ifCond .ne 13, 31, 0), (31, .aload_n 0, 0, 0), (32, .getfield 20, 13, 0), (35, .getfield 248, 110, 0), (38, .getfield 251, 34, 0), (41, .iload_n 1, 0, 0), (42, .iaload, 0, 0), (43, .iconst (-1), 1, 0), (44, .if_icmp .ne 7, 51, 0), (47, .iconst (-1), 1, 0), (48, .goto 15, 63, 0), (51, .aload_n 0, 0, 0), (52, .getfield 20, 13, 0), (55, .getfield 248, 110, 0), (58, .getfield 259, 37, 0), (61, .iload_n 1, 0, 0), (62, .iaload, 0, 0), (63, .ireturn, 0, 0)]
theorem tk_X8_busyUntil : ∀ e ∈ tb_X8_busyUntil, pm_ck 119 e = true := List.all_eq_true.mp (by decide +kernel)

def f_X8_busyUntil_N (s0 : cs_S) (a0 : Int32) : Option ((Int32 ⊕ Nat)) :=
  some (.inr 2)
set_option maxRecDepth 20000 in
set_option maxHeartbeats 20000000 in
theorem e_X8_busyUntil_N_t2 {d : Nat} (hd : 6 ≤ d) {g1 g2 g3 g4 g5 g6 g7 g8 g9 : List pm_E} {v1 v3 : Value} {q : Nat × Nat × Nat} {s0 : cs_S} {a0 : Int32} (H : f_X8_busyUntil_N s0 a0 = some (.inr 2)) : pm_Mt 119 d [.ref 0, .int a0] (cl_h (ct_x v1 (.null) v3 s0) g1 g2 g3 g4 g5 g6 g7 g8 g9 q) (.inr "java/util/NoSuchElementException") (cl_h (ct_x v1 (.null) v3 s0) g1 g2 g3 g4 g5 g6 g7 g8 g9 (q.1, q.2.1 + 1, q.2.2 + 6)) := by
  refine pm_Mt.of (by decide) (by decide +kernel) rfl rfl ?_
  obtain ⟨d, rfl⟩ : ∃ d', d = d' + 1 := ⟨d - 1, by omega⟩
  unfold f_X8_busyUntil_N at H
  have J := Option.some.inj H
  refine pm_Wg.path (k := 3) (ds := []) (f' := (21, [some (.ref 0), some (.int a0)], [], cl_h (ct_x v1 (.null) v3 s0) g1 g2 g3 g4 g5 g6 g7 g8 g9 q)) tk_X8_busyUntil (by omega) rfl trivial ?_
  exact pm_Wg.throw (ik := 112) (ic := 116) (ix := 13) (rx := px_rx13) (k := 24) rfl rfl (by omega) px_NSE rfl rfl (by decide +kernel) (by decide +kernel) (by decide +kernel) (by decide +kernel) (by decide +kernel) (Nat.le_of_ble_eq_true rfl)

def f_X8_busyUntil_E (s0 : cs_S) (s4 : cs_S) (s5 : cs_S) (a0 : Int32) : Option ((Int32 ⊕ Nat)) :=
  (match f_X2_hasDiskOrSpare s4 a0 with
  | none => none
  | some r1 =>
   (if r1 = 0 then
    some (.inr 2)
   else
    (match pm_inb a0 7 with
    | false => none
    | true =>
    (if (s5.2.1 14 (Int32.toNatClampNeg a0)) = (-1) then
     some (.inl (-1))
    else
     some (.inl (s5.2.1 15 (Int32.toNatClampNeg a0)))))))
set_option maxRecDepth 20000 in
set_option maxHeartbeats 20000000 in
theorem e_X8_busyUntil_E {d : Nat} (hd : 6 ≤ d) {g1 g2 g3 g6 g7 g8 g9 : List pm_E} {v1 v3 : Value} {q : Nat × Nat × Nat} {s0 : cs_S} {s4 : cs_S} {s5 : cs_S} {a0 : Int32} {r : Int32} (H : f_X8_busyUntil_E s0 s4 s5 a0 = some (.inl r)) : pm_Mt 119 d [.ref 0, .int a0] (cl_h (ct_x v1 (.ref 320) v3 s0) g1 g2 g3 (ct_p4 s4) (ct_e5 (.ref 256) (.ref 384) s5) g6 g7 g8 g9 q) (.inl (some (.int r))) (cl_h (ct_x v1 (.ref 320) v3 s0) g1 g2 g3 (ct_p4 s4) (ct_e5 (.ref 256) (.ref 384) s5) g6 g7 g8 g9 q) := by
  refine pm_Mt.of (by decide) (by decide +kernel) rfl rfl ?_
  obtain ⟨d, rfl⟩ : ∃ d', d = d' + 1 := ⟨d - 1, by omega⟩
  unfold f_X8_busyUntil_E at H
  cases q2 : f_X2_hasDiskOrSpare s4 a0 with
  | none => rw [q2] at H; cases H
  | some r1 =>
   rw [q2] at H
   dsimp only at H
   refine pm_Wg.path (k := 7) (ds := []) (f' := (15, [some (.ref 0), some (.int a0)], [.int a0, .ref 256], cl_h (ct_x v1 (.ref 320) v3 s0) g1 g2 g3 (ct_p4 s4) (ct_e5 (.ref 256) (.ref 384) s5) g6 g7 g8 g9 q)) tk_X8_busyUntil (by omega) rfl trivial ?_
   refine pm_Wg.callV (m' := 32) (ix := 245) (rr := 190) (pl := 1290) (b := 256) (As := [.int a0]) (S := []) (by decide) rfl (pm_dec tk_X8_busyUntil rfl) rfl rfl (by decide) rfl rfl (by decide) (Nat.le_of_ble_eq_true rfl) rfl (e_X2_hasDiskOrSpare (by omega) q2) ?_
   by_cases h3 : r1 = 0
   · rw [if_pos h3] at H
     have J := Option.some.inj H
     cases J
   · rw [if_neg h3] at H
     cases b4 : pm_inb a0 7 with
     | false => rw [b4] at H; cases H
     | true =>
      rw [b4] at H
      dsimp only at H
      by_cases h5 : (s5.2.1 14 (Int32.toNatClampNeg a0)) = (-1)
      · rw [if_pos h5] at H
        have J := Option.some.inj H
        injection J with JR
        subst JR
        refine pm_Wg.path (k := 11) (ds := [1, 0]) (f' := (63, [some (.ref 0), some (.int a0)], [.int (-1)], cl_h (ct_x v1 (.ref 320) v3 s0) g1 g2 g3 (ct_p4 s4) (ct_e5 (.ref 256) (.ref 384) s5) g6 g7 g8 g9 q)) tk_X8_busyUntil (by omega) rfl ⟨h5, pm_inb_vp b4, h3, trivial⟩ ?_
        exact pm_Wg.iret (pm_dec tk_X8_busyUntil rfl) rfl rfl
      · rw [if_neg h5] at H
        have J := Option.some.inj H
        injection J with JR
        subst JR
        refine pm_Wg.path (k := 15) (ds := [1, 1]) (f' := (63, [some (.ref 0), some (.int a0)], [.int (s5.2.1 15 (Int32.toNatClampNeg a0))], cl_h (ct_x v1 (.ref 320) v3 s0) g1 g2 g3 (ct_p4 s4) (ct_e5 (.ref 256) (.ref 384) s5) g6 g7 g8 g9 q)) tk_X8_busyUntil (by omega) rfl ⟨pm_inb_vp b4, h5, pm_inb_vp b4, h3, trivial⟩ ?_
        exact pm_Wg.iret (pm_dec tk_X8_busyUntil rfl) rfl rfl
set_option maxRecDepth 20000 in
set_option maxHeartbeats 20000000 in
theorem e_X8_busyUntil_E_t2 {d : Nat} (hd : 6 ≤ d) {g1 g2 g3 g6 g7 g8 g9 : List pm_E} {v1 v3 : Value} {q : Nat × Nat × Nat} {s0 : cs_S} {s4 : cs_S} {s5 : cs_S} {a0 : Int32} (H : f_X8_busyUntil_E s0 s4 s5 a0 = some (.inr 2)) : pm_Mt 119 d [.ref 0, .int a0] (cl_h (ct_x v1 (.ref 320) v3 s0) g1 g2 g3 (ct_p4 s4) (ct_e5 (.ref 256) (.ref 384) s5) g6 g7 g8 g9 q) (.inr "java/util/NoSuchElementException") (cl_h (ct_x v1 (.ref 320) v3 s0) g1 g2 g3 (ct_p4 s4) (ct_e5 (.ref 256) (.ref 384) s5) g6 g7 g8 g9 (q.1, q.2.1 + 1, q.2.2 + 6)) := by
  refine pm_Mt.of (by decide) (by decide +kernel) rfl rfl ?_
  obtain ⟨d, rfl⟩ : ∃ d', d = d' + 1 := ⟨d - 1, by omega⟩
  unfold f_X8_busyUntil_E at H
  cases q2 : f_X2_hasDiskOrSpare s4 a0 with
  | none => rw [q2] at H; cases H
  | some r1 =>
   rw [q2] at H
   dsimp only at H
   refine pm_Wg.path (k := 7) (ds := []) (f' := (15, [some (.ref 0), some (.int a0)], [.int a0, .ref 256], cl_h (ct_x v1 (.ref 320) v3 s0) g1 g2 g3 (ct_p4 s4) (ct_e5 (.ref 256) (.ref 384) s5) g6 g7 g8 g9 q)) tk_X8_busyUntil (by omega) rfl trivial ?_
   refine pm_Wg.callV (m' := 32) (ix := 245) (rr := 190) (pl := 1290) (b := 256) (As := [.int a0]) (S := []) (by decide) rfl (pm_dec tk_X8_busyUntil rfl) rfl rfl (by decide) rfl rfl (by decide) (Nat.le_of_ble_eq_true rfl) rfl (e_X2_hasDiskOrSpare (by omega) q2) ?_
   by_cases h3 : r1 = 0
   · rw [if_pos h3] at H
     have J := Option.some.inj H
     refine pm_Wg.path (k := 1) (ds := [0]) (f' := (21, [some (.ref 0), some (.int a0)], [], cl_h (ct_x v1 (.ref 320) v3 s0) g1 g2 g3 (ct_p4 s4) (ct_e5 (.ref 256) (.ref 384) s5) g6 g7 g8 g9 q)) tk_X8_busyUntil (by omega) rfl ⟨h3, trivial⟩ ?_
     exact pm_Wg.throw (ik := 112) (ic := 116) (ix := 13) (rx := px_rx13) (k := 24) rfl rfl (by omega) px_NSE rfl rfl (by decide +kernel) (by decide +kernel) (by decide +kernel) (by decide +kernel) (by decide +kernel) (Nat.le_of_ble_eq_true rfl)
   · rw [if_neg h3] at H
     cases b4 : pm_inb a0 7 with
     | false => rw [b4] at H; cases H
     | true =>
      rw [b4] at H
      dsimp only at H
      by_cases h5 : (s5.2.1 14 (Int32.toNatClampNeg a0)) = (-1)
      · rw [if_pos h5] at H
        have J := Option.some.inj H
        cases J
      · rw [if_neg h5] at H
        have J := Option.some.inj H
        cases J

def tb_X8_position : List pm_I := [(0, .aload_n 0, 0, 0), (1, .getfield 20, 13, 0), (4, .ifnull 17, 21, 0), (7, .aload_n 0, 0, 0), (8, .getfield 20, 13, 0), (11, .getfield 79, 98, 0), (14, .iload_n 1, 0, 0), (15, .invokevirtual 245, 190, 0), (18, .ifCond .ne 13, 31, 0), (31, .aload_n 0, 0, 0), (32, .getfield 20, 13, 0), (35, .getfield 248, 110, 0), (38, .getfield 262, 39, 0), (41, .iload_n 1, 0, 0), (42, .iaload, 0, 0), (43, .ireturn, 0, 0)]
theorem tk_X8_position : ∀ e ∈ tb_X8_position, pm_ck 120 e = true := List.all_eq_true.mp (by decide +kernel)

def f_X8_position_N (s0 : cs_S) (a0 : Int32) : Option ((Int32 ⊕ Nat)) :=
  some (.inr 2)
set_option maxRecDepth 20000 in
set_option maxHeartbeats 20000000 in
theorem e_X8_position_N_t2 {d : Nat} (hd : 6 ≤ d) {g1 g2 g3 g4 g5 g6 g7 g8 g9 : List pm_E} {v1 v3 : Value} {q : Nat × Nat × Nat} {s0 : cs_S} {a0 : Int32} (H : f_X8_position_N s0 a0 = some (.inr 2)) : pm_Mt 120 d [.ref 0, .int a0] (cl_h (ct_x v1 (.null) v3 s0) g1 g2 g3 g4 g5 g6 g7 g8 g9 q) (.inr "java/util/NoSuchElementException") (cl_h (ct_x v1 (.null) v3 s0) g1 g2 g3 g4 g5 g6 g7 g8 g9 (q.1, q.2.1 + 1, q.2.2 + 6)) := by
  refine pm_Mt.of (by decide) (by decide +kernel) rfl rfl ?_
  obtain ⟨d, rfl⟩ : ∃ d', d = d' + 1 := ⟨d - 1, by omega⟩
  unfold f_X8_position_N at H
  have J := Option.some.inj H
  refine pm_Wg.path (k := 3) (ds := []) (f' := (21, [some (.ref 0), some (.int a0)], [], cl_h (ct_x v1 (.null) v3 s0) g1 g2 g3 g4 g5 g6 g7 g8 g9 q)) tk_X8_position (by omega) rfl trivial ?_
  exact pm_Wg.throw (ik := 112) (ic := 116) (ix := 13) (rx := px_rx13) (k := 24) rfl rfl (by omega) px_NSE rfl rfl (by decide +kernel) (by decide +kernel) (by decide +kernel) (by decide +kernel) (by decide +kernel) (Nat.le_of_ble_eq_true rfl)

def f_X8_position_E (s0 : cs_S) (s4 : cs_S) (s5 : cs_S) (a0 : Int32) : Option ((Int32 ⊕ Nat)) :=
  (match f_X2_hasDiskOrSpare s4 a0 with
  | none => none
  | some r1 =>
   (if r1 = 0 then
    some (.inr 2)
   else
    (match pm_inb a0 7 with
    | false => none
    | true =>
    some (.inl (s5.2.1 16 (Int32.toNatClampNeg a0))))))
set_option maxRecDepth 20000 in
set_option maxHeartbeats 20000000 in
theorem e_X8_position_E {d : Nat} (hd : 6 ≤ d) {g1 g2 g3 g6 g7 g8 g9 : List pm_E} {v1 v3 : Value} {q : Nat × Nat × Nat} {s0 : cs_S} {s4 : cs_S} {s5 : cs_S} {a0 : Int32} {r : Int32} (H : f_X8_position_E s0 s4 s5 a0 = some (.inl r)) : pm_Mt 120 d [.ref 0, .int a0] (cl_h (ct_x v1 (.ref 320) v3 s0) g1 g2 g3 (ct_p4 s4) (ct_e5 (.ref 256) (.ref 384) s5) g6 g7 g8 g9 q) (.inl (some (.int r))) (cl_h (ct_x v1 (.ref 320) v3 s0) g1 g2 g3 (ct_p4 s4) (ct_e5 (.ref 256) (.ref 384) s5) g6 g7 g8 g9 q) := by
  refine pm_Mt.of (by decide) (by decide +kernel) rfl rfl ?_
  obtain ⟨d, rfl⟩ : ∃ d', d = d' + 1 := ⟨d - 1, by omega⟩
  unfold f_X8_position_E at H
  cases q2 : f_X2_hasDiskOrSpare s4 a0 with
  | none => rw [q2] at H; cases H
  | some r1 =>
   rw [q2] at H
   dsimp only at H
   refine pm_Wg.path (k := 7) (ds := []) (f' := (15, [some (.ref 0), some (.int a0)], [.int a0, .ref 256], cl_h (ct_x v1 (.ref 320) v3 s0) g1 g2 g3 (ct_p4 s4) (ct_e5 (.ref 256) (.ref 384) s5) g6 g7 g8 g9 q)) tk_X8_position (by omega) rfl trivial ?_
   refine pm_Wg.callV (m' := 32) (ix := 245) (rr := 190) (pl := 1290) (b := 256) (As := [.int a0]) (S := []) (by decide) rfl (pm_dec tk_X8_position rfl) rfl rfl (by decide) rfl rfl (by decide) (Nat.le_of_ble_eq_true rfl) rfl (e_X2_hasDiskOrSpare (by omega) q2) ?_
   by_cases h3 : r1 = 0
   · rw [if_pos h3] at H
     have J := Option.some.inj H
     cases J
   · rw [if_neg h3] at H
     cases b4 : pm_inb a0 7 with
     | false => rw [b4] at H; cases H
     | true =>
      rw [b4] at H
      dsimp only at H
      have J := Option.some.inj H
      injection J with JR
      subst JR
      refine pm_Wg.path (k := 7) (ds := [1]) (f' := (43, [some (.ref 0), some (.int a0)], [.int (s5.2.1 16 (Int32.toNatClampNeg a0))], cl_h (ct_x v1 (.ref 320) v3 s0) g1 g2 g3 (ct_p4 s4) (ct_e5 (.ref 256) (.ref 384) s5) g6 g7 g8 g9 q)) tk_X8_position (by omega) rfl ⟨pm_inb_vp b4, h3, trivial⟩ ?_
      exact pm_Wg.iret (pm_dec tk_X8_position rfl) rfl rfl
set_option maxRecDepth 20000 in
set_option maxHeartbeats 20000000 in
theorem e_X8_position_E_t2 {d : Nat} (hd : 6 ≤ d) {g1 g2 g3 g6 g7 g8 g9 : List pm_E} {v1 v3 : Value} {q : Nat × Nat × Nat} {s0 : cs_S} {s4 : cs_S} {s5 : cs_S} {a0 : Int32} (H : f_X8_position_E s0 s4 s5 a0 = some (.inr 2)) : pm_Mt 120 d [.ref 0, .int a0] (cl_h (ct_x v1 (.ref 320) v3 s0) g1 g2 g3 (ct_p4 s4) (ct_e5 (.ref 256) (.ref 384) s5) g6 g7 g8 g9 q) (.inr "java/util/NoSuchElementException") (cl_h (ct_x v1 (.ref 320) v3 s0) g1 g2 g3 (ct_p4 s4) (ct_e5 (.ref 256) (.ref 384) s5) g6 g7 g8 g9 (q.1, q.2.1 + 1, q.2.2 + 6)) := by
  refine pm_Mt.of (by decide) (by decide +kernel) rfl rfl ?_
  obtain ⟨d, rfl⟩ : ∃ d', d = d' + 1 := ⟨d - 1, by omega⟩
  unfold f_X8_position_E at H
  cases q2 : f_X2_hasDiskOrSpare s4 a0 with
  | none => rw [q2] at H; cases H
  | some r1 =>
   rw [q2] at H
   dsimp only at H
   refine pm_Wg.path (k := 7) (ds := []) (f' := (15, [some (.ref 0), some (.int a0)], [.int a0, .ref 256], cl_h (ct_x v1 (.ref 320) v3 s0) g1 g2 g3 (ct_p4 s4) (ct_e5 (.ref 256) (.ref 384) s5) g6 g7 g8 g9 q)) tk_X8_position (by omega) rfl trivial ?_
   refine pm_Wg.callV (m' := 32) (ix := 245) (rr := 190) (pl := 1290) (b := 256) (As := [.int a0]) (S := []) (by decide) rfl (pm_dec tk_X8_position rfl) rfl rfl (by decide) rfl rfl (by decide) (Nat.le_of_ble_eq_true rfl) rfl (e_X2_hasDiskOrSpare (by omega) q2) ?_
   by_cases h3 : r1 = 0
   · rw [if_pos h3] at H
     have J := Option.some.inj H
     refine pm_Wg.path (k := 1) (ds := [0]) (f' := (21, [some (.ref 0), some (.int a0)], [], cl_h (ct_x v1 (.ref 320) v3 s0) g1 g2 g3 (ct_p4 s4) (ct_e5 (.ref 256) (.ref 384) s5) g6 g7 g8 g9 q)) tk_X8_position (by omega) rfl ⟨h3, trivial⟩ ?_
     exact pm_Wg.throw (ik := 112) (ic := 116) (ix := 13) (rx := px_rx13) (k := 24) rfl rfl (by omega) px_NSE rfl rfl (by decide +kernel) (by decide +kernel) (by decide +kernel) (by decide +kernel) (by decide +kernel) (Nat.le_of_ble_eq_true rfl)
   · rw [if_neg h3] at H
     cases b4 : pm_inb a0 7 with
     | false => rw [b4] at H; cases H
     | true =>
      rw [b4] at H
      dsimp only at H
      have J := Option.some.inj H
      cases J

def tb_X8_busyTime : List pm_I := [(0, .aload_n 0, 0, 0), (1, .getfield 20, 13, 0), (4, .ifnull 17, 21, 0), (7, .aload_n 0, 0, 0), (8, .getfield 20, 13, 0), (11, .getfield 79, 98, 0), (14, .iload_n 1, 0, 0), (15, .invokevirtual 245, 190, 0), (18, .ifCond .ne 13, 31, 0), (31, .aload_n 0, 0, 0), (32, .getfield 20, 13, 0), (35, .getfield 248, 110, 0), (38, .getfield 265, 41, 0), (41, .iload_n 1, 0, 0), (42, .iaload, 0, 0), (43, .ireturn, 0, 0)]
theorem tk_X8_busyTime : ∀ e ∈ tb_X8_busyTime, pm_ck 121 e = true := List.all_eq_true.mp (by decide +kernel)

def f_X8_busyTime_N (s0 : cs_S) (a0 : Int32) : Option ((Int32 ⊕ Nat)) :=
  some (.inr 2)
set_option maxRecDepth 20000 in
set_option maxHeartbeats 20000000 in
theorem e_X8_busyTime_N_t2 {d : Nat} (hd : 6 ≤ d) {g1 g2 g3 g4 g5 g6 g7 g8 g9 : List pm_E} {v1 v3 : Value} {q : Nat × Nat × Nat} {s0 : cs_S} {a0 : Int32} (H : f_X8_busyTime_N s0 a0 = some (.inr 2)) : pm_Mt 121 d [.ref 0, .int a0] (cl_h (ct_x v1 (.null) v3 s0) g1 g2 g3 g4 g5 g6 g7 g8 g9 q) (.inr "java/util/NoSuchElementException") (cl_h (ct_x v1 (.null) v3 s0) g1 g2 g3 g4 g5 g6 g7 g8 g9 (q.1, q.2.1 + 1, q.2.2 + 6)) := by
  refine pm_Mt.of (by decide) (by decide +kernel) rfl rfl ?_
  obtain ⟨d, rfl⟩ : ∃ d', d = d' + 1 := ⟨d - 1, by omega⟩
  unfold f_X8_busyTime_N at H
  have J := Option.some.inj H
  refine pm_Wg.path (k := 3) (ds := []) (f' := (21, [some (.ref 0), some (.int a0)], [], cl_h (ct_x v1 (.null) v3 s0) g1 g2 g3 g4 g5 g6 g7 g8 g9 q)) tk_X8_busyTime (by omega) rfl trivial ?_
  exact pm_Wg.throw (ik := 112) (ic := 116) (ix := 13) (rx := px_rx13) (k := 24) rfl rfl (by omega) px_NSE rfl rfl (by decide +kernel) (by decide +kernel) (by decide +kernel) (by decide +kernel) (by decide +kernel) (Nat.le_of_ble_eq_true rfl)

def f_X8_busyTime_E (s0 : cs_S) (s4 : cs_S) (s5 : cs_S) (a0 : Int32) : Option ((Int32 ⊕ Nat)) :=
  (match f_X2_hasDiskOrSpare s4 a0 with
  | none => none
  | some r1 =>
   (if r1 = 0 then
    some (.inr 2)
   else
    (match pm_inb a0 7 with
    | false => none
    | true =>
    some (.inl (s5.2.1 17 (Int32.toNatClampNeg a0))))))
set_option maxRecDepth 20000 in
set_option maxHeartbeats 20000000 in
theorem e_X8_busyTime_E {d : Nat} (hd : 6 ≤ d) {g1 g2 g3 g6 g7 g8 g9 : List pm_E} {v1 v3 : Value} {q : Nat × Nat × Nat} {s0 : cs_S} {s4 : cs_S} {s5 : cs_S} {a0 : Int32} {r : Int32} (H : f_X8_busyTime_E s0 s4 s5 a0 = some (.inl r)) : pm_Mt 121 d [.ref 0, .int a0] (cl_h (ct_x v1 (.ref 320) v3 s0) g1 g2 g3 (ct_p4 s4) (ct_e5 (.ref 256) (.ref 384) s5) g6 g7 g8 g9 q) (.inl (some (.int r))) (cl_h (ct_x v1 (.ref 320) v3 s0) g1 g2 g3 (ct_p4 s4) (ct_e5 (.ref 256) (.ref 384) s5) g6 g7 g8 g9 q) := by
  refine pm_Mt.of (by decide) (by decide +kernel) rfl rfl ?_
  obtain ⟨d, rfl⟩ : ∃ d', d = d' + 1 := ⟨d - 1, by omega⟩
  unfold f_X8_busyTime_E at H
  cases q2 : f_X2_hasDiskOrSpare s4 a0 with
  | none => rw [q2] at H; cases H
  | some r1 =>
   rw [q2] at H
   dsimp only at H
   refine pm_Wg.path (k := 7) (ds := []) (f' := (15, [some (.ref 0), some (.int a0)], [.int a0, .ref 256], cl_h (ct_x v1 (.ref 320) v3 s0) g1 g2 g3 (ct_p4 s4) (ct_e5 (.ref 256) (.ref 384) s5) g6 g7 g8 g9 q)) tk_X8_busyTime (by omega) rfl trivial ?_
   refine pm_Wg.callV (m' := 32) (ix := 245) (rr := 190) (pl := 1290) (b := 256) (As := [.int a0]) (S := []) (by decide) rfl (pm_dec tk_X8_busyTime rfl) rfl rfl (by decide) rfl rfl (by decide) (Nat.le_of_ble_eq_true rfl) rfl (e_X2_hasDiskOrSpare (by omega) q2) ?_
   by_cases h3 : r1 = 0
   · rw [if_pos h3] at H
     have J := Option.some.inj H
     cases J
   · rw [if_neg h3] at H
     cases b4 : pm_inb a0 7 with
     | false => rw [b4] at H; cases H
     | true =>
      rw [b4] at H
      dsimp only at H
      have J := Option.some.inj H
      injection J with JR
      subst JR
      refine pm_Wg.path (k := 7) (ds := [1]) (f' := (43, [some (.ref 0), some (.int a0)], [.int (s5.2.1 17 (Int32.toNatClampNeg a0))], cl_h (ct_x v1 (.ref 320) v3 s0) g1 g2 g3 (ct_p4 s4) (ct_e5 (.ref 256) (.ref 384) s5) g6 g7 g8 g9 q)) tk_X8_busyTime (by omega) rfl ⟨pm_inb_vp b4, h3, trivial⟩ ?_
      exact pm_Wg.iret (pm_dec tk_X8_busyTime rfl) rfl rfl
set_option maxRecDepth 20000 in
set_option maxHeartbeats 20000000 in
theorem e_X8_busyTime_E_t2 {d : Nat} (hd : 6 ≤ d) {g1 g2 g3 g6 g7 g8 g9 : List pm_E} {v1 v3 : Value} {q : Nat × Nat × Nat} {s0 : cs_S} {s4 : cs_S} {s5 : cs_S} {a0 : Int32} (H : f_X8_busyTime_E s0 s4 s5 a0 = some (.inr 2)) : pm_Mt 121 d [.ref 0, .int a0] (cl_h (ct_x v1 (.ref 320) v3 s0) g1 g2 g3 (ct_p4 s4) (ct_e5 (.ref 256) (.ref 384) s5) g6 g7 g8 g9 q) (.inr "java/util/NoSuchElementException") (cl_h (ct_x v1 (.ref 320) v3 s0) g1 g2 g3 (ct_p4 s4) (ct_e5 (.ref 256) (.ref 384) s5) g6 g7 g8 g9 (q.1, q.2.1 + 1, q.2.2 + 6)) := by
  refine pm_Mt.of (by decide) (by decide +kernel) rfl rfl ?_
  obtain ⟨d, rfl⟩ : ∃ d', d = d' + 1 := ⟨d - 1, by omega⟩
  unfold f_X8_busyTime_E at H
  cases q2 : f_X2_hasDiskOrSpare s4 a0 with
  | none => rw [q2] at H; cases H
  | some r1 =>
   rw [q2] at H
   dsimp only at H
   refine pm_Wg.path (k := 7) (ds := []) (f' := (15, [some (.ref 0), some (.int a0)], [.int a0, .ref 256], cl_h (ct_x v1 (.ref 320) v3 s0) g1 g2 g3 (ct_p4 s4) (ct_e5 (.ref 256) (.ref 384) s5) g6 g7 g8 g9 q)) tk_X8_busyTime (by omega) rfl trivial ?_
   refine pm_Wg.callV (m' := 32) (ix := 245) (rr := 190) (pl := 1290) (b := 256) (As := [.int a0]) (S := []) (by decide) rfl (pm_dec tk_X8_busyTime rfl) rfl rfl (by decide) rfl rfl (by decide) (Nat.le_of_ble_eq_true rfl) rfl (e_X2_hasDiskOrSpare (by omega) q2) ?_
   by_cases h3 : r1 = 0
   · rw [if_pos h3] at H
     have J := Option.some.inj H
     refine pm_Wg.path (k := 1) (ds := [0]) (f' := (21, [some (.ref 0), some (.int a0)], [], cl_h (ct_x v1 (.ref 320) v3 s0) g1 g2 g3 (ct_p4 s4) (ct_e5 (.ref 256) (.ref 384) s5) g6 g7 g8 g9 q)) tk_X8_busyTime (by omega) rfl ⟨h3, trivial⟩ ?_
     exact pm_Wg.throw (ik := 112) (ic := 116) (ix := 13) (rx := px_rx13) (k := 24) rfl rfl (by omega) px_NSE rfl rfl (by decide +kernel) (by decide +kernel) (by decide +kernel) (by decide +kernel) (by decide +kernel) (Nat.le_of_ble_eq_true rfl)
   · rw [if_neg h3] at H
     cases b4 : pm_inb a0 7 with
     | false => rw [b4] at H; cases H
     | true =>
      rw [b4] at H
      dsimp only at H
      have J := Option.some.inj H
      cases J

def tb_X8_behind : List pm_I := [(0, .aload_n 0, 0, 0), (1, .getfield 20, 13, 0), (4, .ifnull 18, 22, 0), (7, .aload_n 0, 0, 0), (8, .getfield 20, 13, 0), (11, .getfield 79, 98, 0), (14, .iload_n 1, 0, 0), (15, .iload_n 2, 0, 0), (16, .invokevirtual 207, 181, 0), (19, .ifCond .ne 13, 32, 0), (32, .iload_n 1, 0, 0), (33, .iload_n 2, 0, 0), (34, .invokestatic 221, 184, 0), (37, .istore_n 3, 0, 0), (38, .aload_n 0, 0, 0), (39, .getfield 20, 13, 0), (42, .getfield 212, 108, 0), (45, .getfield 216, 20, 0), (48, .iload_n 3, 0, 0), (49, .iaload, 0, 0), (50, .ifCond .eq 28, 78, 0), (53, .aload_n 0, 0, 0), (54, .getfield 20, 13, 0), (57, .getfield 212, 108, 0), (60, .aload_n 0, 0, 0), (61, .getfield 20, 13, 0), (64, .getfield 212, 108, 0), (67, .getfield 227, 16, 0), (70, .iload_n 3, 0, 0), (71, .iaload, 0, 0), (72, .invokevirtual 230, 187, 0), (75, .ifCond .ne 5, 80, 0), (78, .iconst 0, 2, 0), (79, .ireturn, 0, 0), (80, .aload_n 0, 0, 0), (81, .getfield 20, 13, 0), (84, .getfield 212, 108, 0), (87, .getfield 233, 25, 0), (90, .aload_n 0, 0, 0), (91, .getfield 20, 13, 0), (94, .getfield 212, 108, 0), (97, .getfield 227, 16, 0), (100, .iload_n 3, 0, 0), (101, .iaload, 0, 0), (102, .laload, 0, 0), (103, .ldc2_w 268, 4, 0), (106, .invokestatic 270, 200, 0), (109, .lstore 4, 0, 0), (111, .lload 4, 0, 0), (113, .aload_n 0, 0, 0), (114, .getfield 20, 13, 0), (117, .getfield 83, 106, 0), (120, .i2l, 0, 0), (121, .lcmp, 0, 0), (122, .ifCond .lt 7, 129, 0), (125, .iconst 0, 2, 0), (126, .goto 15, 141, 0), (129, .aload_n 0, 0, 0), (130, .getfield 20, 13, 0), (133, .getfield 83, 106, 0), (136, .i2l, 0, 0), (137, .lload 4, 0, 0), (139, .lsub, 0, 0), (140, .l2i, 0, 0), (141, .ireturn, 0, 0)]
theorem tk_X8_behind : ∀ e ∈ tb_X8_behind, pm_ck 122 e = true := List.all_eq_true.mp (by decide +kernel)

def f_X8_behind_N (s0 : cs_S) (a0 : Int32) (a1 : Int32) : Option ((Int32 ⊕ Nat)) :=
  some (.inr 2)
set_option maxRecDepth 20000 in
set_option maxHeartbeats 20000000 in
theorem e_X8_behind_N_t2 {d : Nat} (hd : 6 ≤ d) {g1 g2 g3 g4 g5 g6 g7 g8 g9 : List pm_E} {v1 v3 : Value} {q : Nat × Nat × Nat} {s0 : cs_S} {a0 : Int32} {a1 : Int32} (H : f_X8_behind_N s0 a0 a1 = some (.inr 2)) : pm_Mt 122 d [.ref 0, .int a0, .int a1] (cl_h (ct_x v1 (.null) v3 s0) g1 g2 g3 g4 g5 g6 g7 g8 g9 q) (.inr "java/util/NoSuchElementException") (cl_h (ct_x v1 (.null) v3 s0) g1 g2 g3 g4 g5 g6 g7 g8 g9 (q.1, q.2.1 + 1, q.2.2 + 6)) := by
  refine pm_Mt.of (by decide) (by decide +kernel) rfl rfl ?_
  obtain ⟨d, rfl⟩ : ∃ d', d = d' + 1 := ⟨d - 1, by omega⟩
  unfold f_X8_behind_N at H
  have J := Option.some.inj H
  refine pm_Wg.path (k := 3) (ds := []) (f' := (22, [some (.ref 0), some (.int a0), some (.int a1), none, none, none], [], cl_h (ct_x v1 (.null) v3 s0) g1 g2 g3 g4 g5 g6 g7 g8 g9 q)) tk_X8_behind (by omega) rfl trivial ?_
  exact pm_Wg.throw (ik := 112) (ic := 116) (ix := 13) (rx := px_rx13) (k := 29) rfl rfl (by omega) px_NSE rfl rfl (by decide +kernel) (by decide +kernel) (by decide +kernel) (by decide +kernel) (by decide +kernel) (Nat.le_of_ble_eq_true rfl)

def f_X8_behind_E (s0 : cs_S) (s4 : cs_S) (s5 : cs_S) (a0 : Int32) (a1 : Int32) : Option ((Int32 ⊕ Nat)) :=
  (match f_X2_hasQueue s4 a0 a1 with
  | none => none
  | some r1 =>
   (if r1 = 0 then
    some (.inr 2)
   else
    (match f_X3_numberOf a0 a1 with
    | none => none
    | some r4 =>
     (match pm_inb r4 42 with
     | false => none
     | true =>
     (if (s5.2.1 4 (Int32.toNatClampNeg r4)) = 0 then
      some (.inl 0)
     else
      (match f_X3_hasTagR s5 (s5.2.1 2 (Int32.toNatClampNeg r4)) with
      | none => none
      | some r9 =>
       (if r9 = 0 then
        some (.inl 0)
       else
        (match pm_inb (s5.2.1 2 (Int32.toNatClampNeg r4)) 3248 with
        | false => none
        | true =>
        (match f_J9_floorDiv_f86c9 (s5.2.2 8 (Int32.toNatClampNeg (s5.2.1 2 (Int32.toNatClampNeg r4)))) 1000 with
        | none => none
        | some r14 =>
         (if (lg_cmp r14 (Int32.toInt64 (s5.1 0 4))) < 0 then
          some (.inl (Int64.toInt32 ((Int32.toInt64 (s5.1 0 4)) - r14)))
         else
          some (.inl 0)))))))))))
set_option maxRecDepth 20000 in
set_option maxHeartbeats 20000000 in
theorem e_X8_behind_E {d : Nat} (hd : 6 ≤ d) {g1 g2 g3 g6 g7 g8 g9 : List pm_E} {v1 v3 : Value} {q : Nat × Nat × Nat} {s0 : cs_S} {s4 : cs_S} {s5 : cs_S} {a0 : Int32} {a1 : Int32} {r : Int32} (H : f_X8_behind_E s0 s4 s5 a0 a1 = some (.inl r)) : pm_Mt 122 d [.ref 0, .int a0, .int a1] (cl_h (ct_x v1 (.ref 320) v3 s0) g1 g2 g3 (ct_p4 s4) (ct_e5 (.ref 256) (.ref 384) s5) g6 g7 g8 g9 q) (.inl (some (.int r))) (cl_h (ct_x v1 (.ref 320) v3 s0) g1 g2 g3 (ct_p4 s4) (ct_e5 (.ref 256) (.ref 384) s5) g6 g7 g8 g9 q) := by
  refine pm_Mt.of (by decide) (by decide +kernel) rfl rfl ?_
  obtain ⟨d, rfl⟩ : ∃ d', d = d' + 1 := ⟨d - 1, by omega⟩
  unfold f_X8_behind_E at H
  cases q2 : f_X2_hasQueue s4 a0 a1 with
  | none => rw [q2] at H; cases H
  | some r1 =>
   rw [q2] at H
   dsimp only at H
   refine pm_Wg.path (k := 8) (ds := []) (f' := (16, [some (.ref 0), some (.int a0), some (.int a1), none, none, none], [.int a1, .int a0, .ref 256], cl_h (ct_x v1 (.ref 320) v3 s0) g1 g2 g3 (ct_p4 s4) (ct_e5 (.ref 256) (.ref 384) s5) g6 g7 g8 g9 q)) tk_X8_behind (by omega) rfl trivial ?_
   refine pm_Wg.callV (m' := 34) (ix := 207) (rr := 181) (pl := 1262) (b := 256) (As := [.int a0, .int a1]) (S := []) (by decide) rfl (pm_dec tk_X8_behind rfl) rfl rfl (by decide) rfl rfl (by decide) (Nat.le_of_ble_eq_true rfl) rfl (e_X2_hasQueue (by omega) q2) ?_
   by_cases h3 : r1 = 0
   · rw [if_pos h3] at H
     have J := Option.some.inj H
     cases J
   · rw [if_neg h3] at H
     cases q5 : f_X3_numberOf a0 a1 with
     | none => rw [q5] at H; cases H
     | some r4 =>
      rw [q5] at H
      dsimp only at H
      refine pm_Wg.path (k := 3) (ds := [1]) (f' := (34, [some (.ref 0), some (.int a0), some (.int a1), none, none, none], [.int a1, .int a0], cl_h (ct_x v1 (.ref 320) v3 s0) g1 g2 g3 (ct_p4 s4) (ct_e5 (.ref 256) (.ref 384) s5) g6 g7 g8 g9 q)) tk_X8_behind (by omega) rfl ⟨h3, trivial⟩ ?_
      refine pm_Wg.callS (m' := 42) (ix := 221) (rr := 184) (pl := 1272) (As := [.int a0, .int a1]) (S := []) (by decide) rfl (pm_dec tk_X8_behind rfl) rfl rfl rfl (Nat.le_of_ble_eq_true rfl) rfl (e_X3_numberOf (by omega) q5) ?_
      cases b6 : pm_inb r4 42 with
      | false => rw [b6] at H; cases H
      | true =>
       rw [b6] at H
       dsimp only at H
       by_cases h7 : (s5.2.1 4 (Int32.toNatClampNeg r4)) = 0
       · rw [if_pos h7] at H
         have J := Option.some.inj H
         injection J with JR
         subst JR
         refine pm_Wg.path (k := 9) (ds := [1]) (f' := (79, [some (.ref 0), some (.int a0), some (.int a1), some (.int r4), none, none], [.int 0], cl_h (ct_x v1 (.ref 320) v3 s0) g1 g2 g3 (ct_p4 s4) (ct_e5 (.ref 256) (.ref 384) s5) g6 g7 g8 g9 q)) tk_X8_behind (by omega) rfl ⟨h7, pm_inb_vp b6, trivial⟩ ?_
         exact pm_Wg.iret (pm_dec tk_X8_behind rfl) rfl rfl
       · rw [if_neg h7] at H
         cases q10 : f_X3_hasTagR s5 (s5.2.1 2 (Int32.toNatClampNeg r4)) with
         | none => rw [q10] at H; cases H
         | some r9 =>
          rw [q10] at H
          dsimp only at H
          refine pm_Wg.path (k := 17) (ds := [0]) (f' := (72, [some (.ref 0), some (.int a0), some (.int a1), some (.int r4), none, none], [.int (s5.2.1 2 (Int32.toNatClampNeg r4)), .ref 321], cl_h (ct_x v1 (.ref 320) v3 s0) g1 g2 g3 (ct_p4 s4) (ct_e5 (.ref 256) (.ref 384) s5) g6 g7 g8 g9 q)) tk_X8_behind (by omega) rfl ⟨pm_inb_vp b6, h7, pm_inb_vp b6, trivial⟩ ?_
          refine pm_Wg.callV (m' := 50) (ix := 230) (rr := 187) (pl := 1281) (b := 321) (As := [.int (s5.2.1 2 (Int32.toNatClampNeg r4))]) (S := []) (by decide) rfl (pm_dec tk_X8_behind rfl) rfl rfl (by decide) rfl rfl (by decide) (Nat.le_of_ble_eq_true rfl) rfl (e_X3_hasTagR (by omega) q10) ?_
          by_cases h11 : r9 = 0
          · rw [if_pos h11] at H
            have J := Option.some.inj H
            injection J with JR
            subst JR
            refine pm_Wg.path (k := 2) (ds := [0]) (f' := (79, [some (.ref 0), some (.int a0), some (.int a1), some (.int r4), none, none], [.int 0], cl_h (ct_x v1 (.ref 320) v3 s0) g1 g2 g3 (ct_p4 s4) (ct_e5 (.ref 256) (.ref 384) s5) g6 g7 g8 g9 q)) tk_X8_behind (by omega) rfl ⟨h11, trivial⟩ ?_
            exact pm_Wg.iret (pm_dec tk_X8_behind rfl) rfl rfl
          · rw [if_neg h11] at H
            cases b13 : pm_inb (s5.2.1 2 (Int32.toNatClampNeg r4)) 3248 with
            | false => rw [b13] at H; cases H
            | true =>
             rw [b13] at H
             dsimp only at H
             cases q15 : f_J9_floorDiv_f86c9 (s5.2.2 8 (Int32.toNatClampNeg (s5.2.1 2 (Int32.toNatClampNeg r4)))) 1000 with
             | none => rw [q15] at H; cases H
             | some r14 =>
              rw [q15] at H
              dsimp only at H
              refine pm_Wg.path (k := 13) (ds := [1]) (f' := (106, [some (.ref 0), some (.int a0), some (.int a1), some (.int r4), none, none], [.long 1000, .long (s5.2.2 8 (Int32.toNatClampNeg (s5.2.1 2 (Int32.toNatClampNeg r4))))], cl_h (ct_x v1 (.ref 320) v3 s0) g1 g2 g3 (ct_p4 s4) (ct_e5 (.ref 256) (.ref 384) s5) g6 g7 g8 g9 q)) tk_X8_behind (by omega) rfl ⟨pm_inb_vp b13, pm_inb_vp b6, h11, trivial⟩ ?_
              refine pm_Wg.callS (m' := 290) (ix := 270) (rr := 200) (pl := 1324) (As := [.long (s5.2.2 8 (Int32.toNatClampNeg (s5.2.1 2 (Int32.toNatClampNeg r4)))), .long 1000]) (S := []) (by decide) rfl (pm_dec tk_X8_behind rfl) rfl rfl rfl (Nat.le_of_ble_eq_true rfl) rfl (e_J9_floorDiv_f86c9 (by omega) q15) ?_
              by_cases h16 : (lg_cmp r14 (Int32.toInt64 (s5.1 0 4))) < 0
              · rw [if_pos h16] at H
                have J := Option.some.inj H
                injection J with JR
                subst JR
                refine pm_Wg.path (k := 15) (ds := [1]) (f' := (141, [some (.ref 0), some (.int a0), some (.int a1), some (.int r4), some (.long r14), none], [.int (Int64.toInt32 ((Int32.toInt64 (s5.1 0 4)) - r14))], cl_h (ct_x v1 (.ref 320) v3 s0) g1 g2 g3 (ct_p4 s4) (ct_e5 (.ref 256) (.ref 384) s5) g6 g7 g8 g9 q)) tk_X8_behind (by omega) rfl ⟨h16, trivial⟩ ?_
                exact pm_Wg.iret (pm_dec tk_X8_behind rfl) rfl rfl
              · rw [if_neg h16] at H
                have J := Option.some.inj H
                injection J with JR
                subst JR
                refine pm_Wg.path (k := 10) (ds := [0]) (f' := (141, [some (.ref 0), some (.int a0), some (.int a1), some (.int r4), some (.long r14), none], [.int 0], cl_h (ct_x v1 (.ref 320) v3 s0) g1 g2 g3 (ct_p4 s4) (ct_e5 (.ref 256) (.ref 384) s5) g6 g7 g8 g9 q)) tk_X8_behind (by omega) rfl ⟨h16, trivial⟩ ?_
                exact pm_Wg.iret (pm_dec tk_X8_behind rfl) rfl rfl
set_option maxRecDepth 20000 in
set_option maxHeartbeats 20000000 in
theorem e_X8_behind_E_t2 {d : Nat} (hd : 6 ≤ d) {g1 g2 g3 g6 g7 g8 g9 : List pm_E} {v1 v3 : Value} {q : Nat × Nat × Nat} {s0 : cs_S} {s4 : cs_S} {s5 : cs_S} {a0 : Int32} {a1 : Int32} (H : f_X8_behind_E s0 s4 s5 a0 a1 = some (.inr 2)) : pm_Mt 122 d [.ref 0, .int a0, .int a1] (cl_h (ct_x v1 (.ref 320) v3 s0) g1 g2 g3 (ct_p4 s4) (ct_e5 (.ref 256) (.ref 384) s5) g6 g7 g8 g9 q) (.inr "java/util/NoSuchElementException") (cl_h (ct_x v1 (.ref 320) v3 s0) g1 g2 g3 (ct_p4 s4) (ct_e5 (.ref 256) (.ref 384) s5) g6 g7 g8 g9 (q.1, q.2.1 + 1, q.2.2 + 6)) := by
  refine pm_Mt.of (by decide) (by decide +kernel) rfl rfl ?_
  obtain ⟨d, rfl⟩ : ∃ d', d = d' + 1 := ⟨d - 1, by omega⟩
  unfold f_X8_behind_E at H
  cases q2 : f_X2_hasQueue s4 a0 a1 with
  | none => rw [q2] at H; cases H
  | some r1 =>
   rw [q2] at H
   dsimp only at H
   refine pm_Wg.path (k := 8) (ds := []) (f' := (16, [some (.ref 0), some (.int a0), some (.int a1), none, none, none], [.int a1, .int a0, .ref 256], cl_h (ct_x v1 (.ref 320) v3 s0) g1 g2 g3 (ct_p4 s4) (ct_e5 (.ref 256) (.ref 384) s5) g6 g7 g8 g9 q)) tk_X8_behind (by omega) rfl trivial ?_
   refine pm_Wg.callV (m' := 34) (ix := 207) (rr := 181) (pl := 1262) (b := 256) (As := [.int a0, .int a1]) (S := []) (by decide) rfl (pm_dec tk_X8_behind rfl) rfl rfl (by decide) rfl rfl (by decide) (Nat.le_of_ble_eq_true rfl) rfl (e_X2_hasQueue (by omega) q2) ?_
   by_cases h3 : r1 = 0
   · rw [if_pos h3] at H
     have J := Option.some.inj H
     refine pm_Wg.path (k := 1) (ds := [0]) (f' := (22, [some (.ref 0), some (.int a0), some (.int a1), none, none, none], [], cl_h (ct_x v1 (.ref 320) v3 s0) g1 g2 g3 (ct_p4 s4) (ct_e5 (.ref 256) (.ref 384) s5) g6 g7 g8 g9 q)) tk_X8_behind (by omega) rfl ⟨h3, trivial⟩ ?_
     exact pm_Wg.throw (ik := 112) (ic := 116) (ix := 13) (rx := px_rx13) (k := 29) rfl rfl (by omega) px_NSE rfl rfl (by decide +kernel) (by decide +kernel) (by decide +kernel) (by decide +kernel) (by decide +kernel) (Nat.le_of_ble_eq_true rfl)
   · rw [if_neg h3] at H
     cases q5 : f_X3_numberOf a0 a1 with
     | none => rw [q5] at H; cases H
     | some r4 =>
      rw [q5] at H
      dsimp only at H
      refine pm_Wg.path (k := 3) (ds := [1]) (f' := (34, [some (.ref 0), some (.int a0), some (.int a1), none, none, none], [.int a1, .int a0], cl_h (ct_x v1 (.ref 320) v3 s0) g1 g2 g3 (ct_p4 s4) (ct_e5 (.ref 256) (.ref 384) s5) g6 g7 g8 g9 q)) tk_X8_behind (by omega) rfl ⟨h3, trivial⟩ ?_
      refine pm_Wg.callS (m' := 42) (ix := 221) (rr := 184) (pl := 1272) (As := [.int a0, .int a1]) (S := []) (by decide) rfl (pm_dec tk_X8_behind rfl) rfl rfl rfl (Nat.le_of_ble_eq_true rfl) rfl (e_X3_numberOf (by omega) q5) ?_
      cases b6 : pm_inb r4 42 with
      | false => rw [b6] at H; cases H
      | true =>
       rw [b6] at H
       dsimp only at H
       by_cases h7 : (s5.2.1 4 (Int32.toNatClampNeg r4)) = 0
       · rw [if_pos h7] at H
         have J := Option.some.inj H
         cases J
       · rw [if_neg h7] at H
         cases q10 : f_X3_hasTagR s5 (s5.2.1 2 (Int32.toNatClampNeg r4)) with
         | none => rw [q10] at H; cases H
         | some r9 =>
          rw [q10] at H
          dsimp only at H
          refine pm_Wg.path (k := 17) (ds := [0]) (f' := (72, [some (.ref 0), some (.int a0), some (.int a1), some (.int r4), none, none], [.int (s5.2.1 2 (Int32.toNatClampNeg r4)), .ref 321], cl_h (ct_x v1 (.ref 320) v3 s0) g1 g2 g3 (ct_p4 s4) (ct_e5 (.ref 256) (.ref 384) s5) g6 g7 g8 g9 q)) tk_X8_behind (by omega) rfl ⟨pm_inb_vp b6, h7, pm_inb_vp b6, trivial⟩ ?_
          refine pm_Wg.callV (m' := 50) (ix := 230) (rr := 187) (pl := 1281) (b := 321) (As := [.int (s5.2.1 2 (Int32.toNatClampNeg r4))]) (S := []) (by decide) rfl (pm_dec tk_X8_behind rfl) rfl rfl (by decide) rfl rfl (by decide) (Nat.le_of_ble_eq_true rfl) rfl (e_X3_hasTagR (by omega) q10) ?_
          by_cases h11 : r9 = 0
          · rw [if_pos h11] at H
            have J := Option.some.inj H
            cases J
          · rw [if_neg h11] at H
            cases b13 : pm_inb (s5.2.1 2 (Int32.toNatClampNeg r4)) 3248 with
            | false => rw [b13] at H; cases H
            | true =>
             rw [b13] at H
             dsimp only at H
             cases q15 : f_J9_floorDiv_f86c9 (s5.2.2 8 (Int32.toNatClampNeg (s5.2.1 2 (Int32.toNatClampNeg r4)))) 1000 with
             | none => rw [q15] at H; cases H
             | some r14 =>
              rw [q15] at H
              dsimp only at H
              refine pm_Wg.path (k := 13) (ds := [1]) (f' := (106, [some (.ref 0), some (.int a0), some (.int a1), some (.int r4), none, none], [.long 1000, .long (s5.2.2 8 (Int32.toNatClampNeg (s5.2.1 2 (Int32.toNatClampNeg r4))))], cl_h (ct_x v1 (.ref 320) v3 s0) g1 g2 g3 (ct_p4 s4) (ct_e5 (.ref 256) (.ref 384) s5) g6 g7 g8 g9 q)) tk_X8_behind (by omega) rfl ⟨pm_inb_vp b13, pm_inb_vp b6, h11, trivial⟩ ?_
              refine pm_Wg.callS (m' := 290) (ix := 270) (rr := 200) (pl := 1324) (As := [.long (s5.2.2 8 (Int32.toNatClampNeg (s5.2.1 2 (Int32.toNatClampNeg r4)))), .long 1000]) (S := []) (by decide) rfl (pm_dec tk_X8_behind rfl) rfl rfl rfl (Nat.le_of_ble_eq_true rfl) rfl (e_J9_floorDiv_f86c9 (by omega) q15) ?_
              by_cases h16 : (lg_cmp r14 (Int32.toInt64 (s5.1 0 4))) < 0
              · rw [if_pos h16] at H
                have J := Option.some.inj H
                cases J
              · rw [if_neg h16] at H
                have J := Option.some.inj H
                cases J

def tb_X8_chosen : List pm_I := [(0, .aload_n 0, 0, 0), (1, .getfield 20, 13, 0), (4, .ifnull 18, 22, 0), (7, .aload_n 0, 0, 0), (8, .getfield 20, 13, 0), (11, .getfield 79, 98, 0), (14, .iload_n 1, 0, 0), (15, .iconst 0, 2, 0), (16, .invokevirtual 132, 163, 0), (19, .ifCond .ne 13, 32, 0), (32, .iload_n 2, 0, 0), (33, .ifCond .lt 8, 41, 0), (36, .iload_n 2, 0, 0), (37, .iconst 3, 5, 0), (38, .if_icmp .lt 14, 52, 0), (52, .aload_n 0, 0, 0), (53, .getfield 20, 13, 0), (56, .getfield 248, 110, 0), (59, .getfield 278, 44, 0), (62, .iload_n 1, 0, 0), (63, .iconst 3, 5, 0), (64, .imul, 0, 0), (65, .iload_n 2, 0, 0), (66, .iadd, 0, 0), (67, .iaload, 0, 0), (68, .ireturn, 0, 0)]
theorem tk_X8_chosen : ∀ e ∈ tb_X8_chosen, pm_ck 123 e = true := List.all_eq_true.mp (by decide +kernel)

def f_X8_chosen_N (s0 : cs_S) (a0 : Int32) (a1 : Int32) : Option ((Int32 ⊕ Nat)) :=
  some (.inr 2)
set_option maxRecDepth 20000 in
set_option maxHeartbeats 20000000 in
theorem e_X8_chosen_N_t2 {d : Nat} (hd : 6 ≤ d) {g1 g2 g3 g4 g5 g6 g7 g8 g9 : List pm_E} {v1 v3 : Value} {q : Nat × Nat × Nat} {s0 : cs_S} {a0 : Int32} {a1 : Int32} (H : f_X8_chosen_N s0 a0 a1 = some (.inr 2)) : pm_Mt 123 d [.ref 0, .int a0, .int a1] (cl_h (ct_x v1 (.null) v3 s0) g1 g2 g3 g4 g5 g6 g7 g8 g9 q) (.inr "java/util/NoSuchElementException") (cl_h (ct_x v1 (.null) v3 s0) g1 g2 g3 g4 g5 g6 g7 g8 g9 (q.1, q.2.1 + 1, q.2.2 + 6)) := by
  refine pm_Mt.of (by decide) (by decide +kernel) rfl rfl ?_
  obtain ⟨d, rfl⟩ : ∃ d', d = d' + 1 := ⟨d - 1, by omega⟩
  unfold f_X8_chosen_N at H
  have J := Option.some.inj H
  refine pm_Wg.path (k := 3) (ds := []) (f' := (22, [some (.ref 0), some (.int a0), some (.int a1)], [], cl_h (ct_x v1 (.null) v3 s0) g1 g2 g3 g4 g5 g6 g7 g8 g9 q)) tk_X8_chosen (by omega) rfl trivial ?_
  exact pm_Wg.throw (ik := 112) (ic := 116) (ix := 13) (rx := px_rx13) (k := 19) rfl rfl (by omega) px_NSE rfl rfl (by decide +kernel) (by decide +kernel) (by decide +kernel) (by decide +kernel) (by decide +kernel) (Nat.le_of_ble_eq_true rfl)

def f_X8_chosen_E (s0 : cs_S) (s4 : cs_S) (s5 : cs_S) (a0 : Int32) (a1 : Int32) : Option ((Int32 ⊕ Nat)) :=
  (match f_X2_hasTenant s4 a0 0 with
  | none => none
  | some r1 =>
   (if r1 = 0 then
    some (.inr 2)
   else
    (if a1 < 0 then
     some (.inr 1)
    else
     (if a1 < 3 then
      (match pm_inb ((a0 * 3) + a1) 18 with
      | false => none
      | true =>
      some (.inl (s5.2.1 18 (Int32.toNatClampNeg ((a0 * 3) + a1)))))
     else
      some (.inr 1)))))
set_option maxRecDepth 20000 in
set_option maxHeartbeats 20000000 in
theorem e_X8_chosen_E {d : Nat} (hd : 6 ≤ d) {g1 g2 g3 g6 g7 g8 g9 : List pm_E} {v1 v3 : Value} {q : Nat × Nat × Nat} {s0 : cs_S} {s4 : cs_S} {s5 : cs_S} {a0 : Int32} {a1 : Int32} {r : Int32} (H : f_X8_chosen_E s0 s4 s5 a0 a1 = some (.inl r)) : pm_Mt 123 d [.ref 0, .int a0, .int a1] (cl_h (ct_x v1 (.ref 320) v3 s0) g1 g2 g3 (ct_p4 s4) (ct_e5 (.ref 256) (.ref 384) s5) g6 g7 g8 g9 q) (.inl (some (.int r))) (cl_h (ct_x v1 (.ref 320) v3 s0) g1 g2 g3 (ct_p4 s4) (ct_e5 (.ref 256) (.ref 384) s5) g6 g7 g8 g9 q) := by
  refine pm_Mt.of (by decide) (by decide +kernel) rfl rfl ?_
  obtain ⟨d, rfl⟩ : ∃ d', d = d' + 1 := ⟨d - 1, by omega⟩
  unfold f_X8_chosen_E at H
  cases q2 : f_X2_hasTenant s4 a0 0 with
  | none => rw [q2] at H; cases H
  | some r1 =>
   rw [q2] at H
   dsimp only at H
   refine pm_Wg.path (k := 8) (ds := []) (f' := (16, [some (.ref 0), some (.int a0), some (.int a1)], [.int 0, .int a0, .ref 256], cl_h (ct_x v1 (.ref 320) v3 s0) g1 g2 g3 (ct_p4 s4) (ct_e5 (.ref 256) (.ref 384) s5) g6 g7 g8 g9 q)) tk_X8_chosen (by omega) rfl trivial ?_
   refine pm_Wg.callV (m' := 33) (ix := 132) (rr := 163) (pl := 1193) (b := 256) (As := [.int a0, .int 0]) (S := []) (by decide) rfl (pm_dec tk_X8_chosen rfl) rfl rfl (by decide) rfl rfl (by decide) (Nat.le_of_ble_eq_true rfl) rfl (e_X2_hasTenant (by omega) q2) ?_
   by_cases h3 : r1 = 0
   · rw [if_pos h3] at H
     have J := Option.some.inj H
     cases J
   · rw [if_neg h3] at H
     by_cases h4 : a1 < 0
     · rw [if_pos h4] at H
       have J := Option.some.inj H
       cases J
     · rw [if_neg h4] at H
       by_cases h5 : a1 < 3
       · rw [if_pos h5] at H
         cases b6 : pm_inb ((a0 * 3) + a1) 18 with
         | false => rw [b6] at H; cases H
         | true =>
          rw [b6] at H
          dsimp only at H
          have J := Option.some.inj H
          injection J with JR
          subst JR
          refine pm_Wg.path (k := 16) (ds := [1, 0, 1]) (f' := (68, [some (.ref 0), some (.int a0), some (.int a1)], [.int (s5.2.1 18 (Int32.toNatClampNeg ((a0 * 3) + a1)))], cl_h (ct_x v1 (.ref 320) v3 s0) g1 g2 g3 (ct_p4 s4) (ct_e5 (.ref 256) (.ref 384) s5) g6 g7 g8 g9 q)) tk_X8_chosen (by omega) rfl ⟨pm_inb_vp b6, h5, h4, h3, trivial⟩ ?_
          exact pm_Wg.iret (pm_dec tk_X8_chosen rfl) rfl rfl
       · rw [if_neg h5] at H
         have J := Option.some.inj H
         cases J
set_option maxRecDepth 20000 in
set_option maxHeartbeats 20000000 in
theorem e_X8_chosen_E_t1 {d : Nat} (hd : 6 ≤ d) {g1 g2 g3 g6 g7 g8 g9 : List pm_E} {v1 v3 : Value} {q : Nat × Nat × Nat} {s0 : cs_S} {s4 : cs_S} {s5 : cs_S} {a0 : Int32} {a1 : Int32} (H : f_X8_chosen_E s0 s4 s5 a0 a1 = some (.inr 1)) : pm_Mt 123 d [.ref 0, .int a0, .int a1] (cl_h (ct_x v1 (.ref 320) v3 s0) g1 g2 g3 (ct_p4 s4) (ct_e5 (.ref 256) (.ref 384) s5) g6 g7 g8 g9 q) (.inr "java/lang/IllegalArgumentException") (cl_h (ct_x v1 (.ref 320) v3 s0) g1 g2 g3 (ct_p4 s4) (ct_e5 (.ref 256) (.ref 384) s5) g6 g7 g8 g9 (q.1, q.2.1 + 1, q.2.2 + 6)) := by
  refine pm_Mt.of (by decide) (by decide +kernel) rfl rfl ?_
  obtain ⟨d, rfl⟩ : ∃ d', d = d' + 1 := ⟨d - 1, by omega⟩
  unfold f_X8_chosen_E at H
  cases q2 : f_X2_hasTenant s4 a0 0 with
  | none => rw [q2] at H; cases H
  | some r1 =>
   rw [q2] at H
   dsimp only at H
   refine pm_Wg.path (k := 8) (ds := []) (f' := (16, [some (.ref 0), some (.int a0), some (.int a1)], [.int 0, .int a0, .ref 256], cl_h (ct_x v1 (.ref 320) v3 s0) g1 g2 g3 (ct_p4 s4) (ct_e5 (.ref 256) (.ref 384) s5) g6 g7 g8 g9 q)) tk_X8_chosen (by omega) rfl trivial ?_
   refine pm_Wg.callV (m' := 33) (ix := 132) (rr := 163) (pl := 1193) (b := 256) (As := [.int a0, .int 0]) (S := []) (by decide) rfl (pm_dec tk_X8_chosen rfl) rfl rfl (by decide) rfl rfl (by decide) (Nat.le_of_ble_eq_true rfl) rfl (e_X2_hasTenant (by omega) q2) ?_
   by_cases h3 : r1 = 0
   · rw [if_pos h3] at H
     have J := Option.some.inj H
     cases J
   · rw [if_neg h3] at H
     by_cases h4 : a1 < 0
     · rw [if_pos h4] at H
       have J := Option.some.inj H
       refine pm_Wg.path (k := 3) (ds := [1, 1]) (f' := (41, [some (.ref 0), some (.int a0), some (.int a1)], [], cl_h (ct_x v1 (.ref 320) v3 s0) g1 g2 g3 (ct_p4 s4) (ct_e5 (.ref 256) (.ref 384) s5) g6 g7 g8 g9 q)) tk_X8_chosen (by omega) rfl ⟨h4, h3, trivial⟩ ?_
       exact pm_Wg.throwW (ik := 42) (ic := 46) (ix := 7) (rx := Bundle.six) (k := 31) rfl rfl (by omega) px_IAE rfl rfl (by decide +kernel) (by decide +kernel) (by decide +kernel) (by decide +kernel) (by decide +kernel) (Nat.le_of_ble_eq_true rfl)
     · rw [if_neg h4] at H
       by_cases h5 : a1 < 3
       · rw [if_pos h5] at H
         cases b6 : pm_inb ((a0 * 3) + a1) 18 with
         | false => rw [b6] at H; cases H
         | true =>
          rw [b6] at H
          dsimp only at H
          have J := Option.some.inj H
          cases J
       · rw [if_neg h5] at H
         have J := Option.some.inj H
         refine pm_Wg.path (k := 6) (ds := [1, 0, 0]) (f' := (41, [some (.ref 0), some (.int a0), some (.int a1)], [], cl_h (ct_x v1 (.ref 320) v3 s0) g1 g2 g3 (ct_p4 s4) (ct_e5 (.ref 256) (.ref 384) s5) g6 g7 g8 g9 q)) tk_X8_chosen (by omega) rfl ⟨h5, h4, h3, trivial⟩ ?_
         exact pm_Wg.throwW (ik := 42) (ic := 46) (ix := 7) (rx := Bundle.six) (k := 31) rfl rfl (by omega) px_IAE rfl rfl (by decide +kernel) (by decide +kernel) (by decide +kernel) (by decide +kernel) (by decide +kernel) (Nat.le_of_ble_eq_true rfl)
set_option maxRecDepth 20000 in
set_option maxHeartbeats 20000000 in
theorem e_X8_chosen_E_t2 {d : Nat} (hd : 6 ≤ d) {g1 g2 g3 g6 g7 g8 g9 : List pm_E} {v1 v3 : Value} {q : Nat × Nat × Nat} {s0 : cs_S} {s4 : cs_S} {s5 : cs_S} {a0 : Int32} {a1 : Int32} (H : f_X8_chosen_E s0 s4 s5 a0 a1 = some (.inr 2)) : pm_Mt 123 d [.ref 0, .int a0, .int a1] (cl_h (ct_x v1 (.ref 320) v3 s0) g1 g2 g3 (ct_p4 s4) (ct_e5 (.ref 256) (.ref 384) s5) g6 g7 g8 g9 q) (.inr "java/util/NoSuchElementException") (cl_h (ct_x v1 (.ref 320) v3 s0) g1 g2 g3 (ct_p4 s4) (ct_e5 (.ref 256) (.ref 384) s5) g6 g7 g8 g9 (q.1, q.2.1 + 1, q.2.2 + 6)) := by
  refine pm_Mt.of (by decide) (by decide +kernel) rfl rfl ?_
  obtain ⟨d, rfl⟩ : ∃ d', d = d' + 1 := ⟨d - 1, by omega⟩
  unfold f_X8_chosen_E at H
  cases q2 : f_X2_hasTenant s4 a0 0 with
  | none => rw [q2] at H; cases H
  | some r1 =>
   rw [q2] at H
   dsimp only at H
   refine pm_Wg.path (k := 8) (ds := []) (f' := (16, [some (.ref 0), some (.int a0), some (.int a1)], [.int 0, .int a0, .ref 256], cl_h (ct_x v1 (.ref 320) v3 s0) g1 g2 g3 (ct_p4 s4) (ct_e5 (.ref 256) (.ref 384) s5) g6 g7 g8 g9 q)) tk_X8_chosen (by omega) rfl trivial ?_
   refine pm_Wg.callV (m' := 33) (ix := 132) (rr := 163) (pl := 1193) (b := 256) (As := [.int a0, .int 0]) (S := []) (by decide) rfl (pm_dec tk_X8_chosen rfl) rfl rfl (by decide) rfl rfl (by decide) (Nat.le_of_ble_eq_true rfl) rfl (e_X2_hasTenant (by omega) q2) ?_
   by_cases h3 : r1 = 0
   · rw [if_pos h3] at H
     have J := Option.some.inj H
     refine pm_Wg.path (k := 1) (ds := [0]) (f' := (22, [some (.ref 0), some (.int a0), some (.int a1)], [], cl_h (ct_x v1 (.ref 320) v3 s0) g1 g2 g3 (ct_p4 s4) (ct_e5 (.ref 256) (.ref 384) s5) g6 g7 g8 g9 q)) tk_X8_chosen (by omega) rfl ⟨h3, trivial⟩ ?_
     exact pm_Wg.throw (ik := 112) (ic := 116) (ix := 13) (rx := px_rx13) (k := 19) rfl rfl (by omega) px_NSE rfl rfl (by decide +kernel) (by decide +kernel) (by decide +kernel) (by decide +kernel) (by decide +kernel) (Nat.le_of_ble_eq_true rfl)
   · rw [if_neg h3] at H
     by_cases h4 : a1 < 0
     · rw [if_pos h4] at H
       have J := Option.some.inj H
       cases J
     · rw [if_neg h4] at H
       by_cases h5 : a1 < 3
       · rw [if_pos h5] at H
         cases b6 : pm_inb ((a0 * 3) + a1) 18 with
         | false => rw [b6] at H; cases H
         | true =>
          rw [b6] at H
          dsimp only at H
          have J := Option.some.inj H
          cases J
       · rw [if_neg h5] at H
         have J := Option.some.inj H
         cases J

def tb_X8_requestCount : List pm_I := [(0, .aload_n 0, 0, 0), (1, .getfield 20, 13, 0), (4, .ifnonnull 7, 11, 0), (7, .iconst 0, 2, 0), (8, .goto 13, 21, 0), (11, .aload_n 0, 0, 0), (12, .getfield 20, 13, 0), (15, .getfield 155, 112, 0), (18, .getfield 159, 47, 0), (21, .ireturn, 0, 0)]
theorem tk_X8_requestCount : ∀ e ∈ tb_X8_requestCount, pm_ck 124 e = true := List.all_eq_true.mp (by decide +kernel)

def f_X8_requestCount_N (s0 : cs_S) : Option (Int32) :=
  some 0
set_option maxRecDepth 20000 in
set_option maxHeartbeats 20000000 in
theorem e_X8_requestCount_N {d : Nat} (hd : 1 ≤ d) {g1 g2 g3 g4 g5 g6 g7 g8 g9 : List pm_E} {v1 v3 : Value} {q : Nat × Nat × Nat} {s0 : cs_S} {r : Int32} (H : f_X8_requestCount_N s0 = some r) : pm_Mt 124 d [.ref 0] (cl_h (ct_x v1 (.null) v3 s0) g1 g2 g3 g4 g5 g6 g7 g8 g9 q) (.inl (some (.int r))) (cl_h (ct_x v1 (.null) v3 s0) g1 g2 g3 g4 g5 g6 g7 g8 g9 q) := by
  refine pm_Mt.of (by decide) (by decide +kernel) rfl rfl ?_
  unfold f_X8_requestCount_N at H
  have J := Option.some.inj H
  subst J
  refine pm_Wg.path (k := 5) (ds := []) (f' := (21, [some (.ref 0)], [.int 0], cl_h (ct_x v1 (.null) v3 s0) g1 g2 g3 g4 g5 g6 g7 g8 g9 q)) tk_X8_requestCount (by omega) rfl trivial ?_
  exact pm_Wg.iret (pm_dec tk_X8_requestCount rfl) rfl rfl

def f_X8_requestCount_E (s0 : cs_S) (s5 : cs_S) : Option (Int32) :=
  some (s5.1 19 0)
set_option maxRecDepth 20000 in
set_option maxHeartbeats 20000000 in
theorem e_X8_requestCount_E {d : Nat} (hd : 1 ≤ d) {g1 g2 g3 g4 g6 g7 g8 g9 : List pm_E} {v1 v3 : Value} {q : Nat × Nat × Nat} {s0 : cs_S} {s5 : cs_S} {r : Int32} (H : f_X8_requestCount_E s0 s5 = some r) : pm_Mt 124 d [.ref 0] (cl_h (ct_x v1 (.ref 320) v3 s0) g1 g2 g3 g4 (ct_e5 (.ref 256) (.ref 384) s5) g6 g7 g8 g9 q) (.inl (some (.int r))) (cl_h (ct_x v1 (.ref 320) v3 s0) g1 g2 g3 g4 (ct_e5 (.ref 256) (.ref 384) s5) g6 g7 g8 g9 q) := by
  refine pm_Mt.of (by decide) (by decide +kernel) rfl rfl ?_
  unfold f_X8_requestCount_E at H
  have J := Option.some.inj H
  subst J
  refine pm_Wg.path (k := 7) (ds := []) (f' := (21, [some (.ref 0)], [.int (s5.1 19 0)], cl_h (ct_x v1 (.ref 320) v3 s0) g1 g2 g3 g4 (ct_e5 (.ref 256) (.ref 384) s5) g6 g7 g8 g9 q)) tk_X8_requestCount (by omega) rfl trivial ?_
  exact pm_Wg.iret (pm_dec tk_X8_requestCount rfl) rfl rfl

def tb_X8_lostLines : List pm_I := [(0, .aload_n 0, 0, 0), (1, .getfield 20, 13, 0), (4, .ifnonnull 7, 11, 0), (7, .iconst 0, 2, 0), (8, .goto 10, 18, 0), (11, .aload_n 0, 0, 0), (12, .getfield 20, 13, 0), (15, .getfield 281, 104, 0), (18, .ireturn, 0, 0)]
theorem tk_X8_lostLines : ∀ e ∈ tb_X8_lostLines, pm_ck 125 e = true := List.all_eq_true.mp (by decide +kernel)

def f_X8_lostLines_N (s0 : cs_S) : Option (Int32) :=
  some 0
set_option maxRecDepth 20000 in
set_option maxHeartbeats 20000000 in
theorem e_X8_lostLines_N {d : Nat} (hd : 1 ≤ d) {g1 g2 g3 g4 g5 g6 g7 g8 g9 : List pm_E} {v1 v3 : Value} {q : Nat × Nat × Nat} {s0 : cs_S} {r : Int32} (H : f_X8_lostLines_N s0 = some r) : pm_Mt 125 d [.ref 0] (cl_h (ct_x v1 (.null) v3 s0) g1 g2 g3 g4 g5 g6 g7 g8 g9 q) (.inl (some (.int r))) (cl_h (ct_x v1 (.null) v3 s0) g1 g2 g3 g4 g5 g6 g7 g8 g9 q) := by
  refine pm_Mt.of (by decide) (by decide +kernel) rfl rfl ?_
  unfold f_X8_lostLines_N at H
  have J := Option.some.inj H
  subst J
  refine pm_Wg.path (k := 5) (ds := []) (f' := (18, [some (.ref 0)], [.int 0], cl_h (ct_x v1 (.null) v3 s0) g1 g2 g3 g4 g5 g6 g7 g8 g9 q)) tk_X8_lostLines (by omega) rfl trivial ?_
  exact pm_Wg.iret (pm_dec tk_X8_lostLines rfl) rfl rfl

def f_X8_lostLines_E (s0 : cs_S) (s5 : cs_S) : Option (Int32) :=
  some (s5.1 0 3)
set_option maxRecDepth 20000 in
set_option maxHeartbeats 20000000 in
theorem e_X8_lostLines_E {d : Nat} (hd : 1 ≤ d) {g1 g2 g3 g4 g6 g7 g8 g9 : List pm_E} {v1 v3 : Value} {q : Nat × Nat × Nat} {s0 : cs_S} {s5 : cs_S} {r : Int32} (H : f_X8_lostLines_E s0 s5 = some r) : pm_Mt 125 d [.ref 0] (cl_h (ct_x v1 (.ref 320) v3 s0) g1 g2 g3 g4 (ct_e5 (.ref 256) (.ref 384) s5) g6 g7 g8 g9 q) (.inl (some (.int r))) (cl_h (ct_x v1 (.ref 320) v3 s0) g1 g2 g3 g4 (ct_e5 (.ref 256) (.ref 384) s5) g6 g7 g8 g9 q) := by
  refine pm_Mt.of (by decide) (by decide +kernel) rfl rfl ?_
  unfold f_X8_lostLines_E at H
  have J := Option.some.inj H
  subst J
  refine pm_Wg.path (k := 6) (ds := []) (f' := (18, [some (.ref 0)], [.int (s5.1 0 3)], cl_h (ct_x v1 (.ref 320) v3 s0) g1 g2 g3 g4 (ct_e5 (.ref 256) (.ref 384) s5) g6 g7 g8 g9 q)) tk_X8_lostLines (by omega) rfl trivial ?_
  exact pm_Wg.iret (pm_dec tk_X8_lostLines rfl) rfl rfl

def tb_X8_traceLines : List pm_I := [(0, .aload_n 0, 0, 0), (1, .getfield 20, 13, 0), (4, .ifnonnull 7, 11, 0), (7, .iconst 0, 2, 0), (8, .goto 21, 29, 0), (11, .aload_n 0, 0, 0), (12, .getfield 20, 13, 0), (15, .getfield 89, 100, 0), (18, .getfield 96, 148, 0), (21, .aload_n 0, 0, 0), (22, .getfield 20, 13, 0), (25, .getfield 284, 102, 0), (28, .isub, 0, 0), (29, .ireturn, 0, 0)]
theorem tk_X8_traceLines : ∀ e ∈ tb_X8_traceLines, pm_ck 126 e = true := List.all_eq_true.mp (by decide +kernel)

def f_X8_traceLines_N (s0 : cs_S) : Option (Int32) :=
  some 0
set_option maxRecDepth 20000 in
set_option maxHeartbeats 20000000 in
theorem e_X8_traceLines_N {d : Nat} (hd : 1 ≤ d) {g1 g2 g3 g4 g5 g6 g7 g8 g9 : List pm_E} {v1 v3 : Value} {q : Nat × Nat × Nat} {s0 : cs_S} {r : Int32} (H : f_X8_traceLines_N s0 = some r) : pm_Mt 126 d [.ref 0] (cl_h (ct_x v1 (.null) v3 s0) g1 g2 g3 g4 g5 g6 g7 g8 g9 q) (.inl (some (.int r))) (cl_h (ct_x v1 (.null) v3 s0) g1 g2 g3 g4 g5 g6 g7 g8 g9 q) := by
  refine pm_Mt.of (by decide) (by decide +kernel) rfl rfl ?_
  unfold f_X8_traceLines_N at H
  have J := Option.some.inj H
  subst J
  refine pm_Wg.path (k := 5) (ds := []) (f' := (29, [some (.ref 0)], [.int 0], cl_h (ct_x v1 (.null) v3 s0) g1 g2 g3 g4 g5 g6 g7 g8 g9 q)) tk_X8_traceLines (by omega) rfl trivial ?_
  exact pm_Wg.iret (pm_dec tk_X8_traceLines rfl) rfl rfl

def f_X8_traceLines_E (s0 : cs_S) (s5 : cs_S) (s6 : cs_S) : Option (Int32) :=
  some ((s6.1 0 0) - (s5.1 0 2))
set_option maxRecDepth 20000 in
set_option maxHeartbeats 20000000 in
theorem e_X8_traceLines_E {d : Nat} (hd : 1 ≤ d) {g1 g2 g3 g4 g7 g8 g9 : List pm_E} {v1 v3 : Value} {q : Nat × Nat × Nat} {s0 : cs_S} {s5 : cs_S} {s6 : cs_S} {r : Int32} (H : f_X8_traceLines_E s0 s5 s6 = some r) : pm_Mt 126 d [.ref 0] (cl_h (ct_x v1 (.ref 320) v3 s0) g1 g2 g3 g4 (ct_e5 (.ref 256) (.ref 384) s5) (ct_t6 s6) g7 g8 g9 q) (.inl (some (.int r))) (cl_h (ct_x v1 (.ref 320) v3 s0) g1 g2 g3 g4 (ct_e5 (.ref 256) (.ref 384) s5) (ct_t6 s6) g7 g8 g9 q) := by
  refine pm_Mt.of (by decide) (by decide +kernel) rfl rfl ?_
  unfold f_X8_traceLines_E at H
  have J := Option.some.inj H
  subst J
  refine pm_Wg.path (k := 11) (ds := []) (f' := (29, [some (.ref 0)], [.int ((s6.1 0 0) - (s5.1 0 2))], cl_h (ct_x v1 (.ref 320) v3 s0) g1 g2 g3 g4 (ct_e5 (.ref 256) (.ref 384) s5) (ct_t6 s6) g7 g8 g9 q)) tk_X8_traceLines (by omega) rfl trivial ?_
  exact pm_Wg.iret (pm_dec tk_X8_traceLines rfl) rfl rfl

def tb_X8_finishedAt : List pm_I := [(0, .aload_n 0, 0, 0), (1, .getfield 20, 13, 0), (4, .ifnull 21, 25, 0), (7, .iload_n 1, 0, 0), (8, .ifCond .lt 17, 25, 0), (11, .iload_n 1, 0, 0), (12, .aload_n 0, 0, 0), (13, .getfield 20, 13, 0), (16, .getfield 155, 112, 0), (19, .getfield 159, 47, 0), (22, .if_icmp .lt 14, 36, 0), (36, .aload_n 0, 0, 0), (37, .getfield 20, 13, 0), (40, .getfield 155, 112, 0), (43, .getfield 289, 58, 0), (46, .iload_n 1, 0, 0), (47, .iaload, 0, 0), (48, .ireturn, 0, 0)]
theorem tk_X8_finishedAt : ∀ e ∈ tb_X8_finishedAt, pm_ck 127 e = true := List.all_eq_true.mp (by decide +kernel)

def f_X8_finishedAt_N (s0 : cs_S) (a0 : Int32) : Option ((Int32 ⊕ Nat)) :=
  some (.inr 2)
set_option maxRecDepth 20000 in
set_option maxHeartbeats 20000000 in
theorem e_X8_finishedAt_N_t2 {d : Nat} (hd : 6 ≤ d) {g1 g2 g3 g4 g5 g6 g7 g8 g9 : List pm_E} {v1 v3 : Value} {q : Nat × Nat × Nat} {s0 : cs_S} {a0 : Int32} (H : f_X8_finishedAt_N s0 a0 = some (.inr 2)) : pm_Mt 127 d [.ref 0, .int a0] (cl_h (ct_x v1 (.null) v3 s0) g1 g2 g3 g4 g5 g6 g7 g8 g9 q) (.inr "java/util/NoSuchElementException") (cl_h (ct_x v1 (.null) v3 s0) g1 g2 g3 g4 g5 g6 g7 g8 g9 (q.1, q.2.1 + 1, q.2.2 + 6)) := by
  refine pm_Mt.of (by decide) (by decide +kernel) rfl rfl ?_
  unfold f_X8_finishedAt_N at H
  have J := Option.some.inj H
  refine pm_Wg.path (k := 3) (ds := []) (f' := (25, [some (.ref 0), some (.int a0)], [], cl_h (ct_x v1 (.null) v3 s0) g1 g2 g3 g4 g5 g6 g7 g8 g9 q)) tk_X8_finishedAt (by omega) rfl trivial ?_
  exact pm_Wg.throwW (ik := 112) (ic := 116) (ix := 13) (rx := px_rx13) (k := 32) rfl rfl (by omega) px_NSE rfl rfl (by decide +kernel) (by decide +kernel) (by decide +kernel) (by decide +kernel) (by decide +kernel) (Nat.le_of_ble_eq_true rfl)

def f_X8_finishedAt_E (s0 : cs_S) (s5 : cs_S) (a0 : Int32) : Option ((Int32 ⊕ Nat)) :=
  (if a0 < 0 then
   some (.inr 2)
  else
   (if a0 < (s5.1 19 0) then
    (match pm_inb a0 400 with
    | false => none
    | true =>
    some (.inl (s5.2.1 25 (Int32.toNatClampNeg a0))))
   else
    some (.inr 2)))
set_option maxRecDepth 20000 in
set_option maxHeartbeats 20000000 in
theorem e_X8_finishedAt_E {d : Nat} (hd : 6 ≤ d) {g1 g2 g3 g4 g6 g7 g8 g9 : List pm_E} {v1 v3 : Value} {q : Nat × Nat × Nat} {s0 : cs_S} {s5 : cs_S} {a0 : Int32} {r : Int32} (H : f_X8_finishedAt_E s0 s5 a0 = some (.inl r)) : pm_Mt 127 d [.ref 0, .int a0] (cl_h (ct_x v1 (.ref 320) v3 s0) g1 g2 g3 g4 (ct_e5 (.ref 256) (.ref 384) s5) g6 g7 g8 g9 q) (.inl (some (.int r))) (cl_h (ct_x v1 (.ref 320) v3 s0) g1 g2 g3 g4 (ct_e5 (.ref 256) (.ref 384) s5) g6 g7 g8 g9 q) := by
  refine pm_Mt.of (by decide) (by decide +kernel) rfl rfl ?_
  unfold f_X8_finishedAt_E at H
  by_cases h1 : a0 < 0
  · rw [if_pos h1] at H
    have J := Option.some.inj H
    cases J
  · rw [if_neg h1] at H
    by_cases h2 : a0 < (s5.1 19 0)
    · rw [if_pos h2] at H
      cases b3 : pm_inb a0 400 with
      | false => rw [b3] at H; cases H
      | true =>
       rw [b3] at H
       dsimp only at H
       have J := Option.some.inj H
       injection J with JR
       subst JR
       refine pm_Wg.path (k := 17) (ds := [0, 1]) (f' := (48, [some (.ref 0), some (.int a0)], [.int (s5.2.1 25 (Int32.toNatClampNeg a0))], cl_h (ct_x v1 (.ref 320) v3 s0) g1 g2 g3 g4 (ct_e5 (.ref 256) (.ref 384) s5) g6 g7 g8 g9 q)) tk_X8_finishedAt (by omega) rfl ⟨pm_inb_vp b3, h2, h1, trivial⟩ ?_
       exact pm_Wg.iret (pm_dec tk_X8_finishedAt rfl) rfl rfl
    · rw [if_neg h2] at H
      have J := Option.some.inj H
      cases J
set_option maxRecDepth 20000 in
set_option maxHeartbeats 20000000 in
theorem e_X8_finishedAt_E_t2 {d : Nat} (hd : 6 ≤ d) {g1 g2 g3 g4 g6 g7 g8 g9 : List pm_E} {v1 v3 : Value} {q : Nat × Nat × Nat} {s0 : cs_S} {s5 : cs_S} {a0 : Int32} (H : f_X8_finishedAt_E s0 s5 a0 = some (.inr 2)) : pm_Mt 127 d [.ref 0, .int a0] (cl_h (ct_x v1 (.ref 320) v3 s0) g1 g2 g3 g4 (ct_e5 (.ref 256) (.ref 384) s5) g6 g7 g8 g9 q) (.inr "java/util/NoSuchElementException") (cl_h (ct_x v1 (.ref 320) v3 s0) g1 g2 g3 g4 (ct_e5 (.ref 256) (.ref 384) s5) g6 g7 g8 g9 (q.1, q.2.1 + 1, q.2.2 + 6)) := by
  refine pm_Mt.of (by decide) (by decide +kernel) rfl rfl ?_
  unfold f_X8_finishedAt_E at H
  by_cases h1 : a0 < 0
  · rw [if_pos h1] at H
    have J := Option.some.inj H
    refine pm_Wg.path (k := 5) (ds := [1]) (f' := (25, [some (.ref 0), some (.int a0)], [], cl_h (ct_x v1 (.ref 320) v3 s0) g1 g2 g3 g4 (ct_e5 (.ref 256) (.ref 384) s5) g6 g7 g8 g9 q)) tk_X8_finishedAt (by omega) rfl ⟨h1, trivial⟩ ?_
    exact pm_Wg.throwW (ik := 112) (ic := 116) (ix := 13) (rx := px_rx13) (k := 32) rfl rfl (by omega) px_NSE rfl rfl (by decide +kernel) (by decide +kernel) (by decide +kernel) (by decide +kernel) (by decide +kernel) (Nat.le_of_ble_eq_true rfl)
  · rw [if_neg h1] at H
    by_cases h2 : a0 < (s5.1 19 0)
    · rw [if_pos h2] at H
      cases b3 : pm_inb a0 400 with
      | false => rw [b3] at H; cases H
      | true =>
       rw [b3] at H
       dsimp only at H
       have J := Option.some.inj H
       cases J
    · rw [if_neg h2] at H
      have J := Option.some.inj H
      refine pm_Wg.path (k := 11) (ds := [0, 0]) (f' := (25, [some (.ref 0), some (.int a0)], [], cl_h (ct_x v1 (.ref 320) v3 s0) g1 g2 g3 g4 (ct_e5 (.ref 256) (.ref 384) s5) g6 g7 g8 g9 q)) tk_X8_finishedAt (by omega) rfl ⟨h2, h1, trivial⟩ ?_
      exact pm_Wg.throwW (ik := 112) (ic := 116) (ix := 13) (rx := px_rx13) (k := 32) rfl rfl (by omega) px_NSE rfl rfl (by decide +kernel) (by decide +kernel) (by decide +kernel) (by decide +kernel) (by decide +kernel) (Nat.le_of_ble_eq_true rfl)

def tb_X8_pending : List pm_I := [(0, .aload_n 0, 0, 0), (1, .getfield 20, 13, 0), (4, .ifnull 21, 25, 0), (7, .iload_n 1, 0, 0), (8, .ifCond .lt 17, 25, 0), (11, .iload_n 1, 0, 0), (12, .aload_n 0, 0, 0), (13, .getfield 20, 13, 0), (16, .getfield 155, 112, 0), (19, .getfield 159, 47, 0), (22, .if_icmp .lt 14, 36, 0), (36, .aload_n 0, 0, 0), (37, .getfield 20, 13, 0), (40, .getfield 155, 112, 0), (43, .getfield 290, 61, 0), (46, .iload_n 1, 0, 0), (47, .iaload, 0, 0), (48, .ireturn, 0, 0)]
theorem tk_X8_pending : ∀ e ∈ tb_X8_pending, pm_ck 128 e = true := List.all_eq_true.mp (by decide +kernel)

def f_X8_pending_N (s0 : cs_S) (a0 : Int32) : Option ((Int32 ⊕ Nat)) :=
  some (.inr 2)
set_option maxRecDepth 20000 in
set_option maxHeartbeats 20000000 in
theorem e_X8_pending_N_t2 {d : Nat} (hd : 6 ≤ d) {g1 g2 g3 g4 g5 g6 g7 g8 g9 : List pm_E} {v1 v3 : Value} {q : Nat × Nat × Nat} {s0 : cs_S} {a0 : Int32} (H : f_X8_pending_N s0 a0 = some (.inr 2)) : pm_Mt 128 d [.ref 0, .int a0] (cl_h (ct_x v1 (.null) v3 s0) g1 g2 g3 g4 g5 g6 g7 g8 g9 q) (.inr "java/util/NoSuchElementException") (cl_h (ct_x v1 (.null) v3 s0) g1 g2 g3 g4 g5 g6 g7 g8 g9 (q.1, q.2.1 + 1, q.2.2 + 6)) := by
  refine pm_Mt.of (by decide) (by decide +kernel) rfl rfl ?_
  unfold f_X8_pending_N at H
  have J := Option.some.inj H
  refine pm_Wg.path (k := 3) (ds := []) (f' := (25, [some (.ref 0), some (.int a0)], [], cl_h (ct_x v1 (.null) v3 s0) g1 g2 g3 g4 g5 g6 g7 g8 g9 q)) tk_X8_pending (by omega) rfl trivial ?_
  exact pm_Wg.throwW (ik := 112) (ic := 116) (ix := 13) (rx := px_rx13) (k := 32) rfl rfl (by omega) px_NSE rfl rfl (by decide +kernel) (by decide +kernel) (by decide +kernel) (by decide +kernel) (by decide +kernel) (Nat.le_of_ble_eq_true rfl)

def f_X8_pending_E (s0 : cs_S) (s5 : cs_S) (a0 : Int32) : Option ((Int32 ⊕ Nat)) :=
  (if a0 < 0 then
   some (.inr 2)
  else
   (if a0 < (s5.1 19 0) then
    (match pm_inb a0 400 with
    | false => none
    | true =>
    some (.inl (s5.2.1 26 (Int32.toNatClampNeg a0))))
   else
    some (.inr 2)))
set_option maxRecDepth 20000 in
set_option maxHeartbeats 20000000 in
theorem e_X8_pending_E {d : Nat} (hd : 6 ≤ d) {g1 g2 g3 g4 g6 g7 g8 g9 : List pm_E} {v1 v3 : Value} {q : Nat × Nat × Nat} {s0 : cs_S} {s5 : cs_S} {a0 : Int32} {r : Int32} (H : f_X8_pending_E s0 s5 a0 = some (.inl r)) : pm_Mt 128 d [.ref 0, .int a0] (cl_h (ct_x v1 (.ref 320) v3 s0) g1 g2 g3 g4 (ct_e5 (.ref 256) (.ref 384) s5) g6 g7 g8 g9 q) (.inl (some (.int r))) (cl_h (ct_x v1 (.ref 320) v3 s0) g1 g2 g3 g4 (ct_e5 (.ref 256) (.ref 384) s5) g6 g7 g8 g9 q) := by
  refine pm_Mt.of (by decide) (by decide +kernel) rfl rfl ?_
  unfold f_X8_pending_E at H
  by_cases h1 : a0 < 0
  · rw [if_pos h1] at H
    have J := Option.some.inj H
    cases J
  · rw [if_neg h1] at H
    by_cases h2 : a0 < (s5.1 19 0)
    · rw [if_pos h2] at H
      cases b3 : pm_inb a0 400 with
      | false => rw [b3] at H; cases H
      | true =>
       rw [b3] at H
       dsimp only at H
       have J := Option.some.inj H
       injection J with JR
       subst JR
       refine pm_Wg.path (k := 17) (ds := [0, 1]) (f' := (48, [some (.ref 0), some (.int a0)], [.int (s5.2.1 26 (Int32.toNatClampNeg a0))], cl_h (ct_x v1 (.ref 320) v3 s0) g1 g2 g3 g4 (ct_e5 (.ref 256) (.ref 384) s5) g6 g7 g8 g9 q)) tk_X8_pending (by omega) rfl ⟨pm_inb_vp b3, h2, h1, trivial⟩ ?_
       exact pm_Wg.iret (pm_dec tk_X8_pending rfl) rfl rfl
    · rw [if_neg h2] at H
      have J := Option.some.inj H
      cases J
set_option maxRecDepth 20000 in
set_option maxHeartbeats 20000000 in
theorem e_X8_pending_E_t2 {d : Nat} (hd : 6 ≤ d) {g1 g2 g3 g4 g6 g7 g8 g9 : List pm_E} {v1 v3 : Value} {q : Nat × Nat × Nat} {s0 : cs_S} {s5 : cs_S} {a0 : Int32} (H : f_X8_pending_E s0 s5 a0 = some (.inr 2)) : pm_Mt 128 d [.ref 0, .int a0] (cl_h (ct_x v1 (.ref 320) v3 s0) g1 g2 g3 g4 (ct_e5 (.ref 256) (.ref 384) s5) g6 g7 g8 g9 q) (.inr "java/util/NoSuchElementException") (cl_h (ct_x v1 (.ref 320) v3 s0) g1 g2 g3 g4 (ct_e5 (.ref 256) (.ref 384) s5) g6 g7 g8 g9 (q.1, q.2.1 + 1, q.2.2 + 6)) := by
  refine pm_Mt.of (by decide) (by decide +kernel) rfl rfl ?_
  unfold f_X8_pending_E at H
  by_cases h1 : a0 < 0
  · rw [if_pos h1] at H
    have J := Option.some.inj H
    refine pm_Wg.path (k := 5) (ds := [1]) (f' := (25, [some (.ref 0), some (.int a0)], [], cl_h (ct_x v1 (.ref 320) v3 s0) g1 g2 g3 g4 (ct_e5 (.ref 256) (.ref 384) s5) g6 g7 g8 g9 q)) tk_X8_pending (by omega) rfl ⟨h1, trivial⟩ ?_
    exact pm_Wg.throwW (ik := 112) (ic := 116) (ix := 13) (rx := px_rx13) (k := 32) rfl rfl (by omega) px_NSE rfl rfl (by decide +kernel) (by decide +kernel) (by decide +kernel) (by decide +kernel) (by decide +kernel) (Nat.le_of_ble_eq_true rfl)
  · rw [if_neg h1] at H
    by_cases h2 : a0 < (s5.1 19 0)
    · rw [if_pos h2] at H
      cases b3 : pm_inb a0 400 with
      | false => rw [b3] at H; cases H
      | true =>
       rw [b3] at H
       dsimp only at H
       have J := Option.some.inj H
       cases J
    · rw [if_neg h2] at H
      have J := Option.some.inj H
      refine pm_Wg.path (k := 11) (ds := [0, 0]) (f' := (25, [some (.ref 0), some (.int a0)], [], cl_h (ct_x v1 (.ref 320) v3 s0) g1 g2 g3 g4 (ct_e5 (.ref 256) (.ref 384) s5) g6 g7 g8 g9 q)) tk_X8_pending (by omega) rfl ⟨h2, h1, trivial⟩ ?_
      exact pm_Wg.throwW (ik := 112) (ic := 116) (ix := 13) (rx := px_rx13) (k := 32) rfl rfl (by omega) px_NSE rfl rfl (by decide +kernel) (by decide +kernel) (by decide +kernel) (by decide +kernel) (by decide +kernel) (Nat.le_of_ble_eq_true rfl)

def tb_X8_finished : List pm_I := [(0, .aload_n 0, 0, 0), (1, .getfield 20, 13, 0), (4, .ifnull 18, 22, 0), (7, .aload_n 0, 0, 0), (8, .getfield 20, 13, 0), (11, .getfield 79, 98, 0), (14, .iload_n 1, 0, 0), (15, .iconst 1, 3, 0), (16, .invokevirtual 132, 163, 0), (19, .ifCond .ne 14, 33, 0), (33, .aload_n 0, 0, 0), (34, .getfield 20, 13, 0), (37, .getfield 155, 112, 0), (40, .getfield 295, 63, 0), (43, .iload_n 1, 0, 0), (44, .iaload, 0, 0), (45, .ireturn, 0, 0)]
theorem tk_X8_finished : ∀ e ∈ tb_X8_finished, pm_ck 129 e = true := List.all_eq_true.mp (by decide +kernel)

def f_X8_finished_N (s0 : cs_S) (a0 : Int32) : Option ((Int32 ⊕ Nat)) :=
  some (.inr 2)
set_option maxRecDepth 20000 in
set_option maxHeartbeats 20000000 in
theorem e_X8_finished_N_t2 {d : Nat} (hd : 6 ≤ d) {g1 g2 g3 g4 g5 g6 g7 g8 g9 : List pm_E} {v1 v3 : Value} {q : Nat × Nat × Nat} {s0 : cs_S} {a0 : Int32} (H : f_X8_finished_N s0 a0 = some (.inr 2)) : pm_Mt 129 d [.ref 0, .int a0] (cl_h (ct_x v1 (.null) v3 s0) g1 g2 g3 g4 g5 g6 g7 g8 g9 q) (.inr "java/util/NoSuchElementException") (cl_h (ct_x v1 (.null) v3 s0) g1 g2 g3 g4 g5 g6 g7 g8 g9 (q.1, q.2.1 + 1, q.2.2 + 6)) := by
  refine pm_Mt.of (by decide) (by decide +kernel) rfl rfl ?_
  obtain ⟨d, rfl⟩ : ∃ d', d = d' + 1 := ⟨d - 1, by omega⟩
  unfold f_X8_finished_N at H
  have J := Option.some.inj H
  refine pm_Wg.path (k := 3) (ds := []) (f' := (22, [some (.ref 0), some (.int a0)], [], cl_h (ct_x v1 (.null) v3 s0) g1 g2 g3 g4 g5 g6 g7 g8 g9 q)) tk_X8_finished (by omega) rfl trivial ?_
  exact pm_Wg.throwW (ik := 112) (ic := 116) (ix := 13) (rx := px_rx13) (k := 33) rfl rfl (by omega) px_NSE rfl rfl (by decide +kernel) (by decide +kernel) (by decide +kernel) (by decide +kernel) (by decide +kernel) (Nat.le_of_ble_eq_true rfl)

def f_X8_finished_E (s0 : cs_S) (s4 : cs_S) (s5 : cs_S) (a0 : Int32) : Option ((Int32 ⊕ Nat)) :=
  (match f_X2_hasTenant s4 a0 1 with
  | none => none
  | some r1 =>
   (if r1 = 0 then
    some (.inr 2)
   else
    (match pm_inb a0 6 with
    | false => none
    | true =>
    some (.inl (s5.2.1 27 (Int32.toNatClampNeg a0))))))
set_option maxRecDepth 20000 in
set_option maxHeartbeats 20000000 in
theorem e_X8_finished_E {d : Nat} (hd : 6 ≤ d) {g1 g2 g3 g6 g7 g8 g9 : List pm_E} {v1 v3 : Value} {q : Nat × Nat × Nat} {s0 : cs_S} {s4 : cs_S} {s5 : cs_S} {a0 : Int32} {r : Int32} (H : f_X8_finished_E s0 s4 s5 a0 = some (.inl r)) : pm_Mt 129 d [.ref 0, .int a0] (cl_h (ct_x v1 (.ref 320) v3 s0) g1 g2 g3 (ct_p4 s4) (ct_e5 (.ref 256) (.ref 384) s5) g6 g7 g8 g9 q) (.inl (some (.int r))) (cl_h (ct_x v1 (.ref 320) v3 s0) g1 g2 g3 (ct_p4 s4) (ct_e5 (.ref 256) (.ref 384) s5) g6 g7 g8 g9 q) := by
  refine pm_Mt.of (by decide) (by decide +kernel) rfl rfl ?_
  obtain ⟨d, rfl⟩ : ∃ d', d = d' + 1 := ⟨d - 1, by omega⟩
  unfold f_X8_finished_E at H
  cases q2 : f_X2_hasTenant s4 a0 1 with
  | none => rw [q2] at H; cases H
  | some r1 =>
   rw [q2] at H
   dsimp only at H
   refine pm_Wg.path (k := 8) (ds := []) (f' := (16, [some (.ref 0), some (.int a0)], [.int 1, .int a0, .ref 256], cl_h (ct_x v1 (.ref 320) v3 s0) g1 g2 g3 (ct_p4 s4) (ct_e5 (.ref 256) (.ref 384) s5) g6 g7 g8 g9 q)) tk_X8_finished (by omega) rfl trivial ?_
   refine pm_Wg.callV (m' := 33) (ix := 132) (rr := 163) (pl := 1193) (b := 256) (As := [.int a0, .int 1]) (S := []) (by decide) rfl (pm_dec tk_X8_finished rfl) rfl rfl (by decide) rfl rfl (by decide) (Nat.le_of_ble_eq_true rfl) rfl (e_X2_hasTenant (by omega) q2) ?_
   by_cases h3 : r1 = 0
   · rw [if_pos h3] at H
     have J := Option.some.inj H
     cases J
   · rw [if_neg h3] at H
     cases b4 : pm_inb a0 6 with
     | false => rw [b4] at H; cases H
     | true =>
      rw [b4] at H
      dsimp only at H
      have J := Option.some.inj H
      injection J with JR
      subst JR
      refine pm_Wg.path (k := 7) (ds := [1]) (f' := (45, [some (.ref 0), some (.int a0)], [.int (s5.2.1 27 (Int32.toNatClampNeg a0))], cl_h (ct_x v1 (.ref 320) v3 s0) g1 g2 g3 (ct_p4 s4) (ct_e5 (.ref 256) (.ref 384) s5) g6 g7 g8 g9 q)) tk_X8_finished (by omega) rfl ⟨pm_inb_vp b4, h3, trivial⟩ ?_
      exact pm_Wg.iret (pm_dec tk_X8_finished rfl) rfl rfl
set_option maxRecDepth 20000 in
set_option maxHeartbeats 20000000 in
theorem e_X8_finished_E_t2 {d : Nat} (hd : 6 ≤ d) {g1 g2 g3 g6 g7 g8 g9 : List pm_E} {v1 v3 : Value} {q : Nat × Nat × Nat} {s0 : cs_S} {s4 : cs_S} {s5 : cs_S} {a0 : Int32} (H : f_X8_finished_E s0 s4 s5 a0 = some (.inr 2)) : pm_Mt 129 d [.ref 0, .int a0] (cl_h (ct_x v1 (.ref 320) v3 s0) g1 g2 g3 (ct_p4 s4) (ct_e5 (.ref 256) (.ref 384) s5) g6 g7 g8 g9 q) (.inr "java/util/NoSuchElementException") (cl_h (ct_x v1 (.ref 320) v3 s0) g1 g2 g3 (ct_p4 s4) (ct_e5 (.ref 256) (.ref 384) s5) g6 g7 g8 g9 (q.1, q.2.1 + 1, q.2.2 + 6)) := by
  refine pm_Mt.of (by decide) (by decide +kernel) rfl rfl ?_
  obtain ⟨d, rfl⟩ : ∃ d', d = d' + 1 := ⟨d - 1, by omega⟩
  unfold f_X8_finished_E at H
  cases q2 : f_X2_hasTenant s4 a0 1 with
  | none => rw [q2] at H; cases H
  | some r1 =>
   rw [q2] at H
   dsimp only at H
   refine pm_Wg.path (k := 8) (ds := []) (f' := (16, [some (.ref 0), some (.int a0)], [.int 1, .int a0, .ref 256], cl_h (ct_x v1 (.ref 320) v3 s0) g1 g2 g3 (ct_p4 s4) (ct_e5 (.ref 256) (.ref 384) s5) g6 g7 g8 g9 q)) tk_X8_finished (by omega) rfl trivial ?_
   refine pm_Wg.callV (m' := 33) (ix := 132) (rr := 163) (pl := 1193) (b := 256) (As := [.int a0, .int 1]) (S := []) (by decide) rfl (pm_dec tk_X8_finished rfl) rfl rfl (by decide) rfl rfl (by decide) (Nat.le_of_ble_eq_true rfl) rfl (e_X2_hasTenant (by omega) q2) ?_
   by_cases h3 : r1 = 0
   · rw [if_pos h3] at H
     have J := Option.some.inj H
     refine pm_Wg.path (k := 1) (ds := [0]) (f' := (22, [some (.ref 0), some (.int a0)], [], cl_h (ct_x v1 (.ref 320) v3 s0) g1 g2 g3 (ct_p4 s4) (ct_e5 (.ref 256) (.ref 384) s5) g6 g7 g8 g9 q)) tk_X8_finished (by omega) rfl ⟨h3, trivial⟩ ?_
     exact pm_Wg.throwW (ik := 112) (ic := 116) (ix := 13) (rx := px_rx13) (k := 33) rfl rfl (by omega) px_NSE rfl rfl (by decide +kernel) (by decide +kernel) (by decide +kernel) (by decide +kernel) (by decide +kernel) (Nat.le_of_ble_eq_true rfl)
   · rw [if_neg h3] at H
     cases b4 : pm_inb a0 6 with
     | false => rw [b4] at H; cases H
     | true =>
      rw [b4] at H
      dsimp only at H
      have J := Option.some.inj H
      cases J

def tb_X8_totalLatency : List pm_I := [(0, .aload_n 0, 0, 0), (1, .getfield 20, 13, 0), (4, .ifnull 18, 22, 0), (7, .aload_n 0, 0, 0), (8, .getfield 20, 13, 0), (11, .getfield 79, 98, 0), (14, .iload_n 1, 0, 0), (15, .iconst 1, 3, 0), (16, .invokevirtual 132, 163, 0), (19, .ifCond .ne 14, 33, 0), (33, .aload_n 0, 0, 0), (34, .getfield 20, 13, 0), (37, .getfield 155, 112, 0), (40, .getfield 298, 65, 0), (43, .iload_n 1, 0, 0), (44, .iaload, 0, 0), (45, .ireturn, 0, 0)]
theorem tk_X8_totalLatency : ∀ e ∈ tb_X8_totalLatency, pm_ck 130 e = true := List.all_eq_true.mp (by decide +kernel)

def f_X8_totalLatency_N (s0 : cs_S) (a0 : Int32) : Option ((Int32 ⊕ Nat)) :=
  some (.inr 2)
set_option maxRecDepth 20000 in
set_option maxHeartbeats 20000000 in
theorem e_X8_totalLatency_N_t2 {d : Nat} (hd : 6 ≤ d) {g1 g2 g3 g4 g5 g6 g7 g8 g9 : List pm_E} {v1 v3 : Value} {q : Nat × Nat × Nat} {s0 : cs_S} {a0 : Int32} (H : f_X8_totalLatency_N s0 a0 = some (.inr 2)) : pm_Mt 130 d [.ref 0, .int a0] (cl_h (ct_x v1 (.null) v3 s0) g1 g2 g3 g4 g5 g6 g7 g8 g9 q) (.inr "java/util/NoSuchElementException") (cl_h (ct_x v1 (.null) v3 s0) g1 g2 g3 g4 g5 g6 g7 g8 g9 (q.1, q.2.1 + 1, q.2.2 + 6)) := by
  refine pm_Mt.of (by decide) (by decide +kernel) rfl rfl ?_
  obtain ⟨d, rfl⟩ : ∃ d', d = d' + 1 := ⟨d - 1, by omega⟩
  unfold f_X8_totalLatency_N at H
  have J := Option.some.inj H
  refine pm_Wg.path (k := 3) (ds := []) (f' := (22, [some (.ref 0), some (.int a0)], [], cl_h (ct_x v1 (.null) v3 s0) g1 g2 g3 g4 g5 g6 g7 g8 g9 q)) tk_X8_totalLatency (by omega) rfl trivial ?_
  exact pm_Wg.throwW (ik := 112) (ic := 116) (ix := 13) (rx := px_rx13) (k := 33) rfl rfl (by omega) px_NSE rfl rfl (by decide +kernel) (by decide +kernel) (by decide +kernel) (by decide +kernel) (by decide +kernel) (Nat.le_of_ble_eq_true rfl)

def f_X8_totalLatency_E (s0 : cs_S) (s4 : cs_S) (s5 : cs_S) (a0 : Int32) : Option ((Int32 ⊕ Nat)) :=
  (match f_X2_hasTenant s4 a0 1 with
  | none => none
  | some r1 =>
   (if r1 = 0 then
    some (.inr 2)
   else
    (match pm_inb a0 6 with
    | false => none
    | true =>
    some (.inl (s5.2.1 28 (Int32.toNatClampNeg a0))))))
set_option maxRecDepth 20000 in
set_option maxHeartbeats 20000000 in
theorem e_X8_totalLatency_E {d : Nat} (hd : 6 ≤ d) {g1 g2 g3 g6 g7 g8 g9 : List pm_E} {v1 v3 : Value} {q : Nat × Nat × Nat} {s0 : cs_S} {s4 : cs_S} {s5 : cs_S} {a0 : Int32} {r : Int32} (H : f_X8_totalLatency_E s0 s4 s5 a0 = some (.inl r)) : pm_Mt 130 d [.ref 0, .int a0] (cl_h (ct_x v1 (.ref 320) v3 s0) g1 g2 g3 (ct_p4 s4) (ct_e5 (.ref 256) (.ref 384) s5) g6 g7 g8 g9 q) (.inl (some (.int r))) (cl_h (ct_x v1 (.ref 320) v3 s0) g1 g2 g3 (ct_p4 s4) (ct_e5 (.ref 256) (.ref 384) s5) g6 g7 g8 g9 q) := by
  refine pm_Mt.of (by decide) (by decide +kernel) rfl rfl ?_
  obtain ⟨d, rfl⟩ : ∃ d', d = d' + 1 := ⟨d - 1, by omega⟩
  unfold f_X8_totalLatency_E at H
  cases q2 : f_X2_hasTenant s4 a0 1 with
  | none => rw [q2] at H; cases H
  | some r1 =>
   rw [q2] at H
   dsimp only at H
   refine pm_Wg.path (k := 8) (ds := []) (f' := (16, [some (.ref 0), some (.int a0)], [.int 1, .int a0, .ref 256], cl_h (ct_x v1 (.ref 320) v3 s0) g1 g2 g3 (ct_p4 s4) (ct_e5 (.ref 256) (.ref 384) s5) g6 g7 g8 g9 q)) tk_X8_totalLatency (by omega) rfl trivial ?_
   refine pm_Wg.callV (m' := 33) (ix := 132) (rr := 163) (pl := 1193) (b := 256) (As := [.int a0, .int 1]) (S := []) (by decide) rfl (pm_dec tk_X8_totalLatency rfl) rfl rfl (by decide) rfl rfl (by decide) (Nat.le_of_ble_eq_true rfl) rfl (e_X2_hasTenant (by omega) q2) ?_
   by_cases h3 : r1 = 0
   · rw [if_pos h3] at H
     have J := Option.some.inj H
     cases J
   · rw [if_neg h3] at H
     cases b4 : pm_inb a0 6 with
     | false => rw [b4] at H; cases H
     | true =>
      rw [b4] at H
      dsimp only at H
      have J := Option.some.inj H
      injection J with JR
      subst JR
      refine pm_Wg.path (k := 7) (ds := [1]) (f' := (45, [some (.ref 0), some (.int a0)], [.int (s5.2.1 28 (Int32.toNatClampNeg a0))], cl_h (ct_x v1 (.ref 320) v3 s0) g1 g2 g3 (ct_p4 s4) (ct_e5 (.ref 256) (.ref 384) s5) g6 g7 g8 g9 q)) tk_X8_totalLatency (by omega) rfl ⟨pm_inb_vp b4, h3, trivial⟩ ?_
      exact pm_Wg.iret (pm_dec tk_X8_totalLatency rfl) rfl rfl
set_option maxRecDepth 20000 in
set_option maxHeartbeats 20000000 in
theorem e_X8_totalLatency_E_t2 {d : Nat} (hd : 6 ≤ d) {g1 g2 g3 g6 g7 g8 g9 : List pm_E} {v1 v3 : Value} {q : Nat × Nat × Nat} {s0 : cs_S} {s4 : cs_S} {s5 : cs_S} {a0 : Int32} (H : f_X8_totalLatency_E s0 s4 s5 a0 = some (.inr 2)) : pm_Mt 130 d [.ref 0, .int a0] (cl_h (ct_x v1 (.ref 320) v3 s0) g1 g2 g3 (ct_p4 s4) (ct_e5 (.ref 256) (.ref 384) s5) g6 g7 g8 g9 q) (.inr "java/util/NoSuchElementException") (cl_h (ct_x v1 (.ref 320) v3 s0) g1 g2 g3 (ct_p4 s4) (ct_e5 (.ref 256) (.ref 384) s5) g6 g7 g8 g9 (q.1, q.2.1 + 1, q.2.2 + 6)) := by
  refine pm_Mt.of (by decide) (by decide +kernel) rfl rfl ?_
  obtain ⟨d, rfl⟩ : ∃ d', d = d' + 1 := ⟨d - 1, by omega⟩
  unfold f_X8_totalLatency_E at H
  cases q2 : f_X2_hasTenant s4 a0 1 with
  | none => rw [q2] at H; cases H
  | some r1 =>
   rw [q2] at H
   dsimp only at H
   refine pm_Wg.path (k := 8) (ds := []) (f' := (16, [some (.ref 0), some (.int a0)], [.int 1, .int a0, .ref 256], cl_h (ct_x v1 (.ref 320) v3 s0) g1 g2 g3 (ct_p4 s4) (ct_e5 (.ref 256) (.ref 384) s5) g6 g7 g8 g9 q)) tk_X8_totalLatency (by omega) rfl trivial ?_
   refine pm_Wg.callV (m' := 33) (ix := 132) (rr := 163) (pl := 1193) (b := 256) (As := [.int a0, .int 1]) (S := []) (by decide) rfl (pm_dec tk_X8_totalLatency rfl) rfl rfl (by decide) rfl rfl (by decide) (Nat.le_of_ble_eq_true rfl) rfl (e_X2_hasTenant (by omega) q2) ?_
   by_cases h3 : r1 = 0
   · rw [if_pos h3] at H
     have J := Option.some.inj H
     refine pm_Wg.path (k := 1) (ds := [0]) (f' := (22, [some (.ref 0), some (.int a0)], [], cl_h (ct_x v1 (.ref 320) v3 s0) g1 g2 g3 (ct_p4 s4) (ct_e5 (.ref 256) (.ref 384) s5) g6 g7 g8 g9 q)) tk_X8_totalLatency (by omega) rfl ⟨h3, trivial⟩ ?_
     exact pm_Wg.throwW (ik := 112) (ic := 116) (ix := 13) (rx := px_rx13) (k := 33) rfl rfl (by omega) px_NSE rfl rfl (by decide +kernel) (by decide +kernel) (by decide +kernel) (by decide +kernel) (by decide +kernel) (Nat.le_of_ble_eq_true rfl)
   · rw [if_neg h3] at H
     cases b4 : pm_inb a0 6 with
     | false => rw [b4] at H; cases H
     | true =>
      rw [b4] at H
      dsimp only at H
      have J := Option.some.inj H
      cases J

def tb_X8_worstLatency : List pm_I := [(0, .aload_n 0, 0, 0), (1, .getfield 20, 13, 0), (4, .ifnull 18, 22, 0), (7, .aload_n 0, 0, 0), (8, .getfield 20, 13, 0), (11, .getfield 79, 98, 0), (14, .iload_n 1, 0, 0), (15, .iconst 1, 3, 0), (16, .invokevirtual 132, 163, 0), (19, .ifCond .ne 14, 33, 0), (33, .aload_n 0, 0, 0), (34, .getfield 20, 13, 0), (37, .getfield 155, 112, 0), (40, .getfield 301, 67, 0), (43, .iload_n 1, 0, 0), (44, .iaload, 0, 0), (45, .ireturn, 0, 0)]
theorem tk_X8_worstLatency : ∀ e ∈ tb_X8_worstLatency, pm_ck 131 e = true := List.all_eq_true.mp (by decide +kernel)

def f_X8_worstLatency_N (s0 : cs_S) (a0 : Int32) : Option ((Int32 ⊕ Nat)) :=
  some (.inr 2)
set_option maxRecDepth 20000 in
set_option maxHeartbeats 20000000 in
theorem e_X8_worstLatency_N_t2 {d : Nat} (hd : 6 ≤ d) {g1 g2 g3 g4 g5 g6 g7 g8 g9 : List pm_E} {v1 v3 : Value} {q : Nat × Nat × Nat} {s0 : cs_S} {a0 : Int32} (H : f_X8_worstLatency_N s0 a0 = some (.inr 2)) : pm_Mt 131 d [.ref 0, .int a0] (cl_h (ct_x v1 (.null) v3 s0) g1 g2 g3 g4 g5 g6 g7 g8 g9 q) (.inr "java/util/NoSuchElementException") (cl_h (ct_x v1 (.null) v3 s0) g1 g2 g3 g4 g5 g6 g7 g8 g9 (q.1, q.2.1 + 1, q.2.2 + 6)) := by
  refine pm_Mt.of (by decide) (by decide +kernel) rfl rfl ?_
  obtain ⟨d, rfl⟩ : ∃ d', d = d' + 1 := ⟨d - 1, by omega⟩
  unfold f_X8_worstLatency_N at H
  have J := Option.some.inj H
  refine pm_Wg.path (k := 3) (ds := []) (f' := (22, [some (.ref 0), some (.int a0)], [], cl_h (ct_x v1 (.null) v3 s0) g1 g2 g3 g4 g5 g6 g7 g8 g9 q)) tk_X8_worstLatency (by omega) rfl trivial ?_
  exact pm_Wg.throwW (ik := 112) (ic := 116) (ix := 13) (rx := px_rx13) (k := 33) rfl rfl (by omega) px_NSE rfl rfl (by decide +kernel) (by decide +kernel) (by decide +kernel) (by decide +kernel) (by decide +kernel) (Nat.le_of_ble_eq_true rfl)

def f_X8_worstLatency_E (s0 : cs_S) (s4 : cs_S) (s5 : cs_S) (a0 : Int32) : Option ((Int32 ⊕ Nat)) :=
  (match f_X2_hasTenant s4 a0 1 with
  | none => none
  | some r1 =>
   (if r1 = 0 then
    some (.inr 2)
   else
    (match pm_inb a0 6 with
    | false => none
    | true =>
    some (.inl (s5.2.1 29 (Int32.toNatClampNeg a0))))))
set_option maxRecDepth 20000 in
set_option maxHeartbeats 20000000 in
theorem e_X8_worstLatency_E {d : Nat} (hd : 6 ≤ d) {g1 g2 g3 g6 g7 g8 g9 : List pm_E} {v1 v3 : Value} {q : Nat × Nat × Nat} {s0 : cs_S} {s4 : cs_S} {s5 : cs_S} {a0 : Int32} {r : Int32} (H : f_X8_worstLatency_E s0 s4 s5 a0 = some (.inl r)) : pm_Mt 131 d [.ref 0, .int a0] (cl_h (ct_x v1 (.ref 320) v3 s0) g1 g2 g3 (ct_p4 s4) (ct_e5 (.ref 256) (.ref 384) s5) g6 g7 g8 g9 q) (.inl (some (.int r))) (cl_h (ct_x v1 (.ref 320) v3 s0) g1 g2 g3 (ct_p4 s4) (ct_e5 (.ref 256) (.ref 384) s5) g6 g7 g8 g9 q) := by
  refine pm_Mt.of (by decide) (by decide +kernel) rfl rfl ?_
  obtain ⟨d, rfl⟩ : ∃ d', d = d' + 1 := ⟨d - 1, by omega⟩
  unfold f_X8_worstLatency_E at H
  cases q2 : f_X2_hasTenant s4 a0 1 with
  | none => rw [q2] at H; cases H
  | some r1 =>
   rw [q2] at H
   dsimp only at H
   refine pm_Wg.path (k := 8) (ds := []) (f' := (16, [some (.ref 0), some (.int a0)], [.int 1, .int a0, .ref 256], cl_h (ct_x v1 (.ref 320) v3 s0) g1 g2 g3 (ct_p4 s4) (ct_e5 (.ref 256) (.ref 384) s5) g6 g7 g8 g9 q)) tk_X8_worstLatency (by omega) rfl trivial ?_
   refine pm_Wg.callV (m' := 33) (ix := 132) (rr := 163) (pl := 1193) (b := 256) (As := [.int a0, .int 1]) (S := []) (by decide) rfl (pm_dec tk_X8_worstLatency rfl) rfl rfl (by decide) rfl rfl (by decide) (Nat.le_of_ble_eq_true rfl) rfl (e_X2_hasTenant (by omega) q2) ?_
   by_cases h3 : r1 = 0
   · rw [if_pos h3] at H
     have J := Option.some.inj H
     cases J
   · rw [if_neg h3] at H
     cases b4 : pm_inb a0 6 with
     | false => rw [b4] at H; cases H
     | true =>
      rw [b4] at H
      dsimp only at H
      have J := Option.some.inj H
      injection J with JR
      subst JR
      refine pm_Wg.path (k := 7) (ds := [1]) (f' := (45, [some (.ref 0), some (.int a0)], [.int (s5.2.1 29 (Int32.toNatClampNeg a0))], cl_h (ct_x v1 (.ref 320) v3 s0) g1 g2 g3 (ct_p4 s4) (ct_e5 (.ref 256) (.ref 384) s5) g6 g7 g8 g9 q)) tk_X8_worstLatency (by omega) rfl ⟨pm_inb_vp b4, h3, trivial⟩ ?_
      exact pm_Wg.iret (pm_dec tk_X8_worstLatency rfl) rfl rfl
set_option maxRecDepth 20000 in
set_option maxHeartbeats 20000000 in
theorem e_X8_worstLatency_E_t2 {d : Nat} (hd : 6 ≤ d) {g1 g2 g3 g6 g7 g8 g9 : List pm_E} {v1 v3 : Value} {q : Nat × Nat × Nat} {s0 : cs_S} {s4 : cs_S} {s5 : cs_S} {a0 : Int32} (H : f_X8_worstLatency_E s0 s4 s5 a0 = some (.inr 2)) : pm_Mt 131 d [.ref 0, .int a0] (cl_h (ct_x v1 (.ref 320) v3 s0) g1 g2 g3 (ct_p4 s4) (ct_e5 (.ref 256) (.ref 384) s5) g6 g7 g8 g9 q) (.inr "java/util/NoSuchElementException") (cl_h (ct_x v1 (.ref 320) v3 s0) g1 g2 g3 (ct_p4 s4) (ct_e5 (.ref 256) (.ref 384) s5) g6 g7 g8 g9 (q.1, q.2.1 + 1, q.2.2 + 6)) := by
  refine pm_Mt.of (by decide) (by decide +kernel) rfl rfl ?_
  obtain ⟨d, rfl⟩ : ∃ d', d = d' + 1 := ⟨d - 1, by omega⟩
  unfold f_X8_worstLatency_E at H
  cases q2 : f_X2_hasTenant s4 a0 1 with
  | none => rw [q2] at H; cases H
  | some r1 =>
   rw [q2] at H
   dsimp only at H
   refine pm_Wg.path (k := 8) (ds := []) (f' := (16, [some (.ref 0), some (.int a0)], [.int 1, .int a0, .ref 256], cl_h (ct_x v1 (.ref 320) v3 s0) g1 g2 g3 (ct_p4 s4) (ct_e5 (.ref 256) (.ref 384) s5) g6 g7 g8 g9 q)) tk_X8_worstLatency (by omega) rfl trivial ?_
   refine pm_Wg.callV (m' := 33) (ix := 132) (rr := 163) (pl := 1193) (b := 256) (As := [.int a0, .int 1]) (S := []) (by decide) rfl (pm_dec tk_X8_worstLatency rfl) rfl rfl (by decide) rfl rfl (by decide) (Nat.le_of_ble_eq_true rfl) rfl (e_X2_hasTenant (by omega) q2) ?_
   by_cases h3 : r1 = 0
   · rw [if_pos h3] at H
     have J := Option.some.inj H
     refine pm_Wg.path (k := 1) (ds := [0]) (f' := (22, [some (.ref 0), some (.int a0)], [], cl_h (ct_x v1 (.ref 320) v3 s0) g1 g2 g3 (ct_p4 s4) (ct_e5 (.ref 256) (.ref 384) s5) g6 g7 g8 g9 q)) tk_X8_worstLatency (by omega) rfl ⟨h3, trivial⟩ ?_
     exact pm_Wg.throwW (ik := 112) (ic := 116) (ix := 13) (rx := px_rx13) (k := 33) rfl rfl (by omega) px_NSE rfl rfl (by decide +kernel) (by decide +kernel) (by decide +kernel) (by decide +kernel) (by decide +kernel) (Nat.le_of_ble_eq_true rfl)
   · rw [if_neg h3] at H
     cases b4 : pm_inb a0 6 with
     | false => rw [b4] at H; cases H
     | true =>
      rw [b4] at H
      dsimp only at H
      have J := Option.some.inj H
      cases J

def tb_X8_late : List pm_I := [(0, .aload_n 0, 0, 0), (1, .getfield 20, 13, 0), (4, .ifnull 18, 22, 0), (7, .aload_n 0, 0, 0), (8, .getfield 20, 13, 0), (11, .getfield 79, 98, 0), (14, .iload_n 1, 0, 0), (15, .iconst 1, 3, 0), (16, .invokevirtual 132, 163, 0), (19, .ifCond .ne 14, 33, 0), (33, .aload_n 0, 0, 0), (34, .getfield 20, 13, 0), (37, .getfield 155, 112, 0), (40, .getfield 304, 69, 0), (43, .iload_n 1, 0, 0), (44, .iaload, 0, 0), (45, .ireturn, 0, 0)]
theorem tk_X8_late : ∀ e ∈ tb_X8_late, pm_ck 132 e = true := List.all_eq_true.mp (by decide +kernel)

def f_X8_late_N (s0 : cs_S) (a0 : Int32) : Option ((Int32 ⊕ Nat)) :=
  some (.inr 2)
set_option maxRecDepth 20000 in
set_option maxHeartbeats 20000000 in
theorem e_X8_late_N_t2 {d : Nat} (hd : 6 ≤ d) {g1 g2 g3 g4 g5 g6 g7 g8 g9 : List pm_E} {v1 v3 : Value} {q : Nat × Nat × Nat} {s0 : cs_S} {a0 : Int32} (H : f_X8_late_N s0 a0 = some (.inr 2)) : pm_Mt 132 d [.ref 0, .int a0] (cl_h (ct_x v1 (.null) v3 s0) g1 g2 g3 g4 g5 g6 g7 g8 g9 q) (.inr "java/util/NoSuchElementException") (cl_h (ct_x v1 (.null) v3 s0) g1 g2 g3 g4 g5 g6 g7 g8 g9 (q.1, q.2.1 + 1, q.2.2 + 6)) := by
  refine pm_Mt.of (by decide) (by decide +kernel) rfl rfl ?_
  obtain ⟨d, rfl⟩ : ∃ d', d = d' + 1 := ⟨d - 1, by omega⟩
  unfold f_X8_late_N at H
  have J := Option.some.inj H
  refine pm_Wg.path (k := 3) (ds := []) (f' := (22, [some (.ref 0), some (.int a0)], [], cl_h (ct_x v1 (.null) v3 s0) g1 g2 g3 g4 g5 g6 g7 g8 g9 q)) tk_X8_late (by omega) rfl trivial ?_
  exact pm_Wg.throwW (ik := 112) (ic := 116) (ix := 13) (rx := px_rx13) (k := 33) rfl rfl (by omega) px_NSE rfl rfl (by decide +kernel) (by decide +kernel) (by decide +kernel) (by decide +kernel) (by decide +kernel) (Nat.le_of_ble_eq_true rfl)

def f_X8_late_E (s0 : cs_S) (s4 : cs_S) (s5 : cs_S) (a0 : Int32) : Option ((Int32 ⊕ Nat)) :=
  (match f_X2_hasTenant s4 a0 1 with
  | none => none
  | some r1 =>
   (if r1 = 0 then
    some (.inr 2)
   else
    (match pm_inb a0 6 with
    | false => none
    | true =>
    some (.inl (s5.2.1 30 (Int32.toNatClampNeg a0))))))
set_option maxRecDepth 20000 in
set_option maxHeartbeats 20000000 in
theorem e_X8_late_E {d : Nat} (hd : 6 ≤ d) {g1 g2 g3 g6 g7 g8 g9 : List pm_E} {v1 v3 : Value} {q : Nat × Nat × Nat} {s0 : cs_S} {s4 : cs_S} {s5 : cs_S} {a0 : Int32} {r : Int32} (H : f_X8_late_E s0 s4 s5 a0 = some (.inl r)) : pm_Mt 132 d [.ref 0, .int a0] (cl_h (ct_x v1 (.ref 320) v3 s0) g1 g2 g3 (ct_p4 s4) (ct_e5 (.ref 256) (.ref 384) s5) g6 g7 g8 g9 q) (.inl (some (.int r))) (cl_h (ct_x v1 (.ref 320) v3 s0) g1 g2 g3 (ct_p4 s4) (ct_e5 (.ref 256) (.ref 384) s5) g6 g7 g8 g9 q) := by
  refine pm_Mt.of (by decide) (by decide +kernel) rfl rfl ?_
  obtain ⟨d, rfl⟩ : ∃ d', d = d' + 1 := ⟨d - 1, by omega⟩
  unfold f_X8_late_E at H
  cases q2 : f_X2_hasTenant s4 a0 1 with
  | none => rw [q2] at H; cases H
  | some r1 =>
   rw [q2] at H
   dsimp only at H
   refine pm_Wg.path (k := 8) (ds := []) (f' := (16, [some (.ref 0), some (.int a0)], [.int 1, .int a0, .ref 256], cl_h (ct_x v1 (.ref 320) v3 s0) g1 g2 g3 (ct_p4 s4) (ct_e5 (.ref 256) (.ref 384) s5) g6 g7 g8 g9 q)) tk_X8_late (by omega) rfl trivial ?_
   refine pm_Wg.callV (m' := 33) (ix := 132) (rr := 163) (pl := 1193) (b := 256) (As := [.int a0, .int 1]) (S := []) (by decide) rfl (pm_dec tk_X8_late rfl) rfl rfl (by decide) rfl rfl (by decide) (Nat.le_of_ble_eq_true rfl) rfl (e_X2_hasTenant (by omega) q2) ?_
   by_cases h3 : r1 = 0
   · rw [if_pos h3] at H
     have J := Option.some.inj H
     cases J
   · rw [if_neg h3] at H
     cases b4 : pm_inb a0 6 with
     | false => rw [b4] at H; cases H
     | true =>
      rw [b4] at H
      dsimp only at H
      have J := Option.some.inj H
      injection J with JR
      subst JR
      refine pm_Wg.path (k := 7) (ds := [1]) (f' := (45, [some (.ref 0), some (.int a0)], [.int (s5.2.1 30 (Int32.toNatClampNeg a0))], cl_h (ct_x v1 (.ref 320) v3 s0) g1 g2 g3 (ct_p4 s4) (ct_e5 (.ref 256) (.ref 384) s5) g6 g7 g8 g9 q)) tk_X8_late (by omega) rfl ⟨pm_inb_vp b4, h3, trivial⟩ ?_
      exact pm_Wg.iret (pm_dec tk_X8_late rfl) rfl rfl
set_option maxRecDepth 20000 in
set_option maxHeartbeats 20000000 in
theorem e_X8_late_E_t2 {d : Nat} (hd : 6 ≤ d) {g1 g2 g3 g6 g7 g8 g9 : List pm_E} {v1 v3 : Value} {q : Nat × Nat × Nat} {s0 : cs_S} {s4 : cs_S} {s5 : cs_S} {a0 : Int32} (H : f_X8_late_E s0 s4 s5 a0 = some (.inr 2)) : pm_Mt 132 d [.ref 0, .int a0] (cl_h (ct_x v1 (.ref 320) v3 s0) g1 g2 g3 (ct_p4 s4) (ct_e5 (.ref 256) (.ref 384) s5) g6 g7 g8 g9 q) (.inr "java/util/NoSuchElementException") (cl_h (ct_x v1 (.ref 320) v3 s0) g1 g2 g3 (ct_p4 s4) (ct_e5 (.ref 256) (.ref 384) s5) g6 g7 g8 g9 (q.1, q.2.1 + 1, q.2.2 + 6)) := by
  refine pm_Mt.of (by decide) (by decide +kernel) rfl rfl ?_
  obtain ⟨d, rfl⟩ : ∃ d', d = d' + 1 := ⟨d - 1, by omega⟩
  unfold f_X8_late_E at H
  cases q2 : f_X2_hasTenant s4 a0 1 with
  | none => rw [q2] at H; cases H
  | some r1 =>
   rw [q2] at H
   dsimp only at H
   refine pm_Wg.path (k := 8) (ds := []) (f' := (16, [some (.ref 0), some (.int a0)], [.int 1, .int a0, .ref 256], cl_h (ct_x v1 (.ref 320) v3 s0) g1 g2 g3 (ct_p4 s4) (ct_e5 (.ref 256) (.ref 384) s5) g6 g7 g8 g9 q)) tk_X8_late (by omega) rfl trivial ?_
   refine pm_Wg.callV (m' := 33) (ix := 132) (rr := 163) (pl := 1193) (b := 256) (As := [.int a0, .int 1]) (S := []) (by decide) rfl (pm_dec tk_X8_late rfl) rfl rfl (by decide) rfl rfl (by decide) (Nat.le_of_ble_eq_true rfl) rfl (e_X2_hasTenant (by omega) q2) ?_
   by_cases h3 : r1 = 0
   · rw [if_pos h3] at H
     have J := Option.some.inj H
     refine pm_Wg.path (k := 1) (ds := [0]) (f' := (22, [some (.ref 0), some (.int a0)], [], cl_h (ct_x v1 (.ref 320) v3 s0) g1 g2 g3 (ct_p4 s4) (ct_e5 (.ref 256) (.ref 384) s5) g6 g7 g8 g9 q)) tk_X8_late (by omega) rfl ⟨h3, trivial⟩ ?_
     exact pm_Wg.throwW (ik := 112) (ic := 116) (ix := 13) (rx := px_rx13) (k := 33) rfl rfl (by omega) px_NSE rfl rfl (by decide +kernel) (by decide +kernel) (by decide +kernel) (by decide +kernel) (by decide +kernel) (Nat.le_of_ble_eq_true rfl)
   · rw [if_neg h3] at H
     cases b4 : pm_inb a0 6 with
     | false => rw [b4] at H; cases H
     | true =>
      rw [b4] at H
      dsimp only at H
      have J := Option.some.inj H
      cases J

def tb_X8_stripeState : List pm_I := [(0, .aload_n 0, 0, 0), (1, .getfield 20, 13, 0), (4, .ifnull 17, 21, 0), (7, .aload_n 0, 0, 0), (8, .getfield 20, 13, 0), (11, .getfield 79, 98, 0), (14, .iload_n 1, 0, 0), (15, .invokevirtual 124, 159, 0), (18, .ifCond .ne 13, 31, 0), (31, .aload_n 0, 0, 0), (32, .getfield 20, 13, 0), (35, .getfield 170, 114, 0), (38, .getfield 174, 72, 0), (41, .iconst (-1), 1, 0), (42, .if_icmp .ne 7, 49, 0), (45, .iconst (-1), 1, 0), (46, .goto 15, 61, 0), (49, .aload_n 0, 0, 0), (50, .getfield 20, 13, 0), (53, .getfield 170, 114, 0), (56, .getfield 307, 75, 0), (59, .iload_n 1, 0, 0), (60, .iaload, 0, 0), (61, .ireturn, 0, 0)]
theorem tk_X8_stripeState : ∀ e ∈ tb_X8_stripeState, pm_ck 133 e = true := List.all_eq_true.mp (by decide +kernel)

def f_X8_stripeState_N (s0 : cs_S) (a0 : Int32) : Option ((Int32 ⊕ Nat)) :=
  some (.inr 2)
set_option maxRecDepth 20000 in
set_option maxHeartbeats 20000000 in
theorem e_X8_stripeState_N_t2 {d : Nat} (hd : 6 ≤ d) {g1 g2 g3 g4 g5 g6 g7 g8 g9 : List pm_E} {v1 v3 : Value} {q : Nat × Nat × Nat} {s0 : cs_S} {a0 : Int32} (H : f_X8_stripeState_N s0 a0 = some (.inr 2)) : pm_Mt 133 d [.ref 0, .int a0] (cl_h (ct_x v1 (.null) v3 s0) g1 g2 g3 g4 g5 g6 g7 g8 g9 q) (.inr "java/util/NoSuchElementException") (cl_h (ct_x v1 (.null) v3 s0) g1 g2 g3 g4 g5 g6 g7 g8 g9 (q.1, q.2.1 + 1, q.2.2 + 6)) := by
  refine pm_Mt.of (by decide) (by decide +kernel) rfl rfl ?_
  obtain ⟨d, rfl⟩ : ∃ d', d = d' + 1 := ⟨d - 1, by omega⟩
  unfold f_X8_stripeState_N at H
  have J := Option.some.inj H
  refine pm_Wg.path (k := 3) (ds := []) (f' := (21, [some (.ref 0), some (.int a0)], [], cl_h (ct_x v1 (.null) v3 s0) g1 g2 g3 g4 g5 g6 g7 g8 g9 q)) tk_X8_stripeState (by omega) rfl trivial ?_
  exact pm_Wg.throw (ik := 112) (ic := 116) (ix := 13) (rx := px_rx13) (k := 18) rfl rfl (by omega) px_NSE rfl rfl (by decide +kernel) (by decide +kernel) (by decide +kernel) (by decide +kernel) (by decide +kernel) (Nat.le_of_ble_eq_true rfl)

def f_X8_stripeState_E (s0 : cs_S) (s4 : cs_S) (s5 : cs_S) (a0 : Int32) : Option ((Int32 ⊕ Nat)) :=
  (match f_X2_hasStripe s4 a0 with
  | none => none
  | some r1 =>
   (if r1 = 0 then
    some (.inr 2)
   else
    (if (s5.1 31 0) = (-1) then
     some (.inl (-1))
    else
     (match pm_inb a0 64 with
     | false => none
     | true =>
     some (.inl (s5.2.1 32 (Int32.toNatClampNeg a0)))))))
set_option maxRecDepth 20000 in
set_option maxHeartbeats 20000000 in
theorem e_X8_stripeState_E {d : Nat} (hd : 6 ≤ d) {g1 g2 g3 g6 g7 g8 g9 : List pm_E} {v1 v3 : Value} {q : Nat × Nat × Nat} {s0 : cs_S} {s4 : cs_S} {s5 : cs_S} {a0 : Int32} {r : Int32} (H : f_X8_stripeState_E s0 s4 s5 a0 = some (.inl r)) : pm_Mt 133 d [.ref 0, .int a0] (cl_h (ct_x v1 (.ref 320) v3 s0) g1 g2 g3 (ct_p4 s4) (ct_e5 (.ref 256) (.ref 384) s5) g6 g7 g8 g9 q) (.inl (some (.int r))) (cl_h (ct_x v1 (.ref 320) v3 s0) g1 g2 g3 (ct_p4 s4) (ct_e5 (.ref 256) (.ref 384) s5) g6 g7 g8 g9 q) := by
  refine pm_Mt.of (by decide) (by decide +kernel) rfl rfl ?_
  obtain ⟨d, rfl⟩ : ∃ d', d = d' + 1 := ⟨d - 1, by omega⟩
  unfold f_X8_stripeState_E at H
  cases q2 : f_X2_hasStripe s4 a0 with
  | none => rw [q2] at H; cases H
  | some r1 =>
   rw [q2] at H
   dsimp only at H
   refine pm_Wg.path (k := 7) (ds := []) (f' := (15, [some (.ref 0), some (.int a0)], [.int a0, .ref 256], cl_h (ct_x v1 (.ref 320) v3 s0) g1 g2 g3 (ct_p4 s4) (ct_e5 (.ref 256) (.ref 384) s5) g6 g7 g8 g9 q)) tk_X8_stripeState (by omega) rfl trivial ?_
   refine pm_Wg.callV (m' := 35) (ix := 124) (rr := 159) (pl := 1180) (b := 256) (As := [.int a0]) (S := []) (by decide) rfl (pm_dec tk_X8_stripeState rfl) rfl rfl (by decide) rfl rfl (by decide) (Nat.le_of_ble_eq_true rfl) rfl (e_X2_hasStripe (by omega) q2) ?_
   by_cases h3 : r1 = 0
   · rw [if_pos h3] at H
     have J := Option.some.inj H
     cases J
   · rw [if_neg h3] at H
     by_cases h4 : (s5.1 31 0) = (-1)
     · rw [if_pos h4] at H
       have J := Option.some.inj H
       injection J with JR
       subst JR
       refine pm_Wg.path (k := 9) (ds := [1, 0]) (f' := (61, [some (.ref 0), some (.int a0)], [.int (-1)], cl_h (ct_x v1 (.ref 320) v3 s0) g1 g2 g3 (ct_p4 s4) (ct_e5 (.ref 256) (.ref 384) s5) g6 g7 g8 g9 q)) tk_X8_stripeState (by omega) rfl ⟨h4, h3, trivial⟩ ?_
       exact pm_Wg.iret (pm_dec tk_X8_stripeState rfl) rfl rfl
     · rw [if_neg h4] at H
       cases b5 : pm_inb a0 64 with
       | false => rw [b5] at H; cases H
       | true =>
        rw [b5] at H
        dsimp only at H
        have J := Option.some.inj H
        injection J with JR
        subst JR
        refine pm_Wg.path (k := 13) (ds := [1, 1]) (f' := (61, [some (.ref 0), some (.int a0)], [.int (s5.2.1 32 (Int32.toNatClampNeg a0))], cl_h (ct_x v1 (.ref 320) v3 s0) g1 g2 g3 (ct_p4 s4) (ct_e5 (.ref 256) (.ref 384) s5) g6 g7 g8 g9 q)) tk_X8_stripeState (by omega) rfl ⟨pm_inb_vp b5, h4, h3, trivial⟩ ?_
        exact pm_Wg.iret (pm_dec tk_X8_stripeState rfl) rfl rfl
set_option maxRecDepth 20000 in
set_option maxHeartbeats 20000000 in
theorem e_X8_stripeState_E_t2 {d : Nat} (hd : 6 ≤ d) {g1 g2 g3 g6 g7 g8 g9 : List pm_E} {v1 v3 : Value} {q : Nat × Nat × Nat} {s0 : cs_S} {s4 : cs_S} {s5 : cs_S} {a0 : Int32} (H : f_X8_stripeState_E s0 s4 s5 a0 = some (.inr 2)) : pm_Mt 133 d [.ref 0, .int a0] (cl_h (ct_x v1 (.ref 320) v3 s0) g1 g2 g3 (ct_p4 s4) (ct_e5 (.ref 256) (.ref 384) s5) g6 g7 g8 g9 q) (.inr "java/util/NoSuchElementException") (cl_h (ct_x v1 (.ref 320) v3 s0) g1 g2 g3 (ct_p4 s4) (ct_e5 (.ref 256) (.ref 384) s5) g6 g7 g8 g9 (q.1, q.2.1 + 1, q.2.2 + 6)) := by
  refine pm_Mt.of (by decide) (by decide +kernel) rfl rfl ?_
  obtain ⟨d, rfl⟩ : ∃ d', d = d' + 1 := ⟨d - 1, by omega⟩
  unfold f_X8_stripeState_E at H
  cases q2 : f_X2_hasStripe s4 a0 with
  | none => rw [q2] at H; cases H
  | some r1 =>
   rw [q2] at H
   dsimp only at H
   refine pm_Wg.path (k := 7) (ds := []) (f' := (15, [some (.ref 0), some (.int a0)], [.int a0, .ref 256], cl_h (ct_x v1 (.ref 320) v3 s0) g1 g2 g3 (ct_p4 s4) (ct_e5 (.ref 256) (.ref 384) s5) g6 g7 g8 g9 q)) tk_X8_stripeState (by omega) rfl trivial ?_
   refine pm_Wg.callV (m' := 35) (ix := 124) (rr := 159) (pl := 1180) (b := 256) (As := [.int a0]) (S := []) (by decide) rfl (pm_dec tk_X8_stripeState rfl) rfl rfl (by decide) rfl rfl (by decide) (Nat.le_of_ble_eq_true rfl) rfl (e_X2_hasStripe (by omega) q2) ?_
   by_cases h3 : r1 = 0
   · rw [if_pos h3] at H
     have J := Option.some.inj H
     refine pm_Wg.path (k := 1) (ds := [0]) (f' := (21, [some (.ref 0), some (.int a0)], [], cl_h (ct_x v1 (.ref 320) v3 s0) g1 g2 g3 (ct_p4 s4) (ct_e5 (.ref 256) (.ref 384) s5) g6 g7 g8 g9 q)) tk_X8_stripeState (by omega) rfl ⟨h3, trivial⟩ ?_
     exact pm_Wg.throw (ik := 112) (ic := 116) (ix := 13) (rx := px_rx13) (k := 18) rfl rfl (by omega) px_NSE rfl rfl (by decide +kernel) (by decide +kernel) (by decide +kernel) (by decide +kernel) (by decide +kernel) (Nat.le_of_ble_eq_true rfl)
   · rw [if_neg h3] at H
     by_cases h4 : (s5.1 31 0) = (-1)
     · rw [if_pos h4] at H
       have J := Option.some.inj H
       cases J
     · rw [if_neg h4] at H
       cases b5 : pm_inb a0 64 with
       | false => rw [b5] at H; cases H
       | true =>
        rw [b5] at H
        dsimp only at H
        have J := Option.some.inj H
        cases J

def tb_X8_isHeld : List pm_I := [(0, .aload_n 0, 0, 0), (1, .getfield 20, 13, 0), (4, .ifnull 35, 39, 0), (7, .iload_n 1, 0, 0), (8, .ifCond .lt 31, 39, 0), (11, .iload_n 1, 0, 0), (12, .aload_n 0, 0, 0), (13, .getfield 20, 13, 0), (16, .getfield 79, 98, 0), (19, .getfield 102, 117, 0), (22, .if_icmp .ge 17, 39, 0), (25, .aload_n 0, 0, 0), (26, .getfield 20, 13, 0), (29, .getfield 79, 98, 0), (32, .iload_n 2, 0, 0), (33, .invokevirtual 124, 159, 0), (36, .ifCond .ne 14, 50, 0), (50, .aload_n 0, 0, 0), (51, .getfield 20, 13, 0), (54, .getfield 170, 114, 0), (57, .iload_n 1, 0, 0), (58, .iload_n 2, 0, 0), (59, .invokevirtual 312, 219, 0), (62, .ireturn, 0, 0)]
theorem tk_X8_isHeld : ∀ e ∈ tb_X8_isHeld, pm_ck 134 e = true := List.all_eq_true.mp (by decide +kernel)

def f_X8_isHeld_N (s0 : cs_S) (a0 : Int32) (a1 : Int32) : Option ((Int32 ⊕ Nat)) :=
  some (.inr 2)
set_option maxRecDepth 20000 in
set_option maxHeartbeats 20000000 in
theorem e_X8_isHeld_N_t2 {d : Nat} (hd : 6 ≤ d) {g1 g2 g3 g4 g5 g6 g7 g8 g9 : List pm_E} {v1 v3 : Value} {q : Nat × Nat × Nat} {s0 : cs_S} {a0 : Int32} {a1 : Int32} (H : f_X8_isHeld_N s0 a0 a1 = some (.inr 2)) : pm_Mt 134 d [.ref 0, .int a0, .int a1] (cl_h (ct_x v1 (.null) v3 s0) g1 g2 g3 g4 g5 g6 g7 g8 g9 q) (.inr "java/util/NoSuchElementException") (cl_h (ct_x v1 (.null) v3 s0) g1 g2 g3 g4 g5 g6 g7 g8 g9 (q.1, q.2.1 + 1, q.2.2 + 6)) := by
  refine pm_Mt.of (by decide) (by decide +kernel) rfl rfl ?_
  obtain ⟨d, rfl⟩ : ∃ d', d = d' + 1 := ⟨d - 1, by omega⟩
  unfold f_X8_isHeld_N at H
  have J := Option.some.inj H
  refine pm_Wg.path (k := 3) (ds := []) (f' := (39, [some (.ref 0), some (.int a0), some (.int a1)], [], cl_h (ct_x v1 (.null) v3 s0) g1 g2 g3 g4 g5 g6 g7 g8 g9 q)) tk_X8_isHeld (by omega) rfl trivial ?_
  exact pm_Wg.throwW (ik := 112) (ic := 116) (ix := 13) (rx := px_rx13) (k := 34) rfl rfl (by omega) px_NSE rfl rfl (by decide +kernel) (by decide +kernel) (by decide +kernel) (by decide +kernel) (by decide +kernel) (Nat.le_of_ble_eq_true rfl)

def f_X8_isHeld_E (s0 : cs_S) (s4 : cs_S) (s5 : cs_S) (a0 : Int32) (a1 : Int32) : Option ((Int32 ⊕ Nat)) :=
  (if a0 < 0 then
   some (.inr 2)
  else
   (if (s4.1 0 0) ≤ a0 then
    some (.inr 2)
   else
    (match f_X2_hasStripe s4 a1 with
    | none => none
    | some r3 =>
     (if r3 = 0 then
      some (.inr 2)
     else
      (match f_X4_holds s5 a0 a1 with
      | none => none
      | some r6 =>
       (if r6 &&& 1 = r6 then some (.inl r6) else none))))))
set_option maxRecDepth 20000 in
set_option maxHeartbeats 20000000 in
theorem e_X8_isHeld_E {d : Nat} (hd : 6 ≤ d) {g1 g2 g3 g6 g7 g8 g9 : List pm_E} {v1 v3 : Value} {q : Nat × Nat × Nat} {s0 : cs_S} {s4 : cs_S} {s5 : cs_S} {a0 : Int32} {a1 : Int32} {r : Int32} (H : f_X8_isHeld_E s0 s4 s5 a0 a1 = some (.inl r)) : pm_Mt 134 d [.ref 0, .int a0, .int a1] (cl_h (ct_x v1 (.ref 320) v3 s0) g1 g2 g3 (ct_p4 s4) (ct_e5 (.ref 256) (.ref 384) s5) g6 g7 g8 g9 q) (.inl (some (.int r))) (cl_h (ct_x v1 (.ref 320) v3 s0) g1 g2 g3 (ct_p4 s4) (ct_e5 (.ref 256) (.ref 384) s5) g6 g7 g8 g9 q) := by
  refine pm_Mt.of (by decide) (by decide +kernel) rfl rfl ?_
  obtain ⟨d, rfl⟩ : ∃ d', d = d' + 1 := ⟨d - 1, by omega⟩
  unfold f_X8_isHeld_E at H
  by_cases h1 : a0 < 0
  · rw [if_pos h1] at H
    have J := Option.some.inj H
    cases J
  · rw [if_neg h1] at H
    by_cases h2 : (s4.1 0 0) ≤ a0
    · rw [if_pos h2] at H
      have J := Option.some.inj H
      cases J
    · rw [if_neg h2] at H
      cases q4 : f_X2_hasStripe s4 a1 with
      | none => rw [q4] at H; cases H
      | some r3 =>
       rw [q4] at H
       dsimp only at H
       refine pm_Wg.path (k := 15) (ds := [0, 0]) (f' := (33, [some (.ref 0), some (.int a0), some (.int a1)], [.int a1, .ref 256], cl_h (ct_x v1 (.ref 320) v3 s0) g1 g2 g3 (ct_p4 s4) (ct_e5 (.ref 256) (.ref 384) s5) g6 g7 g8 g9 q)) tk_X8_isHeld (by omega) rfl ⟨h2, h1, trivial⟩ ?_
       refine pm_Wg.callV (m' := 35) (ix := 124) (rr := 159) (pl := 1180) (b := 256) (As := [.int a1]) (S := []) (by decide) rfl (pm_dec tk_X8_isHeld rfl) rfl rfl (by decide) rfl rfl (by decide) (Nat.le_of_ble_eq_true rfl) rfl (e_X2_hasStripe (by omega) q4) ?_
       by_cases h5 : r3 = 0
       · rw [if_pos h5] at H
         have J := Option.some.inj H
         cases J
       · rw [if_neg h5] at H
         cases q7 : f_X4_holds s5 a0 a1 with
         | none => rw [q7] at H; cases H
         | some r6 =>
          rw [q7] at H
          dsimp only at H
          refine pm_Wg.path (k := 6) (ds := [1]) (f' := (59, [some (.ref 0), some (.int a0), some (.int a1)], [.int a1, .int a0, .ref 351], cl_h (ct_x v1 (.ref 320) v3 s0) g1 g2 g3 (ct_p4 s4) (ct_e5 (.ref 256) (.ref 384) s5) g6 g7 g8 g9 q)) tk_X8_isHeld (by omega) rfl ⟨h5, trivial⟩ ?_
          refine pm_Wg.callV (m' := 64) (ix := 312) (rr := 219) (pl := 1392) (b := 351) (As := [.int a0, .int a1]) (S := []) (by decide) rfl (pm_dec tk_X8_isHeld rfl) rfl rfl (by decide) rfl rfl (by decide) (Nat.le_of_ble_eq_true rfl) rfl (e_X4_holds (by omega) q7) ?_
          by_cases z8 : r6 &&& 1 = r6
          case neg => rw [if_neg z8] at H; cases H
          rw [if_pos z8] at H
          have J := Option.some.inj H
          injection J with JR
          subst JR
          exact pm_Wg.iret (pm_dec tk_X8_isHeld rfl) rfl (pm_nb1 z8)
set_option maxRecDepth 20000 in
set_option maxHeartbeats 20000000 in
theorem e_X8_isHeld_E_t2 {d : Nat} (hd : 6 ≤ d) {g1 g2 g3 g6 g7 g8 g9 : List pm_E} {v1 v3 : Value} {q : Nat × Nat × Nat} {s0 : cs_S} {s4 : cs_S} {s5 : cs_S} {a0 : Int32} {a1 : Int32} (H : f_X8_isHeld_E s0 s4 s5 a0 a1 = some (.inr 2)) : pm_Mt 134 d [.ref 0, .int a0, .int a1] (cl_h (ct_x v1 (.ref 320) v3 s0) g1 g2 g3 (ct_p4 s4) (ct_e5 (.ref 256) (.ref 384) s5) g6 g7 g8 g9 q) (.inr "java/util/NoSuchElementException") (cl_h (ct_x v1 (.ref 320) v3 s0) g1 g2 g3 (ct_p4 s4) (ct_e5 (.ref 256) (.ref 384) s5) g6 g7 g8 g9 (q.1, q.2.1 + 1, q.2.2 + 6)) := by
  refine pm_Mt.of (by decide) (by decide +kernel) rfl rfl ?_
  obtain ⟨d, rfl⟩ : ∃ d', d = d' + 1 := ⟨d - 1, by omega⟩
  unfold f_X8_isHeld_E at H
  by_cases h1 : a0 < 0
  · rw [if_pos h1] at H
    have J := Option.some.inj H
    refine pm_Wg.path (k := 5) (ds := [1]) (f' := (39, [some (.ref 0), some (.int a0), some (.int a1)], [], cl_h (ct_x v1 (.ref 320) v3 s0) g1 g2 g3 (ct_p4 s4) (ct_e5 (.ref 256) (.ref 384) s5) g6 g7 g8 g9 q)) tk_X8_isHeld (by omega) rfl ⟨h1, trivial⟩ ?_
    exact pm_Wg.throwW (ik := 112) (ic := 116) (ix := 13) (rx := px_rx13) (k := 34) rfl rfl (by omega) px_NSE rfl rfl (by decide +kernel) (by decide +kernel) (by decide +kernel) (by decide +kernel) (by decide +kernel) (Nat.le_of_ble_eq_true rfl)
  · rw [if_neg h1] at H
    by_cases h2 : (s4.1 0 0) ≤ a0
    · rw [if_pos h2] at H
      have J := Option.some.inj H
      refine pm_Wg.path (k := 11) (ds := [0, 1]) (f' := (39, [some (.ref 0), some (.int a0), some (.int a1)], [], cl_h (ct_x v1 (.ref 320) v3 s0) g1 g2 g3 (ct_p4 s4) (ct_e5 (.ref 256) (.ref 384) s5) g6 g7 g8 g9 q)) tk_X8_isHeld (by omega) rfl ⟨h2, h1, trivial⟩ ?_
      exact pm_Wg.throwW (ik := 112) (ic := 116) (ix := 13) (rx := px_rx13) (k := 34) rfl rfl (by omega) px_NSE rfl rfl (by decide +kernel) (by decide +kernel) (by decide +kernel) (by decide +kernel) (by decide +kernel) (Nat.le_of_ble_eq_true rfl)
    · rw [if_neg h2] at H
      cases q4 : f_X2_hasStripe s4 a1 with
      | none => rw [q4] at H; cases H
      | some r3 =>
       rw [q4] at H
       dsimp only at H
       refine pm_Wg.path (k := 15) (ds := [0, 0]) (f' := (33, [some (.ref 0), some (.int a0), some (.int a1)], [.int a1, .ref 256], cl_h (ct_x v1 (.ref 320) v3 s0) g1 g2 g3 (ct_p4 s4) (ct_e5 (.ref 256) (.ref 384) s5) g6 g7 g8 g9 q)) tk_X8_isHeld (by omega) rfl ⟨h2, h1, trivial⟩ ?_
       refine pm_Wg.callV (m' := 35) (ix := 124) (rr := 159) (pl := 1180) (b := 256) (As := [.int a1]) (S := []) (by decide) rfl (pm_dec tk_X8_isHeld rfl) rfl rfl (by decide) rfl rfl (by decide) (Nat.le_of_ble_eq_true rfl) rfl (e_X2_hasStripe (by omega) q4) ?_
       by_cases h5 : r3 = 0
       · rw [if_pos h5] at H
         have J := Option.some.inj H
         refine pm_Wg.path (k := 1) (ds := [0]) (f' := (39, [some (.ref 0), some (.int a0), some (.int a1)], [], cl_h (ct_x v1 (.ref 320) v3 s0) g1 g2 g3 (ct_p4 s4) (ct_e5 (.ref 256) (.ref 384) s5) g6 g7 g8 g9 q)) tk_X8_isHeld (by omega) rfl ⟨h5, trivial⟩ ?_
         exact pm_Wg.throwW (ik := 112) (ic := 116) (ix := 13) (rx := px_rx13) (k := 34) rfl rfl (by omega) px_NSE rfl rfl (by decide +kernel) (by decide +kernel) (by decide +kernel) (by decide +kernel) (by decide +kernel) (Nat.le_of_ble_eq_true rfl)
       · rw [if_neg h5] at H
         cases q7 : f_X4_holds s5 a0 a1 with
         | none => rw [q7] at H; cases H
         | some r6 =>
          rw [q7] at H
          dsimp only at H
          refine pm_Wg.path (k := 6) (ds := [1]) (f' := (59, [some (.ref 0), some (.int a0), some (.int a1)], [.int a1, .int a0, .ref 351], cl_h (ct_x v1 (.ref 320) v3 s0) g1 g2 g3 (ct_p4 s4) (ct_e5 (.ref 256) (.ref 384) s5) g6 g7 g8 g9 q)) tk_X8_isHeld (by omega) rfl ⟨h5, trivial⟩ ?_
          refine pm_Wg.callV (m' := 64) (ix := 312) (rr := 219) (pl := 1392) (b := 351) (As := [.int a0, .int a1]) (S := []) (by decide) rfl (pm_dec tk_X8_isHeld rfl) rfl rfl (by decide) rfl rfl (by decide) (Nat.le_of_ble_eq_true rfl) rfl (e_X4_holds (by omega) q7) ?_
          by_cases z8 : r6 &&& 1 = r6
          case neg => rw [if_neg z8] at H; cases H
          rw [if_pos z8] at H
          have J := Option.some.inj H
          cases J

def tb_X8_cachedUnits : List pm_I := [(0, .aload_n 0, 0, 0), (1, .getfield 20, 13, 0), (4, .ifnonnull 7, 11, 0), (7, .iconst 0, 2, 0), (8, .goto 13, 21, 0), (11, .aload_n 0, 0, 0), (12, .getfield 20, 13, 0), (15, .getfield 170, 114, 0), (18, .getfield 315, 81, 0), (21, .ireturn, 0, 0)]
theorem tk_X8_cachedUnits : ∀ e ∈ tb_X8_cachedUnits, pm_ck 135 e = true := List.all_eq_true.mp (by decide +kernel)

def f_X8_cachedUnits_N (s0 : cs_S) : Option (Int32) :=
  some 0
set_option maxRecDepth 20000 in
set_option maxHeartbeats 20000000 in
theorem e_X8_cachedUnits_N {d : Nat} (hd : 1 ≤ d) {g1 g2 g3 g4 g5 g6 g7 g8 g9 : List pm_E} {v1 v3 : Value} {q : Nat × Nat × Nat} {s0 : cs_S} {r : Int32} (H : f_X8_cachedUnits_N s0 = some r) : pm_Mt 135 d [.ref 0] (cl_h (ct_x v1 (.null) v3 s0) g1 g2 g3 g4 g5 g6 g7 g8 g9 q) (.inl (some (.int r))) (cl_h (ct_x v1 (.null) v3 s0) g1 g2 g3 g4 g5 g6 g7 g8 g9 q) := by
  refine pm_Mt.of (by decide) (by decide +kernel) rfl rfl ?_
  unfold f_X8_cachedUnits_N at H
  have J := Option.some.inj H
  subst J
  refine pm_Wg.path (k := 5) (ds := []) (f' := (21, [some (.ref 0)], [.int 0], cl_h (ct_x v1 (.null) v3 s0) g1 g2 g3 g4 g5 g6 g7 g8 g9 q)) tk_X8_cachedUnits (by omega) rfl trivial ?_
  exact pm_Wg.iret (pm_dec tk_X8_cachedUnits rfl) rfl rfl

def f_X8_cachedUnits_E (s0 : cs_S) (s5 : cs_S) : Option (Int32) :=
  some (s5.1 31 4)
set_option maxRecDepth 20000 in
set_option maxHeartbeats 20000000 in
theorem e_X8_cachedUnits_E {d : Nat} (hd : 1 ≤ d) {g1 g2 g3 g4 g6 g7 g8 g9 : List pm_E} {v1 v3 : Value} {q : Nat × Nat × Nat} {s0 : cs_S} {s5 : cs_S} {r : Int32} (H : f_X8_cachedUnits_E s0 s5 = some r) : pm_Mt 135 d [.ref 0] (cl_h (ct_x v1 (.ref 320) v3 s0) g1 g2 g3 g4 (ct_e5 (.ref 256) (.ref 384) s5) g6 g7 g8 g9 q) (.inl (some (.int r))) (cl_h (ct_x v1 (.ref 320) v3 s0) g1 g2 g3 g4 (ct_e5 (.ref 256) (.ref 384) s5) g6 g7 g8 g9 q) := by
  refine pm_Mt.of (by decide) (by decide +kernel) rfl rfl ?_
  unfold f_X8_cachedUnits_E at H
  have J := Option.some.inj H
  subst J
  refine pm_Wg.path (k := 7) (ds := []) (f' := (21, [some (.ref 0)], [.int (s5.1 31 4)], cl_h (ct_x v1 (.ref 320) v3 s0) g1 g2 g3 g4 (ct_e5 (.ref 256) (.ref 384) s5) g6 g7 g8 g9 q)) tk_X8_cachedUnits (by omega) rfl trivial ?_
  exact pm_Wg.iret (pm_dec tk_X8_cachedUnits rfl) rfl rfl

def tb_X8_rebuiltCount : List pm_I := [(0, .aload_n 0, 0, 0), (1, .getfield 20, 13, 0), (4, .ifnonnull 7, 11, 0), (7, .iconst 0, 2, 0), (8, .goto 13, 21, 0), (11, .aload_n 0, 0, 0), (12, .getfield 20, 13, 0), (15, .getfield 170, 114, 0), (18, .getfield 318, 83, 0), (21, .ireturn, 0, 0)]
theorem tk_X8_rebuiltCount : ∀ e ∈ tb_X8_rebuiltCount, pm_ck 136 e = true := List.all_eq_true.mp (by decide +kernel)

def f_X8_rebuiltCount_N (s0 : cs_S) : Option (Int32) :=
  some 0
set_option maxRecDepth 20000 in
set_option maxHeartbeats 20000000 in
theorem e_X8_rebuiltCount_N {d : Nat} (hd : 1 ≤ d) {g1 g2 g3 g4 g5 g6 g7 g8 g9 : List pm_E} {v1 v3 : Value} {q : Nat × Nat × Nat} {s0 : cs_S} {r : Int32} (H : f_X8_rebuiltCount_N s0 = some r) : pm_Mt 136 d [.ref 0] (cl_h (ct_x v1 (.null) v3 s0) g1 g2 g3 g4 g5 g6 g7 g8 g9 q) (.inl (some (.int r))) (cl_h (ct_x v1 (.null) v3 s0) g1 g2 g3 g4 g5 g6 g7 g8 g9 q) := by
  refine pm_Mt.of (by decide) (by decide +kernel) rfl rfl ?_
  unfold f_X8_rebuiltCount_N at H
  have J := Option.some.inj H
  subst J
  refine pm_Wg.path (k := 5) (ds := []) (f' := (21, [some (.ref 0)], [.int 0], cl_h (ct_x v1 (.null) v3 s0) g1 g2 g3 g4 g5 g6 g7 g8 g9 q)) tk_X8_rebuiltCount (by omega) rfl trivial ?_
  exact pm_Wg.iret (pm_dec tk_X8_rebuiltCount rfl) rfl rfl

def f_X8_rebuiltCount_E (s0 : cs_S) (s5 : cs_S) : Option (Int32) :=
  some (s5.1 31 5)
set_option maxRecDepth 20000 in
set_option maxHeartbeats 20000000 in
theorem e_X8_rebuiltCount_E {d : Nat} (hd : 1 ≤ d) {g1 g2 g3 g4 g6 g7 g8 g9 : List pm_E} {v1 v3 : Value} {q : Nat × Nat × Nat} {s0 : cs_S} {s5 : cs_S} {r : Int32} (H : f_X8_rebuiltCount_E s0 s5 = some r) : pm_Mt 136 d [.ref 0] (cl_h (ct_x v1 (.ref 320) v3 s0) g1 g2 g3 g4 (ct_e5 (.ref 256) (.ref 384) s5) g6 g7 g8 g9 q) (.inl (some (.int r))) (cl_h (ct_x v1 (.ref 320) v3 s0) g1 g2 g3 g4 (ct_e5 (.ref 256) (.ref 384) s5) g6 g7 g8 g9 q) := by
  refine pm_Mt.of (by decide) (by decide +kernel) rfl rfl ?_
  unfold f_X8_rebuiltCount_E at H
  have J := Option.some.inj H
  subst J
  refine pm_Wg.path (k := 7) (ds := []) (f' := (21, [some (.ref 0)], [.int (s5.1 31 5)], cl_h (ct_x v1 (.ref 320) v3 s0) g1 g2 g3 g4 (ct_e5 (.ref 256) (.ref 384) s5) g6 g7 g8 g9 q)) tk_X8_rebuiltCount (by omega) rfl trivial ?_
  exact pm_Wg.iret (pm_dec tk_X8_rebuiltCount rfl) rfl rfl

def tb_X8_completedAt : List pm_I := [(0, .aload_n 0, 0, 0), (1, .getfield 20, 13, 0), (4, .ifnonnull 7, 11, 0), (7, .iconst (-1), 1, 0), (8, .goto 13, 21, 0), (11, .aload_n 0, 0, 0), (12, .getfield 20, 13, 0), (15, .getfield 170, 114, 0), (18, .getfield 321, 86, 0), (21, .ireturn, 0, 0)]
theorem tk_X8_completedAt : ∀ e ∈ tb_X8_completedAt, pm_ck 137 e = true := List.all_eq_true.mp (by decide +kernel)

def f_X8_completedAt_N (s0 : cs_S) : Option (Int32) :=
  some (-1)
set_option maxRecDepth 20000 in
set_option maxHeartbeats 20000000 in
theorem e_X8_completedAt_N {d : Nat} (hd : 1 ≤ d) {g1 g2 g3 g4 g5 g6 g7 g8 g9 : List pm_E} {v1 v3 : Value} {q : Nat × Nat × Nat} {s0 : cs_S} {r : Int32} (H : f_X8_completedAt_N s0 = some r) : pm_Mt 137 d [.ref 0] (cl_h (ct_x v1 (.null) v3 s0) g1 g2 g3 g4 g5 g6 g7 g8 g9 q) (.inl (some (.int r))) (cl_h (ct_x v1 (.null) v3 s0) g1 g2 g3 g4 g5 g6 g7 g8 g9 q) := by
  refine pm_Mt.of (by decide) (by decide +kernel) rfl rfl ?_
  unfold f_X8_completedAt_N at H
  have J := Option.some.inj H
  subst J
  refine pm_Wg.path (k := 5) (ds := []) (f' := (21, [some (.ref 0)], [.int (-1)], cl_h (ct_x v1 (.null) v3 s0) g1 g2 g3 g4 g5 g6 g7 g8 g9 q)) tk_X8_completedAt (by omega) rfl trivial ?_
  exact pm_Wg.iret (pm_dec tk_X8_completedAt rfl) rfl rfl

def f_X8_completedAt_E (s0 : cs_S) (s5 : cs_S) : Option (Int32) :=
  some (s5.1 31 6)
set_option maxRecDepth 20000 in
set_option maxHeartbeats 20000000 in
theorem e_X8_completedAt_E {d : Nat} (hd : 1 ≤ d) {g1 g2 g3 g4 g6 g7 g8 g9 : List pm_E} {v1 v3 : Value} {q : Nat × Nat × Nat} {s0 : cs_S} {s5 : cs_S} {r : Int32} (H : f_X8_completedAt_E s0 s5 = some r) : pm_Mt 137 d [.ref 0] (cl_h (ct_x v1 (.ref 320) v3 s0) g1 g2 g3 g4 (ct_e5 (.ref 256) (.ref 384) s5) g6 g7 g8 g9 q) (.inl (some (.int r))) (cl_h (ct_x v1 (.ref 320) v3 s0) g1 g2 g3 g4 (ct_e5 (.ref 256) (.ref 384) s5) g6 g7 g8 g9 q) := by
  refine pm_Mt.of (by decide) (by decide +kernel) rfl rfl ?_
  unfold f_X8_completedAt_E at H
  have J := Option.some.inj H
  subst J
  refine pm_Wg.path (k := 7) (ds := []) (f' := (21, [some (.ref 0)], [.int (s5.1 31 6)], cl_h (ct_x v1 (.ref 320) v3 s0) g1 g2 g3 g4 (ct_e5 (.ref 256) (.ref 384) s5) g6 g7 g8 g9 q)) tk_X8_completedAt (by omega) rfl trivial ?_
  exact pm_Wg.iret (pm_dec tk_X8_completedAt rfl) rfl rfl

def tb_X8_savedReads : List pm_I := [(0, .aload_n 0, 0, 0), (1, .getfield 20, 13, 0), (4, .ifnonnull 7, 11, 0), (7, .iconst 0, 2, 0), (8, .goto 13, 21, 0), (11, .aload_n 0, 0, 0), (12, .getfield 20, 13, 0), (15, .getfield 170, 114, 0), (18, .getfield 324, 89, 0), (21, .ireturn, 0, 0)]
theorem tk_X8_savedReads : ∀ e ∈ tb_X8_savedReads, pm_ck 138 e = true := List.all_eq_true.mp (by decide +kernel)

def f_X8_savedReads_N (s0 : cs_S) : Option (Int32) :=
  some 0
set_option maxRecDepth 20000 in
set_option maxHeartbeats 20000000 in
theorem e_X8_savedReads_N {d : Nat} (hd : 1 ≤ d) {g1 g2 g3 g4 g5 g6 g7 g8 g9 : List pm_E} {v1 v3 : Value} {q : Nat × Nat × Nat} {s0 : cs_S} {r : Int32} (H : f_X8_savedReads_N s0 = some r) : pm_Mt 138 d [.ref 0] (cl_h (ct_x v1 (.null) v3 s0) g1 g2 g3 g4 g5 g6 g7 g8 g9 q) (.inl (some (.int r))) (cl_h (ct_x v1 (.null) v3 s0) g1 g2 g3 g4 g5 g6 g7 g8 g9 q) := by
  refine pm_Mt.of (by decide) (by decide +kernel) rfl rfl ?_
  unfold f_X8_savedReads_N at H
  have J := Option.some.inj H
  subst J
  refine pm_Wg.path (k := 5) (ds := []) (f' := (21, [some (.ref 0)], [.int 0], cl_h (ct_x v1 (.null) v3 s0) g1 g2 g3 g4 g5 g6 g7 g8 g9 q)) tk_X8_savedReads (by omega) rfl trivial ?_
  exact pm_Wg.iret (pm_dec tk_X8_savedReads rfl) rfl rfl

def f_X8_savedReads_E (s0 : cs_S) (s5 : cs_S) : Option (Int32) :=
  some (s5.1 31 7)
set_option maxRecDepth 20000 in
set_option maxHeartbeats 20000000 in
theorem e_X8_savedReads_E {d : Nat} (hd : 1 ≤ d) {g1 g2 g3 g4 g6 g7 g8 g9 : List pm_E} {v1 v3 : Value} {q : Nat × Nat × Nat} {s0 : cs_S} {s5 : cs_S} {r : Int32} (H : f_X8_savedReads_E s0 s5 = some r) : pm_Mt 138 d [.ref 0] (cl_h (ct_x v1 (.ref 320) v3 s0) g1 g2 g3 g4 (ct_e5 (.ref 256) (.ref 384) s5) g6 g7 g8 g9 q) (.inl (some (.int r))) (cl_h (ct_x v1 (.ref 320) v3 s0) g1 g2 g3 g4 (ct_e5 (.ref 256) (.ref 384) s5) g6 g7 g8 g9 q) := by
  refine pm_Mt.of (by decide) (by decide +kernel) rfl rfl ?_
  unfold f_X8_savedReads_E at H
  have J := Option.some.inj H
  subst J
  refine pm_Wg.path (k := 7) (ds := []) (f' := (21, [some (.ref 0)], [.int (s5.1 31 7)], cl_h (ct_x v1 (.ref 320) v3 s0) g1 g2 g3 g4 (ct_e5 (.ref 256) (.ref 384) s5) g6 g7 g8 g9 q)) tk_X8_savedReads (by omega) rfl trivial ?_
  exact pm_Wg.iret (pm_dec tk_X8_savedReads rfl) rfl rfl

def tb_X8_piggybackedReads : List pm_I := [(0, .aload_n 0, 0, 0), (1, .getfield 20, 13, 0), (4, .ifnonnull 7, 11, 0), (7, .iconst 0, 2, 0), (8, .goto 13, 21, 0), (11, .aload_n 0, 0, 0), (12, .getfield 20, 13, 0), (15, .getfield 170, 114, 0), (18, .getfield 327, 92, 0), (21, .ireturn, 0, 0)]
theorem tk_X8_piggybackedReads : ∀ e ∈ tb_X8_piggybackedReads, pm_ck 139 e = true := List.all_eq_true.mp (by decide +kernel)

def f_X8_piggybackedReads_N (s0 : cs_S) : Option (Int32) :=
  some 0
set_option maxRecDepth 20000 in
set_option maxHeartbeats 20000000 in
theorem e_X8_piggybackedReads_N {d : Nat} (hd : 1 ≤ d) {g1 g2 g3 g4 g5 g6 g7 g8 g9 : List pm_E} {v1 v3 : Value} {q : Nat × Nat × Nat} {s0 : cs_S} {r : Int32} (H : f_X8_piggybackedReads_N s0 = some r) : pm_Mt 139 d [.ref 0] (cl_h (ct_x v1 (.null) v3 s0) g1 g2 g3 g4 g5 g6 g7 g8 g9 q) (.inl (some (.int r))) (cl_h (ct_x v1 (.null) v3 s0) g1 g2 g3 g4 g5 g6 g7 g8 g9 q) := by
  refine pm_Mt.of (by decide) (by decide +kernel) rfl rfl ?_
  unfold f_X8_piggybackedReads_N at H
  have J := Option.some.inj H
  subst J
  refine pm_Wg.path (k := 5) (ds := []) (f' := (21, [some (.ref 0)], [.int 0], cl_h (ct_x v1 (.null) v3 s0) g1 g2 g3 g4 g5 g6 g7 g8 g9 q)) tk_X8_piggybackedReads (by omega) rfl trivial ?_
  exact pm_Wg.iret (pm_dec tk_X8_piggybackedReads rfl) rfl rfl

def f_X8_piggybackedReads_E (s0 : cs_S) (s5 : cs_S) : Option (Int32) :=
  some (s5.1 31 8)
set_option maxRecDepth 20000 in
set_option maxHeartbeats 20000000 in
theorem e_X8_piggybackedReads_E {d : Nat} (hd : 1 ≤ d) {g1 g2 g3 g4 g6 g7 g8 g9 : List pm_E} {v1 v3 : Value} {q : Nat × Nat × Nat} {s0 : cs_S} {s5 : cs_S} {r : Int32} (H : f_X8_piggybackedReads_E s0 s5 = some r) : pm_Mt 139 d [.ref 0] (cl_h (ct_x v1 (.ref 320) v3 s0) g1 g2 g3 g4 (ct_e5 (.ref 256) (.ref 384) s5) g6 g7 g8 g9 q) (.inl (some (.int r))) (cl_h (ct_x v1 (.ref 320) v3 s0) g1 g2 g3 g4 (ct_e5 (.ref 256) (.ref 384) s5) g6 g7 g8 g9 q) := by
  refine pm_Mt.of (by decide) (by decide +kernel) rfl rfl ?_
  unfold f_X8_piggybackedReads_E at H
  have J := Option.some.inj H
  subst J
  refine pm_Wg.path (k := 7) (ds := []) (f' := (21, [some (.ref 0)], [.int (s5.1 31 8)], cl_h (ct_x v1 (.ref 320) v3 s0) g1 g2 g3 g4 (ct_e5 (.ref 256) (.ref 384) s5) g6 g7 g8 g9 q)) tk_X8_piggybackedReads (by omega) rfl trivial ?_
  exact pm_Wg.iret (pm_dec tk_X8_piggybackedReads rfl) rfl rfl

def tb_X8_stripeDeadline : List pm_I := [(0, .aload_n 0, 0, 0), (1, .getfield 20, 13, 0), (4, .ifnull 17, 21, 0), (7, .aload_n 0, 0, 0), (8, .getfield 20, 13, 0), (11, .getfield 79, 98, 0), (14, .iload_n 1, 0, 0), (15, .invokevirtual 124, 159, 0), (18, .ifCond .ne 13, 31, 0), (31, .aload_n 0, 0, 0), (32, .getfield 20, 13, 0), (35, .getfield 170, 114, 0), (38, .iload_n 1, 0, 0), (39, .aload_n 0, 0, 0), (40, .getfield 20, 13, 0), (43, .getfield 79, 98, 0), (46, .getfield 105, 119, 0), (49, .invokevirtual 330, 222, 0), (52, .ireturn, 0, 0)]
theorem tk_X8_stripeDeadline : ∀ e ∈ tb_X8_stripeDeadline, pm_ck 140 e = true := List.all_eq_true.mp (by decide +kernel)

def f_X8_stripeDeadline_N (s0 : cs_S) (a0 : Int32) : Option ((Int32 ⊕ Nat)) :=
  some (.inr 2)
set_option maxRecDepth 20000 in
set_option maxHeartbeats 20000000 in
theorem e_X8_stripeDeadline_N_t2 {d : Nat} (hd : 6 ≤ d) {g1 g2 g3 g4 g5 g6 g7 g8 g9 : List pm_E} {v1 v3 : Value} {q : Nat × Nat × Nat} {s0 : cs_S} {a0 : Int32} (H : f_X8_stripeDeadline_N s0 a0 = some (.inr 2)) : pm_Mt 140 d [.ref 0, .int a0] (cl_h (ct_x v1 (.null) v3 s0) g1 g2 g3 g4 g5 g6 g7 g8 g9 q) (.inr "java/util/NoSuchElementException") (cl_h (ct_x v1 (.null) v3 s0) g1 g2 g3 g4 g5 g6 g7 g8 g9 (q.1, q.2.1 + 1, q.2.2 + 6)) := by
  refine pm_Mt.of (by decide) (by decide +kernel) rfl rfl ?_
  obtain ⟨d, rfl⟩ : ∃ d', d = d' + 1 := ⟨d - 1, by omega⟩
  unfold f_X8_stripeDeadline_N at H
  have J := Option.some.inj H
  refine pm_Wg.path (k := 3) (ds := []) (f' := (21, [some (.ref 0), some (.int a0)], [], cl_h (ct_x v1 (.null) v3 s0) g1 g2 g3 g4 g5 g6 g7 g8 g9 q)) tk_X8_stripeDeadline (by omega) rfl trivial ?_
  exact pm_Wg.throw (ik := 112) (ic := 116) (ix := 13) (rx := px_rx13) (k := 18) rfl rfl (by omega) px_NSE rfl rfl (by decide +kernel) (by decide +kernel) (by decide +kernel) (by decide +kernel) (by decide +kernel) (Nat.le_of_ble_eq_true rfl)

def f_X8_stripeDeadline_E (s0 : cs_S) (s4 : cs_S) (s5 : cs_S) (a0 : Int32) : Option ((Int32 ⊕ Nat)) :=
  (match f_X2_hasStripe s4 a0 with
  | none => none
  | some r1 =>
   (if r1 = 0 then
    some (.inr 2)
   else
    (match f_X4_deadlineOf s5 a0 (s4.1 0 1) with
    | none => none
    | some r4 =>
     some (.inl r4))))
set_option maxRecDepth 20000 in
set_option maxHeartbeats 20000000 in
theorem e_X8_stripeDeadline_E {d : Nat} (hd : 6 ≤ d) {g1 g2 g3 g6 g7 g8 g9 : List pm_E} {v1 v3 : Value} {q : Nat × Nat × Nat} {s0 : cs_S} {s4 : cs_S} {s5 : cs_S} {a0 : Int32} {r : Int32} (H : f_X8_stripeDeadline_E s0 s4 s5 a0 = some (.inl r)) : pm_Mt 140 d [.ref 0, .int a0] (cl_h (ct_x v1 (.ref 320) v3 s0) g1 g2 g3 (ct_p4 s4) (ct_e5 (.ref 256) (.ref 384) s5) g6 g7 g8 g9 q) (.inl (some (.int r))) (cl_h (ct_x v1 (.ref 320) v3 s0) g1 g2 g3 (ct_p4 s4) (ct_e5 (.ref 256) (.ref 384) s5) g6 g7 g8 g9 q) := by
  refine pm_Mt.of (by decide) (by decide +kernel) rfl rfl ?_
  obtain ⟨d, rfl⟩ : ∃ d', d = d' + 1 := ⟨d - 1, by omega⟩
  unfold f_X8_stripeDeadline_E at H
  cases q2 : f_X2_hasStripe s4 a0 with
  | none => rw [q2] at H; cases H
  | some r1 =>
   rw [q2] at H
   dsimp only at H
   refine pm_Wg.path (k := 7) (ds := []) (f' := (15, [some (.ref 0), some (.int a0)], [.int a0, .ref 256], cl_h (ct_x v1 (.ref 320) v3 s0) g1 g2 g3 (ct_p4 s4) (ct_e5 (.ref 256) (.ref 384) s5) g6 g7 g8 g9 q)) tk_X8_stripeDeadline (by omega) rfl trivial ?_
   refine pm_Wg.callV (m' := 35) (ix := 124) (rr := 159) (pl := 1180) (b := 256) (As := [.int a0]) (S := []) (by decide) rfl (pm_dec tk_X8_stripeDeadline rfl) rfl rfl (by decide) rfl rfl (by decide) (Nat.le_of_ble_eq_true rfl) rfl (e_X2_hasStripe (by omega) q2) ?_
   by_cases h3 : r1 = 0
   · rw [if_pos h3] at H
     have J := Option.some.inj H
     cases J
   · rw [if_neg h3] at H
     cases q5 : f_X4_deadlineOf s5 a0 (s4.1 0 1) with
     | none => rw [q5] at H; cases H
     | some r4 =>
      rw [q5] at H
      dsimp only at H
      refine pm_Wg.path (k := 9) (ds := [1]) (f' := (49, [some (.ref 0), some (.int a0)], [.int (s4.1 0 1), .int a0, .ref 351], cl_h (ct_x v1 (.ref 320) v3 s0) g1 g2 g3 (ct_p4 s4) (ct_e5 (.ref 256) (.ref 384) s5) g6 g7 g8 g9 q)) tk_X8_stripeDeadline (by omega) rfl ⟨h3, trivial⟩ ?_
      refine pm_Wg.callV (m' := 70) (ix := 330) (rr := 222) (pl := 1400) (b := 351) (As := [.int a0, .int (s4.1 0 1)]) (S := []) (by decide) rfl (pm_dec tk_X8_stripeDeadline rfl) rfl rfl (by decide) rfl rfl (by decide) (Nat.le_of_ble_eq_true rfl) rfl (e_X4_deadlineOf (by omega) q5) ?_
      have J := Option.some.inj H
      injection J with JR
      subst JR
      exact pm_Wg.iret (pm_dec tk_X8_stripeDeadline rfl) rfl rfl
set_option maxRecDepth 20000 in
set_option maxHeartbeats 20000000 in
theorem e_X8_stripeDeadline_E_t2 {d : Nat} (hd : 6 ≤ d) {g1 g2 g3 g6 g7 g8 g9 : List pm_E} {v1 v3 : Value} {q : Nat × Nat × Nat} {s0 : cs_S} {s4 : cs_S} {s5 : cs_S} {a0 : Int32} (H : f_X8_stripeDeadline_E s0 s4 s5 a0 = some (.inr 2)) : pm_Mt 140 d [.ref 0, .int a0] (cl_h (ct_x v1 (.ref 320) v3 s0) g1 g2 g3 (ct_p4 s4) (ct_e5 (.ref 256) (.ref 384) s5) g6 g7 g8 g9 q) (.inr "java/util/NoSuchElementException") (cl_h (ct_x v1 (.ref 320) v3 s0) g1 g2 g3 (ct_p4 s4) (ct_e5 (.ref 256) (.ref 384) s5) g6 g7 g8 g9 (q.1, q.2.1 + 1, q.2.2 + 6)) := by
  refine pm_Mt.of (by decide) (by decide +kernel) rfl rfl ?_
  obtain ⟨d, rfl⟩ : ∃ d', d = d' + 1 := ⟨d - 1, by omega⟩
  unfold f_X8_stripeDeadline_E at H
  cases q2 : f_X2_hasStripe s4 a0 with
  | none => rw [q2] at H; cases H
  | some r1 =>
   rw [q2] at H
   dsimp only at H
   refine pm_Wg.path (k := 7) (ds := []) (f' := (15, [some (.ref 0), some (.int a0)], [.int a0, .ref 256], cl_h (ct_x v1 (.ref 320) v3 s0) g1 g2 g3 (ct_p4 s4) (ct_e5 (.ref 256) (.ref 384) s5) g6 g7 g8 g9 q)) tk_X8_stripeDeadline (by omega) rfl trivial ?_
   refine pm_Wg.callV (m' := 35) (ix := 124) (rr := 159) (pl := 1180) (b := 256) (As := [.int a0]) (S := []) (by decide) rfl (pm_dec tk_X8_stripeDeadline rfl) rfl rfl (by decide) rfl rfl (by decide) (Nat.le_of_ble_eq_true rfl) rfl (e_X2_hasStripe (by omega) q2) ?_
   by_cases h3 : r1 = 0
   · rw [if_pos h3] at H
     have J := Option.some.inj H
     refine pm_Wg.path (k := 1) (ds := [0]) (f' := (21, [some (.ref 0), some (.int a0)], [], cl_h (ct_x v1 (.ref 320) v3 s0) g1 g2 g3 (ct_p4 s4) (ct_e5 (.ref 256) (.ref 384) s5) g6 g7 g8 g9 q)) tk_X8_stripeDeadline (by omega) rfl ⟨h3, trivial⟩ ?_
     exact pm_Wg.throw (ik := 112) (ic := 116) (ix := 13) (rx := px_rx13) (k := 18) rfl rfl (by omega) px_NSE rfl rfl (by decide +kernel) (by decide +kernel) (by decide +kernel) (by decide +kernel) (by decide +kernel) (Nat.le_of_ble_eq_true rfl)
   · rw [if_neg h3] at H
     cases q5 : f_X4_deadlineOf s5 a0 (s4.1 0 1) with
     | none => rw [q5] at H; cases H
     | some r4 =>
      rw [q5] at H
      dsimp only at H
      refine pm_Wg.path (k := 9) (ds := [1]) (f' := (49, [some (.ref 0), some (.int a0)], [.int (s4.1 0 1), .int a0, .ref 351], cl_h (ct_x v1 (.ref 320) v3 s0) g1 g2 g3 (ct_p4 s4) (ct_e5 (.ref 256) (.ref 384) s5) g6 g7 g8 g9 q)) tk_X8_stripeDeadline (by omega) rfl ⟨h3, trivial⟩ ?_
      refine pm_Wg.callV (m' := 70) (ix := 330) (rr := 222) (pl := 1400) (b := 351) (As := [.int a0, .int (s4.1 0 1)]) (S := []) (by decide) rfl (pm_dec tk_X8_stripeDeadline rfl) rfl rfl (by decide) rfl rfl (by decide) (Nat.le_of_ble_eq_true rfl) rfl (e_X4_deadlineOf (by omega) q5) ?_
      have J := Option.some.inj H
      cases J

def tb_X8_bound : List pm_I := [(0, .aload_n 0, 0, 0), (1, .getfield 20, 13, 0), (4, .ifnull 32, 36, 0), (7, .aload_n 0, 0, 0), (8, .getfield 20, 13, 0), (11, .getfield 170, 114, 0), (14, .getfield 174, 72, 0), (17, .iconst (-1), 1, 0), (18, .if_icmp .eq 18, 36, 0), (21, .aload_n 0, 0, 0), (22, .getfield 20, 13, 0), (25, .getfield 79, 98, 0), (28, .getfield 138, 138, 0), (31, .iconst 0, 2, 0), (32, .iaload, 0, 0), (33, .ifCond .gt 5, 38, 0), (36, .iconst (-1), 1, 0), (37, .ireturn, 0, 0), (38, .iconst 0, 2, 0), (39, .istore_n 1, 0, 0), (40, .iconst 0, 2, 0), (41, .istore_n 2, 0, 0), (42, .iload_n 2, 0, 0), (43, .aload_n 0, 0, 0), (44, .getfield 20, 13, 0), (47, .getfield 79, 98, 0), (50, .getfield 102, 117, 0), (53, .if_icmp .ge 49, 102, 0), (56, .iload_n 2, 0, 0), (57, .aload_n 0, 0, 0), (58, .getfield 20, 13, 0), (61, .getfield 170, 114, 0), (64, .getfield 174, 72, 0), (67, .if_icmp .eq 29, 96, 0), (70, .iload_n 1, 0, 0), (71, .aload_n 0, 0, 0), (72, .getfield 20, 13, 0), (75, .getfield 170, 114, 0), (78, .iload_n 2, 0, 0), (79, .aload_n 0, 0, 0), (80, .getfield 20, 13, 0), (83, .getfield 79, 98, 0), (86, .getfield 105, 119, 0), (89, .invokevirtual 340, 90, 0), (92, .invokestatic 343, 92, 2), (95, .istore_n 1, 0, 0), (96, .iinc 2 1, 3, 0), (99, .goto (-57), 42, 0), (102, .aload_n 0, 0, 0), (103, .getfield 20, 13, 0), (106, .getfield 79, 98, 0), (109, .getfield 138, 138, 0), (112, .iconst 0, 2, 0), (113, .iaload, 0, 0), (114, .istore_n 2, 0, 0), (115, .aload_n 0, 0, 0), (116, .getfield 20, 13, 0), (119, .getfield 83, 106, 0), (122, .sipush 1000, 39, 0), (125, .iload_n 1, 0, 0), (126, .imul, 0, 0), (127, .iload_n 2, 0, 0), (128, .iadd, 0, 0), (129, .iconst 1, 3, 0), (130, .isub, 0, 0), (131, .iload_n 2, 0, 0), (132, .idiv, 0, 0), (133, .iadd, 0, 0), (134, .ireturn, 0, 0)]
theorem tk_X8_bound : ∀ e ∈ tb_X8_bound, pm_ck 142 e = true := List.all_eq_true.mp (by decide +kernel)

def f_X8_bound_N (s0 : cs_S) : Option (Int32) :=
  some (-1)
set_option maxRecDepth 20000 in
set_option maxHeartbeats 20000000 in
theorem e_X8_bound_N {d : Nat} (hd : 3 ≤ d) {g1 g2 g3 g4 g5 g6 g7 g8 g9 : List pm_E} {v1 v3 : Value} {q : Nat × Nat × Nat} {s0 : cs_S} {r : Int32} (H : f_X8_bound_N s0 = some r) : pm_Mt 142 d [.ref 0] (cl_h (ct_x v1 (.null) v3 s0) g1 g2 g3 g4 g5 g6 g7 g8 g9 q) (.inl (some (.int r))) (cl_h (ct_x v1 (.null) v3 s0) g1 g2 g3 g4 g5 g6 g7 g8 g9 q) := by
  refine pm_Mt.of (by decide) (by decide +kernel) rfl rfl ?_
  obtain ⟨d, rfl⟩ : ∃ d', d = d' + 1 := ⟨d - 1, by omega⟩
  unfold f_X8_bound_N at H
  have J := Option.some.inj H
  subst J
  refine pm_Wg.path (k := 4) (ds := []) (f' := (37, [some (.ref 0), none, none], [.int (-1)], cl_h (ct_x v1 (.null) v3 s0) g1 g2 g3 g4 g5 g6 g7 g8 g9 q)) tk_X8_bound (by omega) rfl trivial ?_
  exact pm_Wg.iret (pm_dec tk_X8_bound rfl) rfl rfl

def lb_X8_bound_E_42 (s0 : cs_S) (s4 : cs_S) (s5 : cs_S) (x : Int32 × Int32) : Option ((Int32 × Int32) ⊕ (Int32)) := match x with
  | (l1, l2) =>
   (if (s4.1 0 0) ≤ l2 then
    (match pm_inb 0 6 with
    | false => none
    | true =>
    (if (s4.2.1 1 (Int32.toNatClampNeg 0)) = 0 then none else
    some (.inr ((s5.1 0 4) + ((((1000 * l1) + (s4.2.1 1 (Int32.toNatClampNeg 0))) - 1) / (s4.2.1 1 (Int32.toNatClampNeg 0)))))))
   else
    (if l2 = (s5.1 31 0) then
     some (.inl (l1, (l2 + 1)))
    else
     (match f_X4_unitsToRead s5 l2 (s4.1 0 1) with
     | none => none
     | some r8 =>
      some (.inl ((if l1 < r8 then r8 else l1), (l2 + 1))))))
def f_X8_bound_E (s0 : cs_S) (s4 : cs_S) (s5 : cs_S) : Option (Int32) :=
  (if (s5.1 31 0) = (-1) then
   some (-1)
  else
   (match pm_inb 0 6 with
   | false => none
   | true =>
   (if 0 < (s4.2.1 1 (Int32.toNatClampNeg 0)) then
    (pm_loop pm_fu (lb_X8_bound_E_42 s0 s4 s5) (0, 0))
   else
    some (-1))))
set_option maxRecDepth 20000 in
set_option maxHeartbeats 40000000 in
theorem ll_X8_bound_E_42 {d : Nat} (hd : 3 ≤ d) {g1 g2 g3 g6 g7 g8 g9 : List pm_E} {v1 v3 : Value} {q : Nat × Nat × Nat} {s0 : cs_S} {s4 : cs_S} {s5 : cs_S} {r : Int32} (P : Int32 → Prop) (K0 : ∀ e : Int32, P (e) → e = r) : ∀ (n : Nat) (l1 : Int32) (l2 : Int32) (e : Int32), pm_loop n (lb_X8_bound_E_42 s0 s4 s5) (l1, l2) = some e → P e → pm_Wg 142 d (.inl (some (.int r))) (cl_h (ct_x v1 (.ref 320) v3 s0) g1 g2 g3 (ct_p4 s4) (ct_e5 (.ref 256) (.ref 384) s5) g6 g7 g8 g9 q) (42, [some (.ref 0), some (.int l1), some (.int l2)], [], cl_h (ct_x v1 (.ref 320) v3 s0) g1 g2 g3 (ct_p4 s4) (ct_e5 (.ref 256) (.ref 384) s5) g6 g7 g8 g9 q) := by
  intro n
  induction n with
  | zero => intro l1 l2 e H; cases H
  | succ n ih =>
    intro l1 l2 e H hPe
    obtain ⟨d, rfl⟩ : ∃ d', d = d' + 1 := ⟨d - 1, by omega⟩
    have H : pm_lst (pm_loop n (lb_X8_bound_E_42 s0 s4 s5)) (lb_X8_bound_E_42 s0 s4 s5 (l1, l2)) = some e := H
    generalize pm_loop n (lb_X8_bound_E_42 s0 s4 s5) = LB at H ih
    unfold lb_X8_bound_E_42 at H
    try dsimp only at H
    by_cases h4 : (s4.1 0 0) ≤ l2
    · rw [if_pos h4] at H
      cases b5 : pm_inb 0 6 with
      | false => rw [b5] at H; cases H
      | true =>
       rw [b5] at H
       dsimp only at H
       by_cases b6 : (s4.2.1 1 (Int32.toNatClampNeg 0)) = 0
       · rw [if_pos b6] at H; cases H
       rw [if_neg b6] at H
       have He := Option.some.inj H
       subst He
       have J := K0 _ hPe
       subst J
       refine pm_Wg.path (k := 26) (ds := [1]) (f' := (134, [some (.ref 0), some (.int l1), some (.int (s4.2.1 1 (Int32.toNatClampNeg 0)))], [.int ((s5.1 0 4) + ((((1000 * l1) + (s4.2.1 1 (Int32.toNatClampNeg 0))) - 1) / (s4.2.1 1 (Int32.toNatClampNeg 0))))], cl_h (ct_x v1 (.ref 320) v3 s0) g1 g2 g3 (ct_p4 s4) (ct_e5 (.ref 256) (.ref 384) s5) g6 g7 g8 g9 q)) tk_X8_bound (by omega) rfl ⟨b6, pm_inb_vp b5, h4, trivial⟩ ?_
       exact pm_Wg.iret (pm_dec tk_X8_bound rfl) rfl rfl
    · rw [if_neg h4] at H
      by_cases h7 : l2 = (s5.1 31 0)
      · rw [if_pos h7] at H
        refine pm_Wg.path (k := 14) (ds := [0, 1]) (f' := (42, [some (.ref 0), some (.int l1), some (.int (l2 + 1))], [], cl_h (ct_x v1 (.ref 320) v3 s0) g1 g2 g3 (ct_p4 s4) (ct_e5 (.ref 256) (.ref 384) s5) g6 g7 g8 g9 q)) tk_X8_bound (by omega) rfl ⟨h7, h4, trivial⟩ ?_
        exact ih _ _ e H hPe
      · rw [if_neg h7] at H
        cases q9 : f_X4_unitsToRead s5 l2 (s4.1 0 1) with
        | none => rw [q9] at H; cases H
        | some r8 =>
         rw [q9] at H
         dsimp only at H
         refine pm_Wg.path (k := 21) (ds := [0, 0]) (f' := (89, [some (.ref 0), some (.int l1), some (.int l2)], [.int (s4.1 0 1), .int l2, .ref 351, .int l1], cl_h (ct_x v1 (.ref 320) v3 s0) g1 g2 g3 (ct_p4 s4) (ct_e5 (.ref 256) (.ref 384) s5) g6 g7 g8 g9 q)) tk_X8_bound (by omega) rfl ⟨h7, h4, trivial⟩ ?_
         refine pm_Wg.callV (m' := 71) (ix := 340) (rr := 90) (pl := 753) (b := 351) (As := [.int l2, .int (s4.1 0 1)]) (S := [.int l1]) (by decide) rfl (pm_dec tk_X8_bound rfl) rfl rfl (by decide) rfl rfl (by decide) (Nat.le_of_ble_eq_true rfl) rfl (e_X4_unitsToRead (by omega) q9) ?_
         refine pm_Wg.path (k := 4) (ds := []) (f' := (42, [some (.ref 0), some (.int (if l1 < r8 then r8 else l1)), some (.int (l2 + 1))], [], cl_h (ct_x v1 (.ref 320) v3 s0) g1 g2 g3 (ct_p4 s4) (ct_e5 (.ref 256) (.ref 384) s5) g6 g7 g8 g9 q)) tk_X8_bound (by omega) rfl trivial ?_
         exact ih _ _ e H hPe
set_option maxRecDepth 20000 in
set_option maxHeartbeats 20000000 in
theorem e_X8_bound_E {d : Nat} (hd : 3 ≤ d) {g1 g2 g3 g6 g7 g8 g9 : List pm_E} {v1 v3 : Value} {q : Nat × Nat × Nat} {s0 : cs_S} {s4 : cs_S} {s5 : cs_S} {r : Int32} (H : f_X8_bound_E s0 s4 s5 = some r) : pm_Mt 142 d [.ref 0] (cl_h (ct_x v1 (.ref 320) v3 s0) g1 g2 g3 (ct_p4 s4) (ct_e5 (.ref 256) (.ref 384) s5) g6 g7 g8 g9 q) (.inl (some (.int r))) (cl_h (ct_x v1 (.ref 320) v3 s0) g1 g2 g3 (ct_p4 s4) (ct_e5 (.ref 256) (.ref 384) s5) g6 g7 g8 g9 q) := by
  refine pm_Mt.of (by decide) (by decide +kernel) rfl rfl ?_
  obtain ⟨d, rfl⟩ : ∃ d', d = d' + 1 := ⟨d - 1, by omega⟩
  unfold f_X8_bound_E at H
  by_cases h1 : (s5.1 31 0) = (-1)
  · rw [if_pos h1] at H
    have J := Option.some.inj H
    subst J
    refine pm_Wg.path (k := 10) (ds := [1]) (f' := (37, [some (.ref 0), none, none], [.int (-1)], cl_h (ct_x v1 (.ref 320) v3 s0) g1 g2 g3 (ct_p4 s4) (ct_e5 (.ref 256) (.ref 384) s5) g6 g7 g8 g9 q)) tk_X8_bound (by omega) rfl ⟨h1, trivial⟩ ?_
    exact pm_Wg.iret (pm_dec tk_X8_bound rfl) rfl rfl
  · rw [if_neg h1] at H
    cases b2 : pm_inb 0 6 with
    | false => rw [b2] at H; cases H
    | true =>
     rw [b2] at H
     dsimp only at H
     by_cases h3 : 0 < (s4.2.1 1 (Int32.toNatClampNeg 0))
     · rw [if_pos h3] at H
       refine pm_Wg.path (k := 20) (ds := [0, 1]) (f' := (42, [some (.ref 0), some (.int 0), some (.int 0)], [], cl_h (ct_x v1 (.ref 320) v3 s0) g1 g2 g3 (ct_p4 s4) (ct_e5 (.ref 256) (.ref 384) s5) g6 g7 g8 g9 q)) tk_X8_bound (by omega) rfl ⟨h3, pm_inb_vp b2, h1, trivial⟩ ?_
       exact ll_X8_bound_E_42 (by omega) (fun e => e = r) (fun e he => he) pm_fu _ _ _ H rfl
     · rw [if_neg h3] at H
       have J := Option.some.inj H
       subst J
       refine pm_Wg.path (k := 17) (ds := [0, 0]) (f' := (37, [some (.ref 0), none, none], [.int (-1)], cl_h (ct_x v1 (.ref 320) v3 s0) g1 g2 g3 (ct_p4 s4) (ct_e5 (.ref 256) (.ref 384) s5) g6 g7 g8 g9 q)) tk_X8_bound (by omega) rfl ⟨h3, pm_inb_vp b2, h1, trivial⟩ ?_
       exact pm_Wg.iret (pm_dec tk_X8_bound rfl) rfl rfl
