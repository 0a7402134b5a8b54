/-! The engine's methods, by program (wip/whole/decc.py). -/
def f_X1_follow (s5 : cs_S) : Option (cs_S) :=
  some (cs_i s5 0 2 0)
def tb_X1_follow : List pm_I := [(0, .aload_n 0, 0, 0), (1, .aload_n 1, 0, 0), (2, .putfield 53, 99, 0), (5, .aload_n 0, 0, 0), (6, .iconst 0, 2, 0), (7, .putfield 9, 101, 0), (10, .return_, 0, 0)]
theorem tk_X1_follow : ∀ e ∈ tb_X1_follow, pm_ck 8 e = true := List.all_eq_true.mp (by decide +kernel)
set_option maxRecDepth 20000 in
set_option maxHeartbeats 20000000 in
theorem e_X1_follow {d : Nat} (hd : 1 ≤ d) {g0 g1 g2 g3 g4 g6 g7 g8 g9 : List pm_E} {q : Nat × Nat × Nat} {s5 : cs_S} {z5 : cs_S} (H : f_X1_follow s5 = some z5) : pm_Mt 8 d [.ref 320, .ref 512] (cl_h g0 g1 g2 g3 g4 (ct_e5 (.ref 256) (.ref 384) s5) g6 g7 g8 g9 q) (.inl (none)) (cl_h g0 g1 g2 g3 g4 (ct_e5 (.ref 256) (.ref 512) z5) g6 g7 g8 g9 q) := by
  refine pm_Mt.of (by decide) (by decide +kernel) rfl rfl ?_
  unfold f_X1_follow at H
  have J := Option.some.inj H
  subst J
  refine pm_Wg.path (k := 6) (ds := []) (f' := (10, [some (.ref 320), some (.ref 512)], [], cl_h g0 g1 g2 g3 g4 (ct_e5 (.ref 256) (.ref 512) (cs_i s5 0 2 0)) g6 g7 g8 g9 q)) tk_X1_follow (by omega) rfl trivial ?_
  exact pm_Wg.vret (pm_dec tk_X1_follow rfl) rfl

def fc_X1_beginAnew_c2 (s5 : cs_S) (s6 : cs_S) (k0 : Int32) : Option (cs_S × cs_S) :=
  (match f_X3_clear (cs_i s5 0 4 k0) with
  | none => none
  | some s5_1 =>
   (match f_X0_clear s5_1 with
   | none => none
   | some s5_3 =>
    (match f_X5_clear s5_3 with
    | none => none
    | some s5_5 =>
     (match f_X4_clear s5_5 with
     | none => none
     | some s5_7 =>
      some (s5_7, s6)))))
def fc_X1_beginAnew_c1 (s5 : cs_S) (s6 : cs_S) (k0 : Int32) : Option (cs_S × cs_S) :=
  (fc_X1_beginAnew_c2 (cs_i s5 0 3 k0) s6 0)
def f_X1_beginAnew (s5 : cs_S) (s6 : cs_S) : Option (cs_S × cs_S) :=
  (fc_X1_beginAnew_c1 (cs_i s5 0 2 0) (cs_i s6 0 0 0) 0)
def tb_X1_beginAnew : List pm_I := [(0, .aload_n 0, 0, 0), (1, .aload_n 1, 0, 0), (2, .putfield 49, 97, 0), (5, .aload_n 0, 0, 0), (6, .getfield 53, 99, 0), (9, .iconst 0, 2, 0), (10, .putfield 57, 147, 0), (13, .aload_n 0, 0, 0), (14, .iconst 0, 2, 0), (15, .putfield 9, 101, 0), (18, .aload_n 0, 0, 0), (19, .iconst 0, 2, 0), (20, .putfield 15, 103, 0), (23, .aload_n 0, 0, 0), (24, .iconst 0, 2, 0), (25, .putfield 18, 105, 0), (28, .aload_n 0, 0, 0), (29, .getfield 24, 107, 0), (32, .invokevirtual 62, 128, 0), (35, .aload_n 0, 0, 0), (36, .getfield 31, 109, 0), (39, .invokevirtual 65, 131, 0), (42, .aload_n 0, 0, 0), (43, .getfield 38, 111, 0), (46, .invokevirtual 66, 133, 0), (49, .aload_n 0, 0, 0), (50, .getfield 45, 113, 0), (53, .invokevirtual 67, 135, 0), (56, .return_, 0, 0)]
theorem tk_X1_beginAnew : ∀ e ∈ tb_X1_beginAnew, pm_ck 6 e = true := List.all_eq_true.mp (by decide +kernel)
set_option maxRecDepth 20000 in
set_option maxHeartbeats 20000000 in
theorem ec_X1_beginAnew_c2 {d : Nat} (hd : 3 ≤ d) {g0 g1 g2 g3 g4 g7 g8 g9 : List pm_E} {q : Nat × Nat × Nat} {s5 : cs_S} {s6 : cs_S} {k0 : Int32} {z5 : cs_S} {z6 : cs_S} (H : fc_X1_beginAnew_c2 s5 s6 k0 = some (z5, z6)) : pm_Wg 6 d (.inl (none)) (cl_h g0 g1 g2 g3 g4 (ct_e5 (.ref 192) (.ref 384) z5) (ct_t6 z6) g7 g8 g9 q) (25, [some (.ref 320), some (.ref 192)], [.int k0, .ref 320], cl_h g0 g1 g2 g3 g4 (ct_e5 (.ref 192) (.ref 384) s5) (ct_t6 s6) g7 g8 g9 q) := by
  obtain ⟨d, rfl⟩ : ∃ d', d = d' + 1 := ⟨d - 1, by omega⟩
  unfold fc_X1_beginAnew_c2 at H
  try dsimp only at H
  cases q2 : f_X3_clear (cs_i s5 0 4 k0) with
  | none => rw [q2] at H; cases H
  | some s5_1 =>
   rw [q2] at H
   dsimp only at H
   refine pm_Wg.path (k := 3) (ds := []) (f' := (32, [some (.ref 320), some (.ref 192)], [.ref 321], cl_h g0 g1 g2 g3 g4 (ct_e5 (.ref 192) (.ref 384) (cs_i s5 0 4 k0)) (ct_t6 s6) g7 g8 g9 q)) tk_X1_beginAnew (by omega) rfl trivial ?_
   refine pm_Wg.callV (m' := 48) (ix := 62) (rr := 128) (pl := 1075) (b := 321) (As := []) (S := []) (by decide) rfl (pm_dec tk_X1_beginAnew rfl) rfl rfl (by decide) rfl rfl (by decide) (Nat.le_of_ble_eq_true rfl) rfl (e_X3_clear (by omega) q2) ?_
   cases q4 : f_X0_clear s5_1 with
   | none => rw [q4] at H; cases H
   | some s5_3 =>
    rw [q4] at H
    dsimp only at H
    refine pm_Wg.path (k := 2) (ds := []) (f' := (39, [some (.ref 320), some (.ref 192)], [.ref 333], cl_h g0 g1 g2 g3 g4 (ct_e5 (.ref 192) (.ref 384) s5_1) (ct_t6 s6) g7 g8 g9 q)) tk_X1_beginAnew (by omega) rfl trivial ?_
    refine pm_Wg.callV (m' := 1) (ix := 65) (rr := 131) (pl := 1085) (b := 333) (As := []) (S := []) (by decide) rfl (pm_dec tk_X1_beginAnew rfl) rfl rfl (by decide) rfl rfl (by decide) (Nat.le_of_ble_eq_true rfl) rfl (e_X0_clear (by omega) q4) ?_
    cases q6 : f_X5_clear s5_3 with
    | none => rw [q6] at H; cases H
    | some s5_5 =>
     rw [q6] at H
     dsimp only at H
     refine pm_Wg.path (k := 2) (ds := []) (f' := (46, [some (.ref 320), some (.ref 192)], [.ref 339], cl_h g0 g1 g2 g3 g4 (ct_e5 (.ref 192) (.ref 384) s5_3) (ct_t6 s6) g7 g8 g9 q)) tk_X1_beginAnew (by omega) rfl trivial ?_
     refine pm_Wg.callV (m' := 73) (ix := 66) (rr := 133) (pl := 1090) (b := 339) (As := []) (S := []) (by decide) rfl (pm_dec tk_X1_beginAnew rfl) rfl rfl (by decide) rfl rfl (by decide) (Nat.le_of_ble_eq_true rfl) rfl (e_X5_clear (by omega) q6) ?_
     cases q8 : f_X4_clear s5_5 with
     | none => rw [q8] at H; cases H
     | some s5_7 =>
      rw [q8] at H
      dsimp only at H
      refine pm_Wg.path (k := 2) (ds := []) (f' := (53, [some (.ref 320), some (.ref 192)], [.ref 351], cl_h g0 g1 g2 g3 g4 (ct_e5 (.ref 192) (.ref 384) s5_5) (ct_t6 s6) g7 g8 g9 q)) tk_X1_beginAnew (by omega) rfl trivial ?_
      refine pm_Wg.callV (m' := 62) (ix := 67) (rr := 135) (pl := 1095) (b := 351) (As := []) (S := []) (by decide) rfl (pm_dec tk_X1_beginAnew rfl) rfl rfl (by decide) rfl rfl (by decide) (Nat.le_of_ble_eq_true rfl) rfl (e_X4_clear (by omega) q8) ?_
      have J := Option.some.inj H
      injection J with J0a J0z
      subst J0a
      subst J0z
      exact pm_Wg.vret (pm_dec tk_X1_beginAnew rfl) rfl
set_option maxRecDepth 20000 in
set_option maxHeartbeats 20000000 in
theorem ec_X1_beginAnew_c1 {d : Nat} (hd : 3 ≤ d) {g0 g1 g2 g3 g4 g7 g8 g9 : List pm_E} {q : Nat × Nat × Nat} {s5 : cs_S} {s6 : cs_S} {k0 : Int32} {z5 : cs_S} {z6 : cs_S} (H : fc_X1_beginAnew_c1 s5 s6 k0 = some (z5, z6)) : pm_Wg 6 d (.inl (none)) (cl_h g0 g1 g2 g3 g4 (ct_e5 (.ref 192) (.ref 384) z5) (ct_t6 z6) g7 g8 g9 q) (20, [some (.ref 320), some (.ref 192)], [.int k0, .ref 320], cl_h g0 g1 g2 g3 g4 (ct_e5 (.ref 192) (.ref 384) s5) (ct_t6 s6) g7 g8 g9 q) := by
  obtain ⟨d, rfl⟩ : ∃ d', d = d' + 1 := ⟨d - 1, by omega⟩
  unfold fc_X1_beginAnew_c1 at H
  try dsimp only at H
  refine pm_Wg.path (k := 3) (ds := []) (f' := (25, [some (.ref 320), some (.ref 192)], [.int 0, .ref 320], cl_h g0 g1 g2 g3 g4 (ct_e5 (.ref 192) (.ref 384) (cs_i s5 0 3 k0)) (ct_t6 s6) g7 g8 g9 q)) tk_X1_beginAnew (by omega) rfl trivial ?_
  exact ec_X1_beginAnew_c2 (by omega) H
set_option maxRecDepth 20000 in
set_option maxHeartbeats 20000000 in
theorem e_X1_beginAnew {d : Nat} (hd : 3 ≤ d) {g0 g1 g2 g3 g4 g7 g8 g9 : List pm_E} {p5 : Value} {q : Nat × Nat × Nat} {s5 : cs_S} {s6 : cs_S} {z5 : cs_S} {z6 : cs_S} (H : f_X1_beginAnew s5 s6 = some (z5, z6)) : pm_Mt 6 d [.ref 320, .ref 192] (cl_h g0 g1 g2 g3 g4 (ct_e5 p5 (.ref 384) s5) (ct_t6 s6) g7 g8 g9 q) (.inl (none)) (cl_h g0 g1 g2 g3 g4 (ct_e5 (.ref 192) (.ref 384) z5) (ct_t6 z6) g7 g8 g9 q) := by
  refine pm_Mt.of (by decide) (by decide +kernel) rfl rfl ?_
  obtain ⟨d, rfl⟩ : ∃ d', d = d' + 1 := ⟨d - 1, by omega⟩
  unfold f_X1_beginAnew at H
  refine pm_Wg.path (k := 12) (ds := []) (f' := (20, [some (.ref 320), some (.ref 192)], [.int 0, .ref 320], cl_h g0 g1 g2 g3 g4 (ct_e5 (.ref 192) (.ref 384) (cs_i s5 0 2 0)) (ct_t6 (cs_i s6 0 0 0)) g7 g8 g9 q)) tk_X1_beginAnew (by omega) rfl trivial ?_
  exact ec_X1_beginAnew_c1 (by omega) H

def fc_X1_copyFrom_c2 (s5 : cs_S) (s7 : cs_S) (k0 : Int32) : Option (cs_S) :=
  (match f_X3_copyFrom s5 (cs_i s7 0 4 k0) (s5.1 19 0) with
  | none => none
  | some s7_1 =>
   (match f_X0_copyFrom s5 s7_1 with
   | none => none
   | some s7_3 =>
    (match f_X5_copyFrom s5 s7_3 with
    | none => none
    | some s7_5 =>
     (match f_X4_copyFrom s5 s7_5 with
     | none => none
     | some s7_7 =>
      some s7_7))))
def fc_X1_copyFrom_c1 (s5 : cs_S) (s7 : cs_S) (k0 : Int32) : Option (cs_S) :=
  (fc_X1_copyFrom_c2 s5 (cs_i s7 0 3 k0) (s5.1 0 4))
def f_X1_copyFrom (s5 : cs_S) (s7 : cs_S) : Option (cs_S) :=
  (fc_X1_copyFrom_c1 s5 (cs_i s7 0 2 (s5.1 0 2)) (s5.1 0 3))
def tb_X1_copyFrom : List pm_I := [(0, .aload_n 0, 0, 0), (1, .aload_n 1, 0, 0), (2, .getfield 49, 97, 0), (5, .putfield 49, 97, 0), (8, .aload_n 0, 0, 0), (9, .aload_n 1, 0, 0), (10, .getfield 53, 99, 0), (13, .putfield 53, 99, 0), (16, .aload_n 0, 0, 0), (17, .aload_n 1, 0, 0), (18, .getfield 9, 101, 0), (21, .putfield 9, 101, 0), (24, .aload_n 0, 0, 0), (25, .aload_n 1, 0, 0), (26, .getfield 15, 103, 0), (29, .putfield 15, 103, 0), (32, .aload_n 0, 0, 0), (33, .aload_n 1, 0, 0), (34, .getfield 18, 105, 0), (37, .putfield 18, 105, 0), (40, .aload_n 0, 0, 0), (41, .getfield 24, 107, 0), (44, .aload_n 1, 0, 0), (45, .getfield 24, 107, 0), (48, .aload_n 1, 0, 0), (49, .getfield 38, 111, 0), (52, .getfield 68, 46, 0), (55, .invokevirtual 69, 19, 0), (58, .aload_n 0, 0, 0), (59, .getfield 31, 109, 0), (62, .aload_n 1, 0, 0), (63, .getfield 31, 109, 0), (66, .invokevirtual 73, 22, 0), (69, .aload_n 0, 0, 0), (70, .getfield 38, 111, 0), (73, .aload_n 1, 0, 0), (74, .getfield 38, 111, 0), (77, .invokevirtual 76, 23, 0), (80, .aload_n 0, 0, 0), (81, .getfield 45, 113, 0), (84, .aload_n 1, 0, 0), (85, .getfield 45, 113, 0), (88, .invokevirtual 79, 24, 0), (91, .return_, 0, 0)]
theorem tk_X1_copyFrom : ∀ e ∈ tb_X1_copyFrom, pm_ck 7 e = true := List.all_eq_true.mp (by decide +kernel)
set_option maxRecDepth 20000 in
set_option maxHeartbeats 20000000 in
theorem ec_X1_copyFrom_c2 {d : Nat} (hd : 3 ≤ d) {g0 g1 g2 g3 g4 g6 g8 g9 : List pm_E} {q : Nat × Nat × Nat} {s5 : cs_S} {s7 : cs_S} {k0 : Int32} {z7 : cs_S} (H : fc_X1_copyFrom_c2 s5 s7 k0 = some z7) : pm_Wg 7 d (.inl (none)) (cl_h g0 g1 g2 g3 g4 (ct_e5 (.ref 256) (.ref 384) s5) g6 (ct_e7 (.ref 256) (.ref 384) z7) g8 g9 q) (37, [some (.ref 448), some (.ref 320)], [.int k0, .ref 448], cl_h g0 g1 g2 g3 g4 (ct_e5 (.ref 256) (.ref 384) s5) g6 (ct_e7 (.ref 256) (.ref 384) s7) g8 g9 q) := by
  obtain ⟨d, rfl⟩ : ∃ d', d = d' + 1 := ⟨d - 1, by omega⟩
  unfold fc_X1_copyFrom_c2 at H
  try dsimp only at H
  cases q2 : f_X3_copyFrom s5 (cs_i s7 0 4 k0) (s5.1 19 0) with
  | none => rw [q2] at H; cases H
  | some s7_1 =>
   rw [q2] at H
   dsimp only at H
   refine pm_Wg.path (k := 8) (ds := []) (f' := (55, [some (.ref 448), some (.ref 320)], [.int (s5.1 19 0), .ref 321, .ref 449], cl_h g0 g1 g2 g3 g4 (ct_e5 (.ref 256) (.ref 384) s5) g6 (ct_e7 (.ref 256) (.ref 384) (cs_i s7 0 4 k0)) g8 g9 q)) tk_X1_copyFrom (by omega) rfl trivial ?_
   refine pm_Wg.callV (m' := 49) (ix := 69) (rr := 19) (pl := 498) (b := 449) (As := [.ref 321, .int (s5.1 19 0)]) (S := []) (by decide) rfl (pm_dec tk_X1_copyFrom rfl) rfl rfl (by decide) rfl rfl (by decide) (Nat.le_of_ble_eq_true rfl) rfl (e_X3_copyFrom (by omega) q2) ?_
   cases q4 : f_X0_copyFrom s5 s7_1 with
   | none => rw [q4] at H; cases H
   | some s7_3 =>
    rw [q4] at H
    dsimp only at H
    refine pm_Wg.path (k := 4) (ds := []) (f' := (66, [some (.ref 448), some (.ref 320)], [.ref 333, .ref 461], cl_h g0 g1 g2 g3 g4 (ct_e5 (.ref 256) (.ref 384) s5) g6 (ct_e7 (.ref 256) (.ref 384) s7_1) g8 g9 q)) tk_X1_copyFrom (by omega) rfl trivial ?_
    refine pm_Wg.callV (m' := 2) (ix := 73) (rr := 22) (pl := 511) (b := 461) (As := [.ref 333]) (S := []) (by decide) rfl (pm_dec tk_X1_copyFrom rfl) rfl rfl (by decide) rfl rfl (by decide) (Nat.le_of_ble_eq_true rfl) rfl (e_X0_copyFrom (by omega) q4) ?_
    cases q6 : f_X5_copyFrom s5 s7_3 with
    | none => rw [q6] at H; cases H
    | some s7_5 =>
     rw [q6] at H
     dsimp only at H
     refine pm_Wg.path (k := 4) (ds := []) (f' := (77, [some (.ref 448), some (.ref 320)], [.ref 339, .ref 467], cl_h g0 g1 g2 g3 g4 (ct_e5 (.ref 256) (.ref 384) s5) g6 (ct_e7 (.ref 256) (.ref 384) s7_3) g8 g9 q)) tk_X1_copyFrom (by omega) rfl trivial ?_
     refine pm_Wg.callV (m' := 74) (ix := 76) (rr := 23) (pl := 516) (b := 467) (As := [.ref 339]) (S := []) (by decide) rfl (pm_dec tk_X1_copyFrom rfl) rfl rfl (by decide) rfl rfl (by decide) (Nat.le_of_ble_eq_true rfl) rfl (e_X5_copyFrom (by omega) q6) ?_
     cases q8 : f_X4_copyFrom s5 s7_5 with
     | none => rw [q8] at H; cases H
     | some s7_7 =>
      rw [q8] at H
      dsimp only at H
      refine pm_Wg.path (k := 4) (ds := []) (f' := (88, [some (.ref 448), some (.ref 320)], [.ref 351, .ref 479], cl_h g0 g1 g2 g3 g4 (ct_e5 (.ref 256) (.ref 384) s5) g6 (ct_e7 (.ref 256) (.ref 384) s7_5) g8 g9 q)) tk_X1_copyFrom (by omega) rfl trivial ?_
      refine pm_Wg.callV (m' := 63) (ix := 79) (rr := 24) (pl := 521) (b := 479) (As := [.ref 351]) (S := []) (by decide) rfl (pm_dec tk_X1_copyFrom rfl) rfl rfl (by decide) rfl rfl (by decide) (Nat.le_of_ble_eq_true rfl) rfl (e_X4_copyFrom (by omega) q8) ?_
      have J := Option.some.inj H
      subst J
      exact pm_Wg.vret (pm_dec tk_X1_copyFrom rfl) rfl
set_option maxRecDepth 20000 in
set_option maxHeartbeats 20000000 in
theorem ec_X1_copyFrom_c1 {d : Nat} (hd : 3 ≤ d) {g0 g1 g2 g3 g4 g6 g8 g9 : List pm_E} {q : Nat × Nat × Nat} {s5 : cs_S} {s7 : cs_S} {k0 : Int32} {z7 : cs_S} (H : fc_X1_copyFrom_c1 s5 s7 k0 = some z7) : pm_Wg 7 d (.inl (none)) (cl_h g0 g1 g2 g3 g4 (ct_e5 (.ref 256) (.ref 384) s5) g6 (ct_e7 (.ref 256) (.ref 384) z7) g8 g9 q) (29, [some (.ref 448), some (.ref 320)], [.int k0, .ref 448], cl_h g0 g1 g2 g3 g4 (ct_e5 (.ref 256) (.ref 384) s5) g6 (ct_e7 (.ref 256) (.ref 384) s7) g8 g9 q) := by
  obtain ⟨d, rfl⟩ : ∃ d', d = d' + 1 := ⟨d - 1, by omega⟩
  unfold fc_X1_copyFrom_c1 at H
  try dsimp only at H
  refine pm_Wg.path (k := 4) (ds := []) (f' := (37, [some (.ref 448), some (.ref 320)], [.int (s5.1 0 4), .ref 448], cl_h g0 g1 g2 g3 g4 (ct_e5 (.ref 256) (.ref 384) s5) g6 (ct_e7 (.ref 256) (.ref 384) (cs_i s7 0 3 k0)) g8 g9 q)) tk_X1_copyFrom (by omega) rfl trivial ?_
  exact ec_X1_copyFrom_c2 (by omega) H
set_option maxRecDepth 20000 in
set_option maxHeartbeats 20000000 in
theorem e_X1_copyFrom {d : Nat} (hd : 3 ≤ d) {g0 g1 g2 g3 g4 g6 g8 g9 : List pm_E} {p7 t7 : Value} {q : Nat × Nat × Nat} {s5 : cs_S} {s7 : cs_S} {z7 : cs_S} (H : f_X1_copyFrom s5 s7 = some z7) : pm_Mt 7 d [.ref 448, .ref 320] (cl_h g0 g1 g2 g3 g4 (ct_e5 (.ref 256) (.ref 384) s5) g6 (ct_e7 p7 t7 s7) g8 g9 q) (.inl (none)) (cl_h g0 g1 g2 g3 g4 (ct_e5 (.ref 256) (.ref 384) s5) g6 (ct_e7 (.ref 256) (.ref 384) z7) g8 g9 q) := by
  refine pm_Mt.of (by decide) (by decide +kernel) rfl rfl ?_
  obtain ⟨d, rfl⟩ : ∃ d', d = d' + 1 := ⟨d - 1, by omega⟩
  unfold f_X1_copyFrom at H
  refine pm_Wg.path (k := 15) (ds := []) (f' := (29, [some (.ref 448), some (.ref 320)], [.int (s5.1 0 3), .ref 448], cl_h g0 g1 g2 g3 g4 (ct_e5 (.ref 256) (.ref 384) s5) g6 (ct_e7 (.ref 256) (.ref 384) (cs_i s7 0 2 (s5.1 0 2))) g8 g9 q)) tk_X1_copyFrom (by omega) rfl trivial ?_
  exact ec_X1_copyFrom_c1 (by omega) H

def f_X1_queueFor (s4 : cs_S) (s5 : cs_S) (a0 : Int32) (a1 : Int32) : Option (cs_S) :=
  (match pm_inb a0 400 with
  | false => none
  | true =>
  (match f_X3_numberOf a1 ((cs_a s5 26 a0 ((s5.2.1 26 (Int32.toNatClampNeg a0)) + 1)).2.1 20 (Int32.toNatClampNeg a0)) with
  | none => none
  | some r4 =>
   (match f_X3_requestOperation a0 a1 with
   | none => none
   | some r6 =>
    (match f_X3_append s4 (cs_a s5 26 a0 ((s5.2.1 26 (Int32.toNatClampNeg a0)) + 1)) r4 r6 ((cs_a s5 26 a0 ((s5.2.1 26 (Int32.toNatClampNeg a0)) + 1)).2.1 23 (Int32.toNatClampNeg a0)) ((cs_a s5 26 a0 ((s5.2.1 26 (Int32.toNatClampNeg a0)) + 1)).1 0 4) with
    | none => none
    | some s5_9 =>
     some s5_9))))
def tb_X1_queueFor : List pm_I := [(0, .aload_n 0, 0, 0), (1, .getfield 38, 111, 0), (4, .getfield 125, 60, 0), (7, .iload_n 1, 0, 0), (8, .dup2, 0, 0), (9, .iaload, 0, 0), (10, .iconst 1, 3, 0), (11, .iadd, 0, 0), (12, .iastore, 0, 0), (13, .iload_n 2, 0, 0), (14, .aload_n 0, 0, 0), (15, .getfield 38, 111, 0), (18, .getfield 131, 49, 0), (21, .iload_n 1, 0, 0), (22, .iaload, 0, 0), (23, .invokestatic 134, 48, 0), (26, .istore_n 3, 0, 0), (27, .iload_n 1, 0, 0), (28, .iload_n 2, 0, 0), (29, .invokestatic 138, 74, 0), (32, .istore 4, 0, 0), (34, .aload_n 0, 0, 0), (35, .getfield 24, 107, 0), (38, .iload_n 3, 0, 0), (39, .iload 4, 0, 0), (41, .aload_n 0, 0, 0), (42, .getfield 38, 111, 0), (45, .getfield 141, 55, 0), (48, .iload_n 1, 0, 0), (49, .iaload, 0, 0), (50, .aload_n 0, 0, 0), (51, .getfield 49, 97, 0), (54, .aload_n 0, 0, 0), (55, .getfield 18, 105, 0), (58, .invokevirtual 144, 57, 0), (61, .return_, 0, 0)]
theorem tk_X1_queueFor : ∀ e ∈ tb_X1_queueFor, pm_ck 12 e = true := List.all_eq_true.mp (by decide +kernel)
set_option maxRecDepth 20000 in
set_option maxHeartbeats 20000000 in
theorem e_X1_queueFor {d : Nat} (hd : 2 ≤ d) {g0 g1 g2 g3 g6 g7 g8 g9 : List pm_E} {q : Nat × Nat × Nat} {s4 : cs_S} {s5 : cs_S} {a0 : Int32} {a1 : Int32} {z5 : cs_S} (H : f_X1_queueFor s4 s5 a0 a1 = some z5) : pm_Mt 12 d [.ref 320, .int a0, .int a1] (cl_h g0 g1 g2 g3 (ct_p4 s4) (ct_e5 (.ref 256) (.ref 384) s5) g6 g7 g8 g9 q) (.inl (none)) (cl_h g0 g1 g2 g3 (ct_p4 s4) (ct_e5 (.ref 256) (.ref 384) z5) g6 g7 g8 g9 q) := by
  refine pm_Mt.of (by decide) (by decide +kernel) rfl rfl ?_
  obtain ⟨d, rfl⟩ : ∃ d', d = d' + 1 := ⟨d - 1, by omega⟩
  unfold f_X1_queueFor at H
  cases b1 : pm_inb a0 400 with
  | false => rw [b1] at H; cases H
  | true =>
   rw [b1] at H
   dsimp only at H
   cases q5 : f_X3_numberOf a1 ((cs_a s5 26 a0 ((s5.2.1 26 (Int32.toNatClampNeg a0)) + 1)).2.1 20 (Int32.toNatClampNeg a0)) with
   | none => rw [q5] at H; cases H
   | some r4 =>
    rw [q5] at H
    dsimp only at H
    refine pm_Wg.path (k := 15) (ds := []) (f' := (23, [some (.ref 320), some (.int a0), some (.int a1), none, none], [.int ((cs_a s5 26 a0 ((s5.2.1 26 (Int32.toNatClampNeg a0)) + 1)).2.1 20 (Int32.toNatClampNeg a0)), .int a1], cl_h g0 g1 g2 g3 (ct_p4 s4) (ct_e5 (.ref 256) (.ref 384) (cs_a s5 26 a0 ((s5.2.1 26 (Int32.toNatClampNeg a0)) + 1))) g6 g7 g8 g9 q)) tk_X1_queueFor (by omega) rfl ⟨pm_inb_vp b1, pm_inb_vp b1, pm_inb_vp b1, trivial⟩ ?_
    refine pm_Wg.callS (m' := 42) (ix := 134) (rr := 48) (pl := 606) (As := [.int a1, .int ((cs_a s5 26 a0 ((s5.2.1 26 (Int32.toNatClampNeg a0)) + 1)).2.1 20 (Int32.toNatClampNeg a0))]) (S := []) (by decide) rfl (pm_dec tk_X1_queueFor rfl) rfl rfl rfl (Nat.le_of_ble_eq_true rfl) rfl (e_X3_numberOf (by omega) q5) ?_
    cases q7 : f_X3_requestOperation a0 a1 with
    | none => rw [q7] at H; cases H
    | some r6 =>
     rw [q7] at H
     dsimp only at H
     refine pm_Wg.path (k := 3) (ds := []) (f' := (29, [some (.ref 320), some (.int a0), some (.int a1), some (.int r4), none], [.int a1, .int a0], cl_h g0 g1 g2 g3 (ct_p4 s4) (ct_e5 (.ref 256) (.ref 384) (cs_a s5 26 a0 ((s5.2.1 26 (Int32.toNatClampNeg a0)) + 1))) g6 g7 g8 g9 q)) tk_X1_queueFor (by omega) rfl trivial ?_
     refine pm_Wg.callS (m' := 44) (ix := 138) (rr := 74) (pl := 699) (As := [.int a0, .int a1]) (S := []) (by decide) rfl (pm_dec tk_X1_queueFor rfl) rfl rfl rfl (Nat.le_of_ble_eq_true rfl) rfl (e_X3_requestOperation (by omega) q7) ?_
     cases q10 : f_X3_append s4 (cs_a s5 26 a0 ((s5.2.1 26 (Int32.toNatClampNeg a0)) + 1)) r4 r6 ((cs_a s5 26 a0 ((s5.2.1 26 (Int32.toNatClampNeg a0)) + 1)).2.1 23 (Int32.toNatClampNeg a0)) ((cs_a s5 26 a0 ((s5.2.1 26 (Int32.toNatClampNeg a0)) + 1)).1 0 4) with
     | none => rw [q10] at H; cases H
     | some s5_9 =>
      rw [q10] at H
      dsimp only at H
      refine pm_Wg.path (k := 14) (ds := []) (f' := (58, [some (.ref 320), some (.int a0), some (.int a1), some (.int r4), some (.int r6)], [.int ((cs_a s5 26 a0 ((s5.2.1 26 (Int32.toNatClampNeg a0)) + 1)).1 0 4), .ref 256, .int ((cs_a s5 26 a0 ((s5.2.1 26 (Int32.toNatClampNeg a0)) + 1)).2.1 23 (Int32.toNatClampNeg a0)), .int r6, .int r4, .ref 321], cl_h g0 g1 g2 g3 (ct_p4 s4) (ct_e5 (.ref 256) (.ref 384) (cs_a s5 26 a0 ((s5.2.1 26 (Int32.toNatClampNeg a0)) + 1))) g6 g7 g8 g9 q)) tk_X1_queueFor (by omega) rfl ⟨pm_inb_vp b1, trivial⟩ ?_
      refine pm_Wg.callV (m' := 51) (ix := 144) (rr := 57) (pl := 640) (b := 321) (As := [.int r4, .int r6, .int ((cs_a s5 26 a0 ((s5.2.1 26 (Int32.toNatClampNeg a0)) + 1)).2.1 23 (Int32.toNatClampNeg a0)), .ref 256, .int ((cs_a s5 26 a0 ((s5.2.1 26 (Int32.toNatClampNeg a0)) + 1)).1 0 4)]) (S := []) (by decide) rfl (pm_dec tk_X1_queueFor rfl) rfl rfl (by decide) rfl rfl (by decide) (Nat.le_of_ble_eq_true rfl) rfl (e_X3_append (by omega) q10) ?_
      have J := Option.some.inj H
      subst J
      exact pm_Wg.vret (pm_dec tk_X1_queueFor rfl) rfl

def f_X1_queueForRebuild (s4 : cs_S) (s5 : cs_S) (a0 : Int32) (a1 : Int32) : Option (cs_S) :=
  (match f_X3_rebuildOperation a0 a1 with
  | none => none
  | some r1 =>
   (match f_X4_deadlineOf s5 a0 (s4.1 0 1) with
   | none => none
   | some r3 =>
    (match f_X3_numberOf a1 0 with
    | none => none
    | some r5 =>
     (match f_X3_append s4 s5 r5 r1 r3 (s5.1 0 4) with
     | none => none
     | some s5_7 =>
      some s5_7))))
def tb_X1_queueForRebuild : List pm_I := [(0, .iload_n 1, 0, 0), (1, .iload_n 2, 0, 0), (2, .invokestatic 148, 49, 0), (5, .istore_n 3, 0, 0), (6, .aload_n 0, 0, 0), (7, .getfield 45, 113, 0), (10, .iload_n 1, 0, 0), (11, .aload_n 0, 0, 0), (12, .getfield 49, 97, 0), (15, .getfield 151, 120, 0), (18, .invokevirtual 154, 56, 0), (21, .istore 4, 0, 0), (23, .aload_n 0, 0, 0), (24, .getfield 24, 107, 0), (27, .iload_n 2, 0, 0), (28, .iconst 0, 2, 0), (29, .invokestatic 134, 48, 0), (32, .iload_n 3, 0, 0), (33, .iload 4, 0, 0), (35, .aload_n 0, 0, 0), (36, .getfield 49, 97, 0), (39, .aload_n 0, 0, 0), (40, .getfield 18, 105, 0), (43, .invokevirtual 144, 57, 0), (46, .return_, 0, 0)]
theorem tk_X1_queueForRebuild : ∀ e ∈ tb_X1_queueForRebuild, pm_ck 13 e = true := List.all_eq_true.mp (by decide +kernel)
set_option maxRecDepth 20000 in
set_option maxHeartbeats 20000000 in
theorem e_X1_queueForRebuild {d : Nat} (hd : 2 ≤ d) {g0 g1 g2 g3 g6 g7 g8 g9 : List pm_E} {q : Nat × Nat × Nat} {s4 : cs_S} {s5 : cs_S} {a0 : Int32} {a1 : Int32} {z5 : cs_S} (H : f_X1_queueForRebuild s4 s5 a0 a1 = some z5) : pm_Mt 13 d [.ref 320, .int a0, .int a1] (cl_h g0 g1 g2 g3 (ct_p4 s4) (ct_e5 (.ref 256) (.ref 384) s5) g6 g7 g8 g9 q) (.inl (none)) (cl_h g0 g1 g2 g3 (ct_p4 s4) (ct_e5 (.ref 256) (.ref 384) z5) g6 g7 g8 g9 q) := by
  refine pm_Mt.of (by decide) (by decide +kernel) rfl rfl ?_
  obtain ⟨d, rfl⟩ : ∃ d', d = d' + 1 := ⟨d - 1, by omega⟩
  unfold f_X1_queueForRebuild at H
  cases q2 : f_X3_rebuildOperation a0 a1 with
  | none => rw [q2] at H; cases H
  | some r1 =>
   rw [q2] at H
   dsimp only at H
   refine pm_Wg.path (k := 2) (ds := []) (f' := (2, [some (.ref 320), some (.int a0), some (.int a1), none, none], [.int a1, .int a0], cl_h g0 g1 g2 g3 (ct_p4 s4) (ct_e5 (.ref 256) (.ref 384) s5) g6 g7 g8 g9 q)) tk_X1_queueForRebuild (by omega) rfl trivial ?_
   refine pm_Wg.callS (m' := 43) (ix := 148) (rr := 49) (pl := 607) (As := [.int a0, .int a1]) (S := []) (by decide) rfl (pm_dec tk_X1_queueForRebuild rfl) rfl rfl rfl (Nat.le_of_ble_eq_true rfl) rfl (e_X3_rebuildOperation (by omega) q2) ?_
   cases q4 : f_X4_deadlineOf s5 a0 (s4.1 0 1) with
   | none => rw [q4] at H; cases H
   | some r3 =>
    rw [q4] at H
    dsimp only at H
    refine pm_Wg.path (k := 7) (ds := []) (f' := (18, [some (.ref 320), some (.int a0), some (.int a1), some (.int r1), none], [.int (s4.1 0 1), .int a0, .ref 351], cl_h g0 g1 g2 g3 (ct_p4 s4) (ct_e5 (.ref 256) (.ref 384) s5) g6 g7 g8 g9 q)) tk_X1_queueForRebuild (by omega) rfl trivial ?_
    refine pm_Wg.callV (m' := 70) (ix := 154) (rr := 56) (pl := 636) (b := 351) (As := [.int a0, .int (s4.1 0 1)]) (S := []) (by decide) rfl (pm_dec tk_X1_queueForRebuild rfl) rfl rfl (by decide) rfl rfl (by decide) (Nat.le_of_ble_eq_true rfl) rfl (e_X4_deadlineOf (by omega) q4) ?_
    cases q6 : f_X3_numberOf a1 0 with
    | none => rw [q6] at H; cases H
    | some r5 =>
     rw [q6] at H
     dsimp only at H
     refine pm_Wg.path (k := 5) (ds := []) (f' := (29, [some (.ref 320), some (.int a0), some (.int a1), some (.int r1), some (.int r3)], [.int 0, .int a1, .ref 321], cl_h g0 g1 g2 g3 (ct_p4 s4) (ct_e5 (.ref 256) (.ref 384) s5) g6 g7 g8 g9 q)) tk_X1_queueForRebuild (by omega) rfl trivial ?_
     refine pm_Wg.callS (m' := 42) (ix := 134) (rr := 48) (pl := 606) (As := [.int a1, .int 0]) (S := [.ref 321]) (by decide) rfl (pm_dec tk_X1_queueForRebuild rfl) rfl rfl rfl (Nat.le_of_ble_eq_true rfl) rfl (e_X3_numberOf (by omega) q6) ?_
     cases q8 : f_X3_append s4 s5 r5 r1 r3 (s5.1 0 4) with
     | none => rw [q8] at H; cases H
     | some s5_7 =>
      rw [q8] at H
      dsimp only at H
      refine pm_Wg.path (k := 6) (ds := []) (f' := (43, [some (.ref 320), some (.int a0), some (.int a1), some (.int r1), some (.int r3)], [.int (s5.1 0 4), .ref 256, .int r3, .int r1, .int r5, .ref 321], cl_h g0 g1 g2 g3 (ct_p4 s4) (ct_e5 (.ref 256) (.ref 384) s5) g6 g7 g8 g9 q)) tk_X1_queueForRebuild (by omega) rfl trivial ?_
      refine pm_Wg.callV (m' := 51) (ix := 144) (rr := 57) (pl := 640) (b := 321) (As := [.int r5, .int r1, .int r3, .ref 256, .int (s5.1 0 4)]) (S := []) (by decide) rfl (pm_dec tk_X1_queueForRebuild rfl) rfl rfl (by decide) rfl rfl (by decide) (Nat.le_of_ble_eq_true rfl) rfl (e_X3_append (by omega) q8) ?_
      have J := Option.some.inj H
      subst J
      exact pm_Wg.vret (pm_dec tk_X1_queueForRebuild rfl) rfl

def f_X1_endWrite (s4 : cs_S) (s5 : cs_S) (a0 : Int32) (a1 : Int32) : Option (cs_S) :=
  (if (s4.1 0 0) ≤ a0 then
   some s5
  else
   (match f_X4_holds s5 a0 a1 with
   | none => none
   | some r2 =>
    (if r2 = 0 then
     some s5
    else
     (match pm_inb a1 64 with
     | false => none
     | true =>
     (if (s5.2.1 32 (Int32.toNatClampNeg a1)) = 0 then
      (match f_X4_forget s5 a0 a1 with
      | none => none
      | some s5_9 =>
       some s5_9)
     else
      (if (s5.2.1 32 (Int32.toNatClampNeg a1)) = 1 then
       (match f_X4_forget s5 a0 a1 with
       | none => none
       | some s5_11 =>
        (match f_X1_queueForRebuild s4 s5_11 a1 a0 with
        | none => none
        | some s5_13 =>
         some s5_13))
      else
       some s5))))))
def tb_X1_endWrite : List pm_I := [(0, .iload_n 1, 0, 0), (1, .aload_n 0, 0, 0), (2, .getfield 49, 97, 0), (5, .getfield 112, 116, 0), (8, .if_icmp .ge 15, 23, 0), (11, .aload_n 0, 0, 0), (12, .getfield 45, 113, 0), (15, .iload_n 1, 0, 0), (16, .iload_n 2, 0, 0), (17, .invokevirtual 121, 46, 0), (20, .ifCond .ne 4, 24, 0), (23, .return_, 0, 0), (24, .aload_n 0, 0, 0), (25, .getfield 45, 113, 0), (28, .getfield 108, 74, 0), (31, .iload_n 2, 0, 0), (32, .iaload, 0, 0), (33, .ifCond .ne 15, 48, 0), (36, .aload_n 0, 0, 0), (37, .getfield 45, 113, 0), (40, .iload_n 1, 0, 0), (41, .iload_n 2, 0, 0), (42, .invokevirtual 260, 61, 0), (45, .goto 31, 76, 0), (48, .aload_n 0, 0, 0), (49, .getfield 45, 113, 0), (52, .getfield 108, 74, 0), (55, .iload_n 2, 0, 0), (56, .iaload, 0, 0), (57, .iconst 1, 3, 0), (58, .if_icmp .ne 18, 76, 0), (61, .aload_n 0, 0, 0), (62, .getfield 45, 113, 0), (65, .iload_n 1, 0, 0), (66, .iload_n 2, 0, 0), (67, .invokevirtual 260, 61, 0), (70, .aload_n 0, 0, 0), (71, .iload_n 2, 0, 0), (72, .iload_n 1, 0, 0), (73, .invokevirtual 263, 55, 0), (76, .return_, 0, 0)]
theorem tk_X1_endWrite : ∀ e ∈ tb_X1_endWrite, pm_ck 20 e = true := List.all_eq_true.mp (by decide +kernel)
set_option maxRecDepth 20000 in
set_option maxHeartbeats 20000000 in
theorem e_X1_endWrite {d : Nat} (hd : 3 ≤ d) {g0 g1 g2 g3 g6 g7 g8 g9 : List pm_E} {q : Nat × Nat × Nat} {s4 : cs_S} {s5 : cs_S} {a0 : Int32} {a1 : Int32} {z5 : cs_S} (H : f_X1_endWrite s4 s5 a0 a1 = some z5) : pm_Mt 20 d [.ref 320, .int a0, .int a1] (cl_h g0 g1 g2 g3 (ct_p4 s4) (ct_e5 (.ref 256) (.ref 384) s5) g6 g7 g8 g9 q) (.inl (none)) (cl_h g0 g1 g2 g3 (ct_p4 s4) (ct_e5 (.ref 256) (.ref 384) z5) g6 g7 g8 g9 q) := by
  refine pm_Mt.of (by decide) (by decide +kernel) rfl rfl ?_
  obtain ⟨d, rfl⟩ : ∃ d', d = d' + 1 := ⟨d - 1, by omega⟩
  unfold f_X1_endWrite at H
  by_cases h1 : (s4.1 0 0) ≤ a0
  · rw [if_pos h1] at H
    have J := Option.some.inj H
    subst J
    refine pm_Wg.path (k := 5) (ds := [1]) (f' := (23, [some (.ref 320), some (.int a0), some (.int a1)], [], cl_h g0 g1 g2 g3 (ct_p4 s4) (ct_e5 (.ref 256) (.ref 384) s5) g6 g7 g8 g9 q)) tk_X1_endWrite (by omega) rfl ⟨h1, trivial⟩ ?_
    exact pm_Wg.vret (pm_dec tk_X1_endWrite rfl) rfl
  · rw [if_neg h1] at H
    cases q3 : f_X4_holds s5 a0 a1 with
    | none => rw [q3] at H; cases H
    | some r2 =>
     rw [q3] at H
     dsimp only at H
     refine pm_Wg.path (k := 9) (ds := [0]) (f' := (17, [some (.ref 320), some (.int a0), some (.int a1)], [.int a1, .int a0, .ref 351], cl_h g0 g1 g2 g3 (ct_p4 s4) (ct_e5 (.ref 256) (.ref 384) s5) g6 g7 g8 g9 q)) tk_X1_endWrite (by omega) rfl ⟨h1, trivial⟩ ?_
     refine pm_Wg.callV (m' := 64) (ix := 121) (rr := 46) (pl := 598) (b := 351) (As := [.int a0, .int a1]) (S := []) (by decide) rfl (pm_dec tk_X1_endWrite rfl) rfl rfl (by decide) rfl rfl (by decide) (Nat.le_of_ble_eq_true rfl) rfl (e_X4_holds (by omega) q3) ?_
     by_cases h4 : r2 = 0
     · rw [if_pos h4] at H
       have J := Option.some.inj H
       subst J
       refine pm_Wg.path (k := 1) (ds := [0]) (f' := (23, [some (.ref 320), some (.int a0), some (.int a1)], [], cl_h g0 g1 g2 g3 (ct_p4 s4) (ct_e5 (.ref 256) (.ref 384) s5) g6 g7 g8 g9 q)) tk_X1_endWrite (by omega) rfl ⟨h4, trivial⟩ ?_
       exact pm_Wg.vret (pm_dec tk_X1_endWrite rfl) rfl
     · rw [if_neg h4] at H
       cases b5 : pm_inb a1 64 with
       | false => rw [b5] at H; cases H
       | true =>
        rw [b5] at H
        dsimp only at H
        by_cases h6 : (s5.2.1 32 (Int32.toNatClampNeg a1)) = 0
        · rw [if_pos h6] at H
          cases q10 : f_X4_forget s5 a0 a1 with
          | none => rw [q10] at H; cases H
          | some s5_9 =>
           rw [q10] at H
           dsimp only at H
           refine pm_Wg.path (k := 11) (ds := [1, 0]) (f' := (42, [some (.ref 320), some (.int a0), some (.int a1)], [.int a1, .int a0, .ref 351], cl_h g0 g1 g2 g3 (ct_p4 s4) (ct_e5 (.ref 256) (.ref 384) s5) g6 g7 g8 g9 q)) tk_X1_endWrite (by omega) rfl ⟨h6, pm_inb_vp b5, h4, trivial⟩ ?_
           refine pm_Wg.callV (m' := 66) (ix := 260) (rr := 61) (pl := 651) (b := 351) (As := [.int a0, .int a1]) (S := []) (by decide) rfl (pm_dec tk_X1_endWrite rfl) rfl rfl (by decide) rfl rfl (by decide) (Nat.le_of_ble_eq_true rfl) rfl (e_X4_forget (by omega) q10) ?_
           have J := Option.some.inj H
           subst J
           refine pm_Wg.path (k := 1) (ds := []) (f' := (76, [some (.ref 320), some (.int a0), some (.int a1)], [], cl_h g0 g1 g2 g3 (ct_p4 s4) (ct_e5 (.ref 256) (.ref 384) s5_9) g6 g7 g8 g9 q)) tk_X1_endWrite (by omega) rfl trivial ?_
           exact pm_Wg.vret (pm_dec tk_X1_endWrite rfl) rfl
        · rw [if_neg h6] at H
          by_cases h8 : (s5.2.1 32 (Int32.toNatClampNeg a1)) = 1
          · rw [if_pos h8] at H
            cases q12 : f_X4_forget s5 a0 a1 with
            | none => rw [q12] at H; cases H
            | some s5_11 =>
             rw [q12] at H
             dsimp only at H
             refine pm_Wg.path (k := 18) (ds := [1, 1, 0]) (f' := (67, [some (.ref 320), some (.int a0), some (.int a1)], [.int a1, .int a0, .ref 351], cl_h g0 g1 g2 g3 (ct_p4 s4) (ct_e5 (.ref 256) (.ref 384) s5) g6 g7 g8 g9 q)) tk_X1_endWrite (by omega) rfl ⟨h8, pm_inb_vp b5, h6, pm_inb_vp b5, h4, trivial⟩ ?_
             refine pm_Wg.callV (m' := 66) (ix := 260) (rr := 61) (pl := 651) (b := 351) (As := [.int a0, .int a1]) (S := []) (by decide) rfl (pm_dec tk_X1_endWrite rfl) rfl rfl (by decide) rfl rfl (by decide) (Nat.le_of_ble_eq_true rfl) rfl (e_X4_forget (by omega) q12) ?_
             cases q14 : f_X1_queueForRebuild s4 s5_11 a1 a0 with
             | none => rw [q14] at H; cases H
             | some s5_13 =>
              rw [q14] at H
              dsimp only at H
              refine pm_Wg.path (k := 3) (ds := []) (f' := (73, [some (.ref 320), some (.int a0), some (.int a1)], [.int a0, .int a1, .ref 320], cl_h g0 g1 g2 g3 (ct_p4 s4) (ct_e5 (.ref 256) (.ref 384) s5_11) g6 g7 g8 g9 q)) tk_X1_endWrite (by omega) rfl trivial ?_
              refine pm_Wg.callV (m' := 13) (ix := 263) (rr := 55) (pl := 632) (b := 320) (As := [.int a1, .int a0]) (S := []) (by decide) rfl (pm_dec tk_X1_endWrite rfl) rfl rfl (by decide) rfl rfl (by decide) (Nat.le_of_ble_eq_true rfl) rfl (e_X1_queueForRebuild (by omega) q14) ?_
              have J := Option.some.inj H
              subst J
              exact pm_Wg.vret (pm_dec tk_X1_endWrite rfl) rfl
          · rw [if_neg h8] at H
            have J := Option.some.inj H
            subst J
            refine pm_Wg.path (k := 14) (ds := [1, 1, 1]) (f' := (76, [some (.ref 320), some (.int a0), some (.int a1)], [], cl_h g0 g1 g2 g3 (ct_p4 s4) (ct_e5 (.ref 256) (.ref 384) s5) g6 g7 g8 g9 q)) tk_X1_endWrite (by omega) rfl ⟨h8, pm_inb_vp b5, h6, pm_inb_vp b5, h4, trivial⟩ ?_
            exact pm_Wg.vret (pm_dec tk_X1_endWrite rfl) rfl

def f_X1_serveFirst (s4 : cs_S) (s5 : cs_S) (a0 : Int32) (a1 : Int32) (a2 : Int32) : Option (cs_S) :=
  (match f_X3_numberOf a0 a1 with
  | none => none
  | some r1 =>
   (match f_X3_removeFirst s5 r1 with
   | none => none
   | some (r3, s5_4) =>
    (if r3 = (-1) then
     some s5_4
    else
     (match f_X5_stripeBehind s5_4 r3 with
     | none => none
     | some r7 =>
      (match f_X0_serve s4 s5_4 a0 r3 r7 (s5_4.1 0 4) with
      | none => none
      | some s5_9 =>
       (match pm_inb ((a1 * 3) + a2) 18 with
       | false => none
       | true =>
       (if a2 = 1 then
        some (cs_a s5_9 18 ((a1 * 3) + a2) ((s5_9.2.1 18 (Int32.toNatClampNeg ((a1 * 3) + a2))) + 1))
       else
        (match pm_inb a1 6 with
        | false => none
        | true =>
        (if (s4.2.1 1 (Int32.toNatClampNeg a1)) ≤ 0 then
         some (cs_a s5_9 18 ((a1 * 3) + a2) ((s5_9.2.1 18 (Int32.toNatClampNeg ((a1 * 3) + a2))) + 1))
        else
         (match f_X3_credit (cs_a s5_9 18 ((a1 * 3) + a2) ((s5_9.2.1 18 (Int32.toNatClampNeg ((a1 * 3) + a2))) + 1)) r1 (s4.2.1 1 (Int32.toNatClampNeg a1)) with
         | none => none
         | some s5_17 =>
          some s5_17))))))))))
def tb_X1_serveFirst : List pm_I := [(0, .iload_n 1, 0, 0), (1, .iload_n 2, 0, 0), (2, .invokestatic 134, 48, 0), (5, .istore 4, 0, 0), (7, .aload_n 0, 0, 0), (8, .getfield 24, 107, 0), (11, .iload 4, 0, 0), (13, .invokevirtual 169, 85, 0), (16, .istore 5, 0, 0), (18, .iload 5, 0, 0), (20, .iconst (-1), 1, 0), (21, .if_icmp .ne 4, 25, 0), (24, .return_, 0, 0), (25, .aload_n 0, 0, 0), (26, .getfield 31, 109, 0), (29, .iload_n 1, 0, 0), (30, .iload 5, 0, 0), (32, .aload_n 0, 0, 0), (33, .getfield 38, 111, 0), (36, .iload 5, 0, 0), (38, .invokevirtual 226, 39, 0), (41, .aload_n 0, 0, 0), (42, .getfield 49, 97, 0), (45, .aload_n 0, 0, 0), (46, .getfield 18, 105, 0), (49, .invokevirtual 299, 86, 0), (52, .aload_n 0, 0, 0), (53, .getfield 31, 109, 0), (56, .getfield 302, 43, 0), (59, .iload_n 2, 0, 0), (60, .iconst 3, 5, 0), (61, .imul, 0, 0), (62, .iload_n 3, 0, 0), (63, .iadd, 0, 0), (64, .dup2, 0, 0), (65, .iaload, 0, 0), (66, .iconst 1, 3, 0), (67, .iadd, 0, 0), (68, .iastore, 0, 0), (69, .iload_n 3, 0, 0), (70, .iconst 1, 3, 0), (71, .if_icmp .eq 33, 104, 0), (74, .aload_n 0, 0, 0), (75, .getfield 49, 97, 0), (78, .getfield 305, 139, 0), (81, .iload_n 2, 0, 0), (82, .iaload, 0, 0), (83, .ifCond .le 21, 104, 0), (86, .aload_n 0, 0, 0), (87, .getfield 24, 107, 0), (90, .iload 4, 0, 0), (92, .aload_n 0, 0, 0), (93, .getfield 49, 97, 0), (96, .getfield 305, 139, 0), (99, .iload_n 2, 0, 0), (100, .iaload, 0, 0), (101, .invokevirtual 308, 88, 0), (104, .return_, 0, 0)]
theorem tk_X1_serveFirst : ∀ e ∈ tb_X1_serveFirst, pm_ck 26 e = true := List.all_eq_true.mp (by decide +kernel)
set_option maxRecDepth 20000 in
set_option maxHeartbeats 20000000 in
theorem e_X1_serveFirst {d : Nat} (hd : 3 ≤ d) {g0 g1 g2 g3 g6 g7 g8 g9 : List pm_E} {q : Nat × Nat × Nat} {s4 : cs_S} {s5 : cs_S} {a0 : Int32} {a1 : Int32} {a2 : Int32} {z5 : cs_S} (H : f_X1_serveFirst s4 s5 a0 a1 a2 = some z5) : pm_Mt 26 d [.ref 320, .int a0, .int a1, .int a2] (cl_h g0 g1 g2 g3 (ct_p4 s4) (ct_e5 (.ref 256) (.ref 384) s5) g6 g7 g8 g9 q) (.inl (none)) (cl_h g0 g1 g2 g3 (ct_p4 s4) (ct_e5 (.ref 256) (.ref 384) z5) g6 g7 g8 g9 q) := by
  refine pm_Mt.of (by decide) (by decide +kernel) rfl rfl ?_
  obtain ⟨d, rfl⟩ : ∃ d', d = d' + 1 := ⟨d - 1, by omega⟩
  unfold f_X1_serveFirst at H
  cases q2 : f_X3_numberOf a0 a1 with
  | none => rw [q2] at H; cases H
  | some r1 =>
   rw [q2] at H
   dsimp only at H
   refine pm_Wg.path (k := 2) (ds := []) (f' := (2, [some (.ref 320), some (.int a0), some (.int a1), some (.int a2), none, none], [.int a1, .int a0], cl_h g0 g1 g2 g3 (ct_p4 s4) (ct_e5 (.ref 256) (.ref 384) s5) g6 g7 g8 g9 q)) tk_X1_serveFirst (by omega) rfl trivial ?_
   refine pm_Wg.callS (m' := 42) (ix := 134) (rr := 48) (pl := 606) (As := [.int a0, .int a1]) (S := []) (by decide) rfl (pm_dec tk_X1_serveFirst rfl) rfl rfl rfl (Nat.le_of_ble_eq_true rfl) rfl (e_X3_numberOf (by omega) q2) ?_
   cases q5 : f_X3_removeFirst s5 r1 with
   | none => rw [q5] at H; cases H
   | some w =>
    obtain ⟨r3, s5_4⟩ := w
    rw [q5] at H
    dsimp only at H
    refine pm_Wg.path (k := 4) (ds := []) (f' := (13, [some (.ref 320), some (.int a0), some (.int a1), some (.int a2), some (.int r1), none], [.int r1, .ref 321], cl_h g0 g1 g2 g3 (ct_p4 s4) (ct_e5 (.ref 256) (.ref 384) s5) g6 g7 g8 g9 q)) tk_X1_serveFirst (by omega) rfl trivial ?_
    refine pm_Wg.callV (m' := 52) (ix := 169) (rr := 85) (pl := 734) (b := 321) (As := [.int r1]) (S := []) (by decide) rfl (pm_dec tk_X1_serveFirst rfl) rfl rfl (by decide) rfl rfl (by decide) (Nat.le_of_ble_eq_true rfl) rfl (e_X3_removeFirst (by omega) q5) ?_
    by_cases h6 : r3 = (-1)
    · rw [if_pos h6] at H
      have J := Option.some.inj H
      subst J
      refine pm_Wg.path (k := 4) (ds := [0]) (f' := (24, [some (.ref 320), some (.int a0), some (.int a1), some (.int a2), some (.int r1), some (.int r3)], [], cl_h g0 g1 g2 g3 (ct_p4 s4) (ct_e5 (.ref 256) (.ref 384) s5_4) g6 g7 g8 g9 q)) tk_X1_serveFirst (by omega) rfl ⟨h6, trivial⟩ ?_
      exact pm_Wg.vret (pm_dec tk_X1_serveFirst rfl) rfl
    · rw [if_neg h6] at H
      cases q8 : f_X5_stripeBehind s5_4 r3 with
      | none => rw [q8] at H; cases H
      | some r7 =>
       rw [q8] at H
       dsimp only at H
       refine pm_Wg.path (k := 11) (ds := [1]) (f' := (38, [some (.ref 320), some (.int a0), some (.int a1), some (.int a2), some (.int r1), some (.int r3)], [.int r3, .ref 339, .int r3, .int a0, .ref 333], cl_h g0 g1 g2 g3 (ct_p4 s4) (ct_e5 (.ref 256) (.ref 384) s5_4) g6 g7 g8 g9 q)) tk_X1_serveFirst (by omega) rfl ⟨h6, trivial⟩ ?_
       refine pm_Wg.callV (m' := 77) (ix := 226) (rr := 39) (pl := 576) (b := 339) (As := [.int r3]) (S := [.int r3, .int a0, .ref 333]) (by decide) rfl (pm_dec tk_X1_serveFirst rfl) rfl rfl (by decide) rfl rfl (by decide) (Nat.le_of_ble_eq_true rfl) rfl (e_X5_stripeBehind (by omega) q8) ?_
       cases q10 : f_X0_serve s4 s5_4 a0 r3 r7 (s5_4.1 0 4) with
       | none => rw [q10] at H; cases H
       | some s5_9 =>
        rw [q10] at H
        dsimp only at H
        refine pm_Wg.path (k := 4) (ds := []) (f' := (49, [some (.ref 320), some (.int a0), some (.int a1), some (.int a2), some (.int r1), some (.int r3)], [.int (s5_4.1 0 4), .ref 256, .int r7, .int r3, .int a0, .ref 333], cl_h g0 g1 g2 g3 (ct_p4 s4) (ct_e5 (.ref 256) (.ref 384) s5_4) g6 g7 g8 g9 q)) tk_X1_serveFirst (by omega) rfl trivial ?_
        refine pm_Wg.callV (m' := 3) (ix := 299) (rr := 86) (pl := 738) (b := 333) (As := [.int a0, .int r3, .int r7, .ref 256, .int (s5_4.1 0 4)]) (S := []) (by decide) rfl (pm_dec tk_X1_serveFirst rfl) rfl rfl (by decide) rfl rfl (by decide) (Nat.le_of_ble_eq_true rfl) rfl (e_X0_serve (by omega) q10) ?_
        cases b11 : pm_inb ((a1 * 3) + a2) 18 with
        | false => rw [b11] at H; cases H
        | true =>
         rw [b11] at H
         dsimp only at H
         by_cases h13 : a2 = 1
         · rw [if_pos h13] at H
           have J := Option.some.inj H
           subst J
           refine pm_Wg.path (k := 16) (ds := [1]) (f' := (104, [some (.ref 320), some (.int a0), some (.int a1), some (.int a2), some (.int r1), some (.int r3)], [], cl_h g0 g1 g2 g3 (ct_p4 s4) (ct_e5 (.ref 256) (.ref 384) (cs_a s5_9 18 ((a1 * 3) + a2) ((s5_9.2.1 18 (Int32.toNatClampNeg ((a1 * 3) + a2))) + 1))) g6 g7 g8 g9 q)) tk_X1_serveFirst (by omega) rfl ⟨h13, pm_inb_vp b11, pm_inb_vp b11, trivial⟩ ?_
           exact pm_Wg.vret (pm_dec tk_X1_serveFirst rfl) rfl
         · rw [if_neg h13] at H
           cases b14 : pm_inb a1 6 with
           | false => rw [b14] at H; cases H
           | true =>
            rw [b14] at H
            dsimp only at H
            by_cases h15 : (s4.2.1 1 (Int32.toNatClampNeg a1)) ≤ 0
            · rw [if_pos h15] at H
              have J := Option.some.inj H
              subst J
              refine pm_Wg.path (k := 22) (ds := [0, 1]) (f' := (104, [some (.ref 320), some (.int a0), some (.int a1), some (.int a2), some (.int r1), some (.int r3)], [], cl_h g0 g1 g2 g3 (ct_p4 s4) (ct_e5 (.ref 256) (.ref 384) (cs_a s5_9 18 ((a1 * 3) + a2) ((s5_9.2.1 18 (Int32.toNatClampNeg ((a1 * 3) + a2))) + 1))) g6 g7 g8 g9 q)) tk_X1_serveFirst (by omega) rfl ⟨h15, pm_inb_vp b14, h13, pm_inb_vp b11, pm_inb_vp b11, trivial⟩ ?_
              exact pm_Wg.vret (pm_dec tk_X1_serveFirst rfl) rfl
            · rw [if_neg h15] at H
              cases q18 : f_X3_credit (cs_a s5_9 18 ((a1 * 3) + a2) ((s5_9.2.1 18 (Int32.toNatClampNeg ((a1 * 3) + a2))) + 1)) r1 (s4.2.1 1 (Int32.toNatClampNeg a1)) with
              | none => rw [q18] at H; cases H
              | some s5_17 =>
               rw [q18] at H
               dsimp only at H
               refine pm_Wg.path (k := 30) (ds := [0, 0]) (f' := (101, [some (.ref 320), some (.int a0), some (.int a1), some (.int a2), some (.int r1), some (.int r3)], [.int (s4.2.1 1 (Int32.toNatClampNeg a1)), .int r1, .ref 321], cl_h g0 g1 g2 g3 (ct_p4 s4) (ct_e5 (.ref 256) (.ref 384) (cs_a s5_9 18 ((a1 * 3) + a2) ((s5_9.2.1 18 (Int32.toNatClampNeg ((a1 * 3) + a2))) + 1))) g6 g7 g8 g9 q)) tk_X1_serveFirst (by omega) rfl ⟨pm_inb_vp b14, h15, pm_inb_vp b14, h13, pm_inb_vp b11, pm_inb_vp b11, trivial⟩ ?_
               refine pm_Wg.callV (m' := 55) (ix := 308) (rr := 88) (pl := 745) (b := 321) (As := [.int r1, .int (s4.2.1 1 (Int32.toNatClampNeg a1))]) (S := []) (by decide) rfl (pm_dec tk_X1_serveFirst rfl) rfl rfl (by decide) rfl rfl (by decide) (Nat.le_of_ble_eq_true rfl) rfl (e_X3_credit (by omega) q18) ?_
               have J := Option.some.inj H
               subst J
               exact pm_Wg.vret (pm_dec tk_X1_serveFirst rfl) rfl

def f_X1_queueWrite (s4 : cs_S) (s5 : cs_S) (a0 : Int32) (a1 : Int32) : Option (cs_S) :=
  (if a1 = (s5.1 31 0) then
   (match pm_inb a0 400 with
   | false => none
   | true =>
   (match pm_inb (s5.2.1 21 (Int32.toNatClampNeg a0)) 64 with
   | false => none
   | true =>
   (if (s5.2.1 32 (Int32.toNatClampNeg (s5.2.1 21 (Int32.toNatClampNeg a0)))) = 3 then
    (match f_X1_queueFor s4 s5 a0 (s4.1 0 0) with
    | none => none
    | some s5_5 =>
     some s5_5)
   else
    some s5)))
  else
   (match f_X1_queueFor s4 s5 a0 a1 with
   | none => none
   | some s5_7 =>
    some s5_7))
def tb_X1_queueWrite : List pm_I := [(0, .iload_n 2, 0, 0), (1, .aload_n 0, 0, 0), (2, .getfield 45, 113, 0), (5, .getfield 102, 71, 0), (8, .if_icmp .eq 12, 20, 0), (11, .aload_n 0, 0, 0), (12, .iload_n 1, 0, 0), (13, .iload_n 2, 0, 0), (14, .invokevirtual 105, 73, 0), (17, .goto 36, 53, 0), (20, .aload_n 0, 0, 0), (21, .getfield 45, 113, 0), (24, .getfield 108, 74, 0), (27, .aload_n 0, 0, 0), (28, .getfield 38, 111, 0), (31, .getfield 118, 51, 0), (34, .iload_n 1, 0, 0), (35, .iaload, 0, 0), (36, .iaload, 0, 0), (37, .iconst 3, 5, 0), (38, .if_icmp .ne 15, 53, 0), (41, .aload_n 0, 0, 0), (42, .iload_n 1, 0, 0), (43, .aload_n 0, 0, 0), (44, .getfield 49, 97, 0), (47, .getfield 112, 116, 0), (50, .invokevirtual 105, 73, 0), (53, .return_, 0, 0)]
theorem tk_X1_queueWrite : ∀ e ∈ tb_X1_queueWrite, pm_ck 10 e = true := List.all_eq_true.mp (by decide +kernel)
set_option maxRecDepth 20000 in
set_option maxHeartbeats 20000000 in
theorem e_X1_queueWrite {d : Nat} (hd : 3 ≤ d) {g0 g1 g2 g3 g6 g7 g8 g9 : List pm_E} {q : Nat × Nat × Nat} {s4 : cs_S} {s5 : cs_S} {a0 : Int32} {a1 : Int32} {z5 : cs_S} (H : f_X1_queueWrite s4 s5 a0 a1 = some z5) : pm_Mt 10 d [.ref 320, .int a0, .int a1] (cl_h g0 g1 g2 g3 (ct_p4 s4) (ct_e5 (.ref 256) (.ref 384) s5) g6 g7 g8 g9 q) (.inl (none)) (cl_h g0 g1 g2 g3 (ct_p4 s4) (ct_e5 (.ref 256) (.ref 384) z5) g6 g7 g8 g9 q) := by
  refine pm_Mt.of (by decide) (by decide +kernel) rfl rfl ?_
  obtain ⟨d, rfl⟩ : ∃ d', d = d' + 1 := ⟨d - 1, by omega⟩
  unfold f_X1_queueWrite at H
  by_cases h1 : a1 = (s5.1 31 0)
  · rw [if_pos h1] at H
    cases b2 : pm_inb a0 400 with
    | false => rw [b2] at H; cases H
    | true =>
     rw [b2] at H
     dsimp only at H
     cases b3 : pm_inb (s5.2.1 21 (Int32.toNatClampNeg a0)) 64 with
     | false => rw [b3] at H; cases H
     | true =>
      rw [b3] at H
      dsimp only at H
      by_cases h4 : (s5.2.1 32 (Int32.toNatClampNeg (s5.2.1 21 (Int32.toNatClampNeg a0)))) = 3
      · rw [if_pos h4] at H
        cases q6 : f_X1_queueFor s4 s5 a0 (s4.1 0 0) with
        | none => rw [q6] at H; cases H
        | some s5_5 =>
         rw [q6] at H
         dsimp only at H
         refine pm_Wg.path (k := 21) (ds := [1, 0]) (f' := (50, [some (.ref 320), some (.int a0), some (.int a1)], [.int (s4.1 0 0), .int a0, .ref 320], cl_h g0 g1 g2 g3 (ct_p4 s4) (ct_e5 (.ref 256) (.ref 384) s5) g6 g7 g8 g9 q)) tk_X1_queueWrite (by omega) rfl ⟨h4, pm_inb_vp b3, pm_inb_vp b2, h1, trivial⟩ ?_
         refine pm_Wg.callV (m' := 12) (ix := 105) (rr := 73) (pl := 695) (b := 320) (As := [.int a0, .int (s4.1 0 0)]) (S := []) (by decide) rfl (pm_dec tk_X1_queueWrite rfl) rfl rfl (by decide) rfl rfl (by decide) (Nat.le_of_ble_eq_true rfl) rfl (e_X1_queueFor (by omega) q6) ?_
         have J := Option.some.inj H
         subst J
         exact pm_Wg.vret (pm_dec tk_X1_queueWrite rfl) rfl
      · rw [if_neg h4] at H
        have J := Option.some.inj H
        subst J
        refine pm_Wg.path (k := 16) (ds := [1, 1]) (f' := (53, [some (.ref 320), some (.int a0), some (.int a1)], [], cl_h g0 g1 g2 g3 (ct_p4 s4) (ct_e5 (.ref 256) (.ref 384) s5) g6 g7 g8 g9 q)) tk_X1_queueWrite (by omega) rfl ⟨h4, pm_inb_vp b3, pm_inb_vp b2, h1, trivial⟩ ?_
        exact pm_Wg.vret (pm_dec tk_X1_queueWrite rfl) rfl
  · rw [if_neg h1] at H
    cases q8 : f_X1_queueFor s4 s5 a0 a1 with
    | none => rw [q8] at H; cases H
    | some s5_7 =>
     rw [q8] at H
     dsimp only at H
     refine pm_Wg.path (k := 8) (ds := [0]) (f' := (14, [some (.ref 320), some (.int a0), some (.int a1)], [.int a1, .int a0, .ref 320], cl_h g0 g1 g2 g3 (ct_p4 s4) (ct_e5 (.ref 256) (.ref 384) s5) g6 g7 g8 g9 q)) tk_X1_queueWrite (by omega) rfl ⟨h1, trivial⟩ ?_
     refine pm_Wg.callV (m' := 12) (ix := 105) (rr := 73) (pl := 695) (b := 320) (As := [.int a0, .int a1]) (S := []) (by decide) rfl (pm_dec tk_X1_queueWrite rfl) rfl rfl (by decide) rfl rfl (by decide) (Nat.le_of_ble_eq_true rfl) rfl (e_X1_queueFor (by omega) q8) ?_
     have J := Option.some.inj H
     subst J
     refine pm_Wg.path (k := 1) (ds := []) (f' := (53, [some (.ref 320), some (.int a0), some (.int a1)], [], cl_h g0 g1 g2 g3 (ct_p4 s4) (ct_e5 (.ref 256) (.ref 384) s5_7) g6 g7 g8 g9 q)) tk_X1_queueWrite (by omega) rfl trivial ?_
     exact pm_Wg.vret (pm_dec tk_X1_queueWrite rfl) rfl

def lb_X1_queueDegradedRead_2 (s4 : cs_S) (x : cs_S × Int32 × Int32) : Option ((cs_S × Int32 × Int32) ⊕ (cs_S)) := match x with
  | (s5, l1, l2) =>
   (if (s4.1 0 0) ≤ l2 then
    (match pm_inb l1 400 with
    | false => none
    | true =>
    (if (s5.2.1 26 (Int32.toNatClampNeg l1)) = 0 then
     (match f_X5_end s5 l1 (s5.1 0 4) with
     | none => none
     | some s5_6 =>
      some (.inr s5_6))
    else
     some (.inr s5)))
   else
    (if l2 = (s5.1 31 0) then
     some (.inl (s5, l1, (l2 + 1)))
    else
     (match pm_inb l1 400 with
     | false => none
     | true =>
     (match f_X4_holds s5 l2 (s5.2.1 21 (Int32.toNatClampNeg l1)) with
     | none => none
     | some r8 =>
      (if r8 = 0 then
       (match f_X1_queueFor s4 s5 l1 l2 with
       | none => none
       | some s5_11 =>
        some (.inl (s5_11, l1, (l2 + 1))))
      else
       some (.inl (s5, l1, (l2 + 1))))))))
def f_X1_queueDegradedRead (s4 : cs_S) (s5 : cs_S) (a0 : Int32) : Option (cs_S) :=
  (pm_loop pm_fu (lb_X1_queueDegradedRead_2 s4) (s5, a0, 0))
def tb_X1_queueDegradedRead : List pm_I := [(0, .iconst 0, 2, 0), (1, .istore_n 2, 0, 0), (2, .iload_n 2, 0, 0), (3, .aload_n 0, 0, 0), (4, .getfield 49, 97, 0), (7, .getfield 112, 116, 0), (10, .if_icmp .ge 46, 56, 0), (13, .iload_n 2, 0, 0), (14, .aload_n 0, 0, 0), (15, .getfield 45, 113, 0), (18, .getfield 102, 71, 0), (21, .if_icmp .eq 29, 50, 0), (24, .aload_n 0, 0, 0), (25, .getfield 45, 113, 0), (28, .iload_n 2, 0, 0), (29, .aload_n 0, 0, 0), (30, .getfield 38, 111, 0), (33, .getfield 118, 51, 0), (36, .iload_n 1, 0, 0), (37, .iaload, 0, 0), (38, .invokevirtual 121, 46, 0), (41, .ifCond .ne 9, 50, 0), (44, .aload_n 0, 0, 0), (45, .iload_n 1, 0, 0), (46, .iload_n 2, 0, 0), (47, .invokevirtual 105, 73, 0), (50, .iinc 2 1, 3, 0), (53, .goto (-51), 2, 0), (56, .aload_n 0, 0, 0), (57, .getfield 38, 111, 0), (60, .getfield 125, 60, 0), (63, .iload_n 1, 0, 0), (64, .iaload, 0, 0), (65, .ifCond .ne 15, 80, 0), (68, .aload_n 0, 0, 0), (69, .getfield 38, 111, 0), (72, .iload_n 1, 0, 0), (73, .aload_n 0, 0, 0), (74, .getfield 18, 105, 0), (77, .invokevirtual 128, 77, 0), (80, .return_, 0, 0)]
theorem tk_X1_queueDegradedRead : ∀ e ∈ tb_X1_queueDegradedRead, pm_ck 11 e = true := List.all_eq_true.mp (by decide +kernel)
set_option maxRecDepth 20000 in
set_option maxHeartbeats 40000000 in
theorem ll_X1_queueDegradedRead_2 {d : Nat} (hd : 3 ≤ d) {g0 g1 g2 g3 g6 g7 g8 g9 : List pm_E} {q : Nat × Nat × Nat} {s4 : cs_S} {z5 : cs_S} (P : cs_S → Prop) (K0 : ∀ e : cs_S, P (e) → e = z5) : ∀ (n : Nat) (s5 : cs_S) (l1 : Int32) (l2 : Int32) (e : cs_S), pm_loop n (lb_X1_queueDegradedRead_2 s4) (s5, l1, l2) = some e → P e → pm_Wg 11 d (.inl (none)) (cl_h g0 g1 g2 g3 (ct_p4 s4) (ct_e5 (.ref 256) (.ref 384) z5) g6 g7 g8 g9 q) (2, [some (.ref 320), some (.int l1), some (.int l2)], [], cl_h g0 g1 g2 g3 (ct_p4 s4) (ct_e5 (.ref 256) (.ref 384) s5) g6 g7 g8 g9 q) := by
  intro n
  induction n with
  | zero => intro s5 l1 l2 e H; cases H
  | succ n ih =>
    intro s5 l1 l2 e H hPe
    obtain ⟨d, rfl⟩ : ∃ d', d = d' + 1 := ⟨d - 1, by omega⟩
    have H : pm_lst (pm_loop n (lb_X1_queueDegradedRead_2 s4)) (lb_X1_queueDegradedRead_2 s4 (s5, l1, l2)) = some e := H
    generalize pm_loop n (lb_X1_queueDegradedRead_2 s4) = LB at H ih
    unfold lb_X1_queueDegradedRead_2 at H
    try dsimp only at H
    by_cases h1 : (s4.1 0 0) ≤ l2
    · rw [if_pos h1] at H
      cases b2 : pm_inb l1 400 with
      | false => rw [b2] at H; cases H
      | true =>
       rw [b2] at H
       dsimp only at H
       by_cases h3 : (s5.2.1 26 (Int32.toNatClampNeg l1)) = 0
       · rw [if_pos h3] at H
         cases q7 : f_X5_end s5 l1 (s5.1 0 4) with
         | none => rw [q7] at H; cases H
         | some s5_6 =>
          rw [q7] at H
          dsimp only at H
          refine pm_Wg.path (k := 16) (ds := [1, 0]) (f' := (77, [some (.ref 320), some (.int l1), some (.int l2)], [.int (s5.1 0 4), .int l1, .ref 339], cl_h g0 g1 g2 g3 (ct_p4 s4) (ct_e5 (.ref 256) (.ref 384) s5) g6 g7 g8 g9 q)) tk_X1_queueDegradedRead (by omega) rfl ⟨h3, pm_inb_vp b2, h1, trivial⟩ ?_
          refine pm_Wg.callV (m' := 79) (ix := 128) (rr := 77) (pl := 705) (b := 339) (As := [.int l1, .int (s5.1 0 4)]) (S := []) (by decide) rfl (pm_dec tk_X1_queueDegradedRead rfl) rfl rfl (by decide) rfl rfl (by decide) (Nat.le_of_ble_eq_true rfl) rfl (e_X5_end (by omega) q7) ?_
          have He := Option.some.inj H
          subst He
          have J := K0 _ hPe
          subst J
          exact pm_Wg.vret (pm_dec tk_X1_queueDegradedRead rfl) rfl
       · rw [if_neg h3] at H
         have He := Option.some.inj H
         subst He
         have J := K0 _ hPe
         subst J
         refine pm_Wg.path (k := 11) (ds := [1, 1]) (f' := (80, [some (.ref 320), some (.int l1), some (.int l2)], [], cl_h g0 g1 g2 g3 (ct_p4 s4) (ct_e5 (.ref 256) (.ref 384) s5) g6 g7 g8 g9 q)) tk_X1_queueDegradedRead (by omega) rfl ⟨h3, pm_inb_vp b2, h1, trivial⟩ ?_
         exact pm_Wg.vret (pm_dec tk_X1_queueDegradedRead rfl) rfl
    · rw [if_neg h1] at H
      by_cases h4 : l2 = (s5.1 31 0)
      · rw [if_pos h4] at H
        refine pm_Wg.path (k := 12) (ds := [0, 1]) (f' := (2, [some (.ref 320), some (.int l1), some (.int (l2 + 1))], [], cl_h g0 g1 g2 g3 (ct_p4 s4) (ct_e5 (.ref 256) (.ref 384) s5) g6 g7 g8 g9 q)) tk_X1_queueDegradedRead (by omega) rfl ⟨h4, h1, trivial⟩ ?_
        exact ih _ _ _ e H hPe
      · rw [if_neg h4] at H
        cases b5 : pm_inb l1 400 with
        | false => rw [b5] at H; cases H
        | true =>
         rw [b5] at H
         dsimp only at H
         cases q9 : f_X4_holds s5 l2 (s5.2.1 21 (Int32.toNatClampNeg l1)) with
         | none => rw [q9] at H; cases H
         | some r8 =>
          rw [q9] at H
          dsimp only at H
          refine pm_Wg.path (k := 18) (ds := [0, 0]) (f' := (38, [some (.ref 320), some (.int l1), some (.int l2)], [.int (s5.2.1 21 (Int32.toNatClampNeg l1)), .int l2, .ref 351], cl_h g0 g1 g2 g3 (ct_p4 s4) (ct_e5 (.ref 256) (.ref 384) s5) g6 g7 g8 g9 q)) tk_X1_queueDegradedRead (by omega) rfl ⟨pm_inb_vp b5, h4, h1, trivial⟩ ?_
          refine pm_Wg.callV (m' := 64) (ix := 121) (rr := 46) (pl := 598) (b := 351) (As := [.int l2, .int (s5.2.1 21 (Int32.toNatClampNeg l1))]) (S := []) (by decide) rfl (pm_dec tk_X1_queueDegradedRead rfl) rfl rfl (by decide) rfl rfl (by decide) (Nat.le_of_ble_eq_true rfl) rfl (e_X4_holds (by omega) q9) ?_
          by_cases h10 : r8 = 0
          · rw [if_pos h10] at H
            cases q12 : f_X1_queueFor s4 s5 l1 l2 with
            | none => rw [q12] at H; cases H
            | some s5_11 =>
             rw [q12] at H
             dsimp only at H
             refine pm_Wg.path (k := 4) (ds := [0]) (f' := (47, [some (.ref 320), some (.int l1), some (.int l2)], [.int l2, .int l1, .ref 320], cl_h g0 g1 g2 g3 (ct_p4 s4) (ct_e5 (.ref 256) (.ref 384) s5) g6 g7 g8 g9 q)) tk_X1_queueDegradedRead (by omega) rfl ⟨h10, trivial⟩ ?_
             refine pm_Wg.callV (m' := 12) (ix := 105) (rr := 73) (pl := 695) (b := 320) (As := [.int l1, .int l2]) (S := []) (by decide) rfl (pm_dec tk_X1_queueDegradedRead rfl) rfl rfl (by decide) rfl rfl (by decide) (Nat.le_of_ble_eq_true rfl) rfl (e_X1_queueFor (by omega) q12) ?_
             refine pm_Wg.path (k := 2) (ds := []) (f' := (2, [some (.ref 320), some (.int l1), some (.int (l2 + 1))], [], cl_h g0 g1 g2 g3 (ct_p4 s4) (ct_e5 (.ref 256) (.ref 384) s5_11) g6 g7 g8 g9 q)) tk_X1_queueDegradedRead (by omega) rfl trivial ?_
             exact ih _ _ _ e H hPe
          · rw [if_neg h10] at H
            refine pm_Wg.path (k := 3) (ds := [1]) (f' := (2, [some (.ref 320), some (.int l1), some (.int (l2 + 1))], [], cl_h g0 g1 g2 g3 (ct_p4 s4) (ct_e5 (.ref 256) (.ref 384) s5) g6 g7 g8 g9 q)) tk_X1_queueDegradedRead (by omega) rfl ⟨h10, trivial⟩ ?_
            exact ih _ _ _ e H hPe
set_option maxRecDepth 20000 in
set_option maxHeartbeats 20000000 in
theorem e_X1_queueDegradedRead {d : Nat} (hd : 3 ≤ d) {g0 g1 g2 g3 g6 g7 g8 g9 : List pm_E} {q : Nat × Nat × Nat} {s4 : cs_S} {s5 : cs_S} {a0 : Int32} {z5 : cs_S} (H : f_X1_queueDegradedRead s4 s5 a0 = some z5) : pm_Mt 11 d [.ref 320, .int a0] (cl_h g0 g1 g2 g3 (ct_p4 s4) (ct_e5 (.ref 256) (.ref 384) s5) g6 g7 g8 g9 q) (.inl (none)) (cl_h g0 g1 g2 g3 (ct_p4 s4) (ct_e5 (.ref 256) (.ref 384) z5) g6 g7 g8 g9 q) := by
  refine pm_Mt.of (by decide) (by decide +kernel) rfl rfl ?_
  obtain ⟨d, rfl⟩ : ∃ d', d = d' + 1 := ⟨d - 1, by omega⟩
  unfold f_X1_queueDegradedRead at H
  refine pm_Wg.path (k := 2) (ds := []) (f' := (2, [some (.ref 320), some (.int a0), some (.int 0)], [], cl_h g0 g1 g2 g3 (ct_p4 s4) (ct_e5 (.ref 256) (.ref 384) s5) g6 g7 g8 g9 q)) tk_X1_queueDegradedRead (by omega) rfl trivial ?_
  exact ll_X1_queueDegradedRead_2 (by omega) (fun e => e = z5) (fun e he => he) pm_fu _ _ _ _ H rfl

def f_X1_loseOperation (s4 : cs_S) (s5 : cs_S) (a0 : Int32) : Option (cs_S) :=
  (match f_X3_isOfRebuild a0 with
  | none => none
  | some r1 =>
   (if r1 = 0 then
    (match f_X3_requestBehind a0 with
    | none => none
    | some r4 =>
     (match pm_inb r4 400 with
     | false => none
     | true =>
     (if (s5.2.1 22 (Int32.toNatClampNeg r4)) = 1 then
      (match f_X5_endOperation s5 r4 (s5.1 0 4) with
      | none => none
      | some s5_10 =>
       some s5_10)
     else
      (match f_X1_queueDegradedRead s4 (cs_a s5 26 r4 ((s5.2.1 26 (Int32.toNatClampNeg r4)) - 1)) r4 with
      | none => none
      | some s5_12 =>
       some s5_12))))
   else
    some s5))
def tb_X1_loseOperation : List pm_I := [(0, .iload_n 1, 0, 0), (1, .invokestatic 175, 43, 0), (4, .ifCond .eq 4, 8, 0), (7, .return_, 0, 0), (8, .iload_n 1, 0, 0), (9, .invokestatic 179, 59, 0), (12, .istore_n 2, 0, 0), (13, .aload_n 0, 0, 0), (14, .getfield 38, 111, 0), (17, .getfield 182, 53, 0), (20, .iload_n 2, 0, 0), (21, .iaload, 0, 0), (22, .iconst 1, 3, 0), (23, .if_icmp .ne 18, 41, 0), (26, .aload_n 0, 0, 0), (27, .getfield 38, 111, 0), (30, .iload_n 2, 0, 0), (31, .aload_n 0, 0, 0), (32, .getfield 18, 105, 0), (35, .invokevirtual 185, 62, 0), (38, .goto 21, 59, 0), (41, .aload_n 0, 0, 0), (42, .getfield 38, 111, 0), (45, .getfield 125, 60, 0), (48, .iload_n 2, 0, 0), (49, .dup2, 0, 0), (50, .iaload, 0, 0), (51, .iconst 1, 3, 0), (52, .isub, 0, 0), (53, .iastore, 0, 0), (54, .aload_n 0, 0, 0), (55, .iload_n 2, 0, 0), (56, .invokevirtual 114, 76, 0), (59, .return_, 0, 0)]
theorem tk_X1_loseOperation : ∀ e ∈ tb_X1_loseOperation, pm_ck 15 e = true := List.all_eq_true.mp (by decide +kernel)
set_option maxRecDepth 20000 in
set_option maxHeartbeats 20000000 in
theorem e_X1_loseOperation {d : Nat} (hd : 4 ≤ d) {g0 g1 g2 g3 g6 g7 g8 g9 : List pm_E} {q : Nat × Nat × Nat} {s4 : cs_S} {s5 : cs_S} {a0 : Int32} {z5 : cs_S} (H : f_X1_loseOperation s4 s5 a0 = some z5) : pm_Mt 15 d [.ref 320, .int a0] (cl_h g0 g1 g2 g3 (ct_p4 s4) (ct_e5 (.ref 256) (.ref 384) s5) g6 g7 g8 g9 q) (.inl (none)) (cl_h g0 g1 g2 g3 (ct_p4 s4) (ct_e5 (.ref 256) (.ref 384) z5) g6 g7 g8 g9 q) := by
  refine pm_Mt.of (by decide) (by decide +kernel) rfl rfl ?_
  obtain ⟨d, rfl⟩ : ∃ d', d = d' + 1 := ⟨d - 1, by omega⟩
  unfold f_X1_loseOperation at H
  cases q2 : f_X3_isOfRebuild a0 with
  | none => rw [q2] at H; cases H
  | some r1 =>
   rw [q2] at H
   dsimp only at H
   refine pm_Wg.path (k := 1) (ds := []) (f' := (1, [some (.ref 320), some (.int a0), none], [.int a0], cl_h g0 g1 g2 g3 (ct_p4 s4) (ct_e5 (.ref 256) (.ref 384) s5) g6 g7 g8 g9 q)) tk_X1_loseOperation (by omega) rfl trivial ?_
   refine pm_Wg.callS (m' := 45) (ix := 175) (rr := 43) (pl := 589) (As := [.int a0]) (S := []) (by decide) rfl (pm_dec tk_X1_loseOperation rfl) rfl rfl rfl (Nat.le_of_ble_eq_true rfl) rfl (e_X3_isOfRebuild (by omega) q2) ?_
   by_cases h3 : r1 = 0
   · rw [if_pos h3] at H
     cases q5 : f_X3_requestBehind a0 with
     | none => rw [q5] at H; cases H
     | some r4 =>
      rw [q5] at H
      dsimp only at H
      refine pm_Wg.path (k := 2) (ds := [1]) (f' := (9, [some (.ref 320), some (.int a0), none], [.int a0], cl_h g0 g1 g2 g3 (ct_p4 s4) (ct_e5 (.ref 256) (.ref 384) s5) g6 g7 g8 g9 q)) tk_X1_loseOperation (by omega) rfl ⟨h3, trivial⟩ ?_
      refine pm_Wg.callS (m' := 47) (ix := 179) (rr := 59) (pl := 646) (As := [.int a0]) (S := []) (by decide) rfl (pm_dec tk_X1_loseOperation rfl) rfl rfl rfl (Nat.le_of_ble_eq_true rfl) rfl (e_X3_requestBehind (by omega) q5) ?_
      cases b6 : pm_inb r4 400 with
      | false => rw [b6] at H; cases H
      | true =>
       rw [b6] at H
       dsimp only at H
       by_cases h7 : (s5.2.1 22 (Int32.toNatClampNeg r4)) = 1
       · rw [if_pos h7] at H
         cases q11 : f_X5_endOperation s5 r4 (s5.1 0 4) with
         | none => rw [q11] at H; cases H
         | some s5_10 =>
          rw [q11] at H
          dsimp only at H
          refine pm_Wg.path (k := 13) (ds := [0]) (f' := (35, [some (.ref 320), some (.int a0), some (.int r4)], [.int (s5.1 0 4), .int r4, .ref 339], cl_h g0 g1 g2 g3 (ct_p4 s4) (ct_e5 (.ref 256) (.ref 384) s5) g6 g7 g8 g9 q)) tk_X1_loseOperation (by omega) rfl ⟨h7, pm_inb_vp b6, trivial⟩ ?_
          refine pm_Wg.callV (m' := 78) (ix := 185) (rr := 62) (pl := 655) (b := 339) (As := [.int r4, .int (s5.1 0 4)]) (S := []) (by decide) rfl (pm_dec tk_X1_loseOperation rfl) rfl rfl (by decide) rfl rfl (by decide) (Nat.le_of_ble_eq_true rfl) rfl (e_X5_endOperation (by omega) q11) ?_
          have J := Option.some.inj H
          subst J
          refine pm_Wg.path (k := 1) (ds := []) (f' := (59, [some (.ref 320), some (.int a0), some (.int r4)], [], cl_h g0 g1 g2 g3 (ct_p4 s4) (ct_e5 (.ref 256) (.ref 384) s5_10) g6 g7 g8 g9 q)) tk_X1_loseOperation (by omega) rfl trivial ?_
          exact pm_Wg.vret (pm_dec tk_X1_loseOperation rfl) rfl
       · rw [if_neg h7] at H
         cases q13 : f_X1_queueDegradedRead s4 (cs_a s5 26 r4 ((s5.2.1 26 (Int32.toNatClampNeg r4)) - 1)) r4 with
         | none => rw [q13] at H; cases H
         | some s5_12 =>
          rw [q13] at H
          dsimp only at H
          refine pm_Wg.path (k := 19) (ds := [1]) (f' := (56, [some (.ref 320), some (.int a0), some (.int r4)], [.int r4, .ref 320], cl_h g0 g1 g2 g3 (ct_p4 s4) (ct_e5 (.ref 256) (.ref 384) (cs_a s5 26 r4 ((s5.2.1 26 (Int32.toNatClampNeg r4)) - 1))) g6 g7 g8 g9 q)) tk_X1_loseOperation (by omega) rfl ⟨pm_inb_vp b6, pm_inb_vp b6, h7, pm_inb_vp b6, trivial⟩ ?_
          refine pm_Wg.callV (m' := 11) (ix := 114) (rr := 76) (pl := 701) (b := 320) (As := [.int r4]) (S := []) (by decide) rfl (pm_dec tk_X1_loseOperation rfl) rfl rfl (by decide) rfl rfl (by decide) (Nat.le_of_ble_eq_true rfl) rfl (e_X1_queueDegradedRead (by omega) q13) ?_
          have J := Option.some.inj H
          subst J
          exact pm_Wg.vret (pm_dec tk_X1_loseOperation rfl) rfl
   · rw [if_neg h3] at H
     have J := Option.some.inj H
     subst J
     refine pm_Wg.path (k := 1) (ds := [0]) (f' := (7, [some (.ref 320), some (.int a0), none], [], cl_h g0 g1 g2 g3 (ct_p4 s4) (ct_e5 (.ref 256) (.ref 384) s5) g6 g7 g8 g9 q)) tk_X1_loseOperation (by omega) rfl ⟨h3, trivial⟩ ?_
     exact pm_Wg.vret (pm_dec tk_X1_loseOperation rfl) rfl

def f_X1_writeIfAllHeld (s4 : cs_S) (s5 : cs_S) (a0 : Int32) : Option (cs_S) :=
  (match f_X4_holdsAll s5 a0 (s4.1 0 0) with
  | none => none
  | some r1 =>
   (if r1 = 0 then
    some s5
   else
    (match pm_inb a0 64 with
    | false => none
    | true =>
    (match f_X1_queueForRebuild s4 (cs_a s5 32 a0 2) a0 (s4.1 0 0) with
    | none => none
    | some s5_5 =>
     some s5_5))))
def tb_X1_writeIfAllHeld : List pm_I := [(0, .aload_n 0, 0, 0), (1, .getfield 45, 113, 0), (4, .iload_n 1, 0, 0), (5, .aload_n 0, 0, 0), (6, .getfield 49, 97, 0), (9, .getfield 112, 116, 0), (12, .invokevirtual 289, 53, 0), (15, .ifCond .eq 25, 40, 0), (18, .aload_n 0, 0, 0), (19, .getfield 45, 113, 0), (22, .getfield 108, 74, 0), (25, .iload_n 1, 0, 0), (26, .iconst 2, 4, 0), (27, .iastore, 0, 0), (28, .aload_n 0, 0, 0), (29, .iload_n 1, 0, 0), (30, .aload_n 0, 0, 0), (31, .getfield 49, 97, 0), (34, .getfield 112, 116, 0), (37, .invokevirtual 263, 55, 0), (40, .return_, 0, 0)]
theorem tk_X1_writeIfAllHeld : ∀ e ∈ tb_X1_writeIfAllHeld, pm_ck 24 e = true := List.all_eq_true.mp (by decide +kernel)
set_option maxRecDepth 20000 in
set_option maxHeartbeats 20000000 in
theorem e_X1_writeIfAllHeld {d : Nat} (hd : 3 ≤ d) {g0 g1 g2 g3 g6 g7 g8 g9 : List pm_E} {q : Nat × Nat × Nat} {s4 : cs_S} {s5 : cs_S} {a0 : Int32} {z5 : cs_S} (H : f_X1_writeIfAllHeld s4 s5 a0 = some z5) : pm_Mt 24 d [.ref 320, .int a0] (cl_h g0 g1 g2 g3 (ct_p4 s4) (ct_e5 (.ref 256) (.ref 384) s5) g6 g7 g8 g9 q) (.inl (none)) (cl_h g0 g1 g2 g3 (ct_p4 s4) (ct_e5 (.ref 256) (.ref 384) z5) g6 g7 g8 g9 q) := by
  refine pm_Mt.of (by decide) (by decide +kernel) rfl rfl ?_
  obtain ⟨d, rfl⟩ : ∃ d', d = d' + 1 := ⟨d - 1, by omega⟩
  unfold f_X1_writeIfAllHeld at H
  cases q2 : f_X4_holdsAll s5 a0 (s4.1 0 0) with
  | none => rw [q2] at H; cases H
  | some r1 =>
   rw [q2] at H
   dsimp only at H
   refine pm_Wg.path (k := 6) (ds := []) (f' := (12, [some (.ref 320), some (.int a0)], [.int (s4.1 0 0), .int a0, .ref 351], cl_h g0 g1 g2 g3 (ct_p4 s4) (ct_e5 (.ref 256) (.ref 384) s5) g6 g7 g8 g9 q)) tk_X1_writeIfAllHeld (by omega) rfl trivial ?_
   refine pm_Wg.callV (m' := 67) (ix := 289) (rr := 53) (pl := 622) (b := 351) (As := [.int a0, .int (s4.1 0 0)]) (S := []) (by decide) rfl (pm_dec tk_X1_writeIfAllHeld rfl) rfl rfl (by decide) rfl rfl (by decide) (Nat.le_of_ble_eq_true rfl) rfl (e_X4_holdsAll (by omega) q2) ?_
   by_cases h3 : r1 = 0
   · rw [if_pos h3] at H
     have J := Option.some.inj H
     subst J
     refine pm_Wg.path (k := 1) (ds := [1]) (f' := (40, [some (.ref 320), some (.int a0)], [], cl_h g0 g1 g2 g3 (ct_p4 s4) (ct_e5 (.ref 256) (.ref 384) s5) g6 g7 g8 g9 q)) tk_X1_writeIfAllHeld (by omega) rfl ⟨h3, trivial⟩ ?_
     exact pm_Wg.vret (pm_dec tk_X1_writeIfAllHeld rfl) rfl
   · rw [if_neg h3] at H
     cases b4 : pm_inb a0 64 with
     | false => rw [b4] at H; cases H
     | true =>
      rw [b4] at H
      dsimp only at H
      cases q6 : f_X1_queueForRebuild s4 (cs_a s5 32 a0 2) a0 (s4.1 0 0) with
      | none => rw [q6] at H; cases H
      | some s5_5 =>
       rw [q6] at H
       dsimp only at H
       refine pm_Wg.path (k := 12) (ds := [0]) (f' := (37, [some (.ref 320), some (.int a0)], [.int (s4.1 0 0), .int a0, .ref 320], cl_h g0 g1 g2 g3 (ct_p4 s4) (ct_e5 (.ref 256) (.ref 384) (cs_a s5 32 a0 2)) g6 g7 g8 g9 q)) tk_X1_writeIfAllHeld (by omega) rfl ⟨pm_inb_vp b4, h3, trivial⟩ ?_
       refine pm_Wg.callV (m' := 13) (ix := 263) (rr := 55) (pl := 632) (b := 320) (As := [.int a0, .int (s4.1 0 0)]) (S := []) (by decide) rfl (pm_dec tk_X1_writeIfAllHeld rfl) rfl rfl (by decide) rfl rfl (by decide) (Nat.le_of_ble_eq_true rfl) rfl (e_X1_queueForRebuild (by omega) q6) ?_
       have J := Option.some.inj H
       subst J
       exact pm_Wg.vret (pm_dec tk_X1_writeIfAllHeld rfl) rfl

def lb_X1_choose_16 (s4 : cs_S) (x : cs_S × Int32 × Int32) : Option ((cs_S × Int32 × Int32) ⊕ (cs_S)) := match x with
  | (s5, l1, l2) =>
   (if 3 ≤ l2 then
    some (.inr s5)
   else
    (match f_X3_bestTenant s4 s5 l1 l2 (s5.1 0 4) with
    | none => none
    | some r4 =>
     (if r4 = (-1) then
      some (.inl (s5, l1, (l2 + 1)))
     else
      (match f_X1_serveFirst s4 s5 l1 r4 l2 with
      | none => none
      | some s5_7 =>
       some (.inr s5_7)))))
def f_X1_choose (s4 : cs_S) (s5 : cs_S) (a0 : Int32) : Option (cs_S) :=
  (match pm_inb a0 7 with
  | false => none
  | true =>
  (if (s5.2.1 14 (Int32.toNatClampNeg a0)) = (-1) then
   (pm_loop pm_fu (lb_X1_choose_16 s4) (s5, a0, 0))
  else
   some s5))
def tb_X1_choose : List pm_I := [(0, .aload_n 0, 0, 0), (1, .getfield 31, 109, 0), (4, .getfield 213, 33, 0), (7, .iload_n 1, 0, 0), (8, .iaload, 0, 0), (9, .iconst (-1), 1, 0), (10, .if_icmp .eq 4, 14, 0), (13, .return_, 0, 0), (14, .iconst 0, 2, 0), (15, .istore_n 2, 0, 0), (16, .iload_n 2, 0, 0), (17, .iconst 3, 5, 0), (18, .if_icmp .ge 40, 58, 0), (21, .aload_n 0, 0, 0), (22, .getfield 24, 107, 0), (25, .iload_n 1, 0, 0), (26, .iload_n 2, 0, 0), (27, .aload_n 0, 0, 0), (28, .getfield 49, 97, 0), (31, .aload_n 0, 0, 0), (32, .getfield 18, 105, 0), (35, .invokevirtual 292, 82, 0), (38, .istore_n 3, 0, 0), (39, .iload_n 3, 0, 0), (40, .iconst (-1), 1, 0), (41, .if_icmp .eq 11, 52, 0), (44, .aload_n 0, 0, 0), (45, .iload_n 1, 0, 0), (46, .iload_n 3, 0, 0), (47, .iload_n 2, 0, 0), (48, .invokevirtual 296, 84, 0), (51, .return_, 0, 0), (52, .iinc 2 1, 3, 0), (55, .goto (-39), 16, 0), (58, .return_, 0, 0)]
theorem tk_X1_choose : ∀ e ∈ tb_X1_choose, pm_ck 25 e = true := List.all_eq_true.mp (by decide +kernel)
set_option maxRecDepth 20000 in
set_option maxHeartbeats 40000000 in
theorem ll_X1_choose_16 {d : Nat} (hd : 4 ≤ d) {g0 g1 g2 g3 g6 g7 g8 g9 : List pm_E} {q : Nat × Nat × Nat} {s4 : cs_S} {z5 : cs_S} (P : cs_S → Prop) (K0 : ∀ e : cs_S, P (e) → e = z5) : ∀ (n : Nat) (s5 : cs_S) (l1 : Int32) (l2 : Int32) (e : cs_S), pm_loop n (lb_X1_choose_16 s4) (s5, l1, l2) = some e → P e → pm_Wg 25 d (.inl (none)) (cl_h g0 g1 g2 g3 (ct_p4 s4) (ct_e5 (.ref 256) (.ref 384) z5) g6 g7 g8 g9 q) (16, [some (.ref 320), some (.int l1), some (.int l2), none], [], cl_h g0 g1 g2 g3 (ct_p4 s4) (ct_e5 (.ref 256) (.ref 384) s5) g6 g7 g8 g9 q) := by
  intro n
  induction n with
  | zero => intro s5 l1 l2 e H; cases H
  | succ n ih =>
    intro s5 l1 l2 e H hPe
    obtain ⟨d, rfl⟩ : ∃ d', d = d' + 1 := ⟨d - 1, by omega⟩
    have H : pm_lst (pm_loop n (lb_X1_choose_16 s4)) (lb_X1_choose_16 s4 (s5, l1, l2)) = some e := H
    generalize pm_loop n (lb_X1_choose_16 s4) = LB at H ih
    unfold lb_X1_choose_16 at H
    try dsimp only at H
    by_cases h3 : 3 ≤ l2
    · rw [if_pos h3] at H
      have He := Option.some.inj H
      subst He
      have J := K0 _ hPe
      subst J
      refine pm_Wg.path (k := 3) (ds := [1]) (f' := (58, [some (.ref 320), some (.int l1), some (.int l2), none], [], cl_h g0 g1 g2 g3 (ct_p4 s4) (ct_e5 (.ref 256) (.ref 384) s5) g6 g7 g8 g9 q)) tk_X1_choose (by omega) rfl ⟨h3, trivial⟩ ?_
      exact pm_Wg.vret (pm_dec tk_X1_choose rfl) rfl
    · rw [if_neg h3] at H
      cases q5 : f_X3_bestTenant s4 s5 l1 l2 (s5.1 0 4) with
      | none => rw [q5] at H; cases H
      | some r4 =>
       rw [q5] at H
       dsimp only at H
       refine pm_Wg.path (k := 11) (ds := [0]) (f' := (35, [some (.ref 320), some (.int l1), some (.int l2), none], [.int (s5.1 0 4), .ref 256, .int l2, .int l1, .ref 321], cl_h g0 g1 g2 g3 (ct_p4 s4) (ct_e5 (.ref 256) (.ref 384) s5) g6 g7 g8 g9 q)) tk_X1_choose (by omega) rfl ⟨h3, trivial⟩ ?_
       refine pm_Wg.callV (m' := 57) (ix := 292) (rr := 82) (pl := 722) (b := 321) (As := [.int l1, .int l2, .ref 256, .int (s5.1 0 4)]) (S := []) (by decide) rfl (pm_dec tk_X1_choose rfl) rfl rfl (by decide) rfl rfl (by decide) (Nat.le_of_ble_eq_true rfl) rfl (e_X3_bestTenant (by omega) q5) ?_
       by_cases h6 : r4 = (-1)
       · rw [if_pos h6] at H
         refine pm_Wg.path (k := 6) (ds := [1]) (f' := (16, [some (.ref 320), some (.int l1), some (.int (l2 + 1)), some (.int r4)], [], cl_h g0 g1 g2 g3 (ct_p4 s4) (ct_e5 (.ref 256) (.ref 384) s5) g6 g7 g8 g9 q)) tk_X1_choose (by omega) rfl ⟨h6, trivial⟩ ?_
         refine pm_Wg.weak (L := [some (.ref 320), some (.int l1), some (.int (l2 + 1)), none]) rfl ⟨rfl, rfl, rfl, trivial⟩ ?_
         exact ih _ _ _ e H hPe
       · rw [if_neg h6] at H
         cases q8 : f_X1_serveFirst s4 s5 l1 r4 l2 with
         | none => rw [q8] at H; cases H
         | some s5_7 =>
          rw [q8] at H
          dsimp only at H
          refine pm_Wg.path (k := 8) (ds := [0]) (f' := (48, [some (.ref 320), some (.int l1), some (.int l2), some (.int r4)], [.int l2, .int r4, .int l1, .ref 320], cl_h g0 g1 g2 g3 (ct_p4 s4) (ct_e5 (.ref 256) (.ref 384) s5) g6 g7 g8 g9 q)) tk_X1_choose (by omega) rfl ⟨h6, trivial⟩ ?_
          refine pm_Wg.callV (m' := 26) (ix := 296) (rr := 84) (pl := 730) (b := 320) (As := [.int l1, .int r4, .int l2]) (S := []) (by decide) rfl (pm_dec tk_X1_choose rfl) rfl rfl (by decide) rfl rfl (by decide) (Nat.le_of_ble_eq_true rfl) rfl (e_X1_serveFirst (by omega) q8) ?_
          have He := Option.some.inj H
          subst He
          have J := K0 _ hPe
          subst J
          exact pm_Wg.vret (pm_dec tk_X1_choose rfl) rfl
set_option maxRecDepth 20000 in
set_option maxHeartbeats 20000000 in
theorem e_X1_choose {d : Nat} (hd : 4 ≤ d) {g0 g1 g2 g3 g6 g7 g8 g9 : List pm_E} {q : Nat × Nat × Nat} {s4 : cs_S} {s5 : cs_S} {a0 : Int32} {z5 : cs_S} (H : f_X1_choose s4 s5 a0 = some z5) : pm_Mt 25 d [.ref 320, .int a0] (cl_h g0 g1 g2 g3 (ct_p4 s4) (ct_e5 (.ref 256) (.ref 384) s5) g6 g7 g8 g9 q) (.inl (none)) (cl_h g0 g1 g2 g3 (ct_p4 s4) (ct_e5 (.ref 256) (.ref 384) z5) g6 g7 g8 g9 q) := by
  refine pm_Mt.of (by decide) (by decide +kernel) rfl rfl ?_
  obtain ⟨d, rfl⟩ : ∃ d', d = d' + 1 := ⟨d - 1, by omega⟩
  unfold f_X1_choose at H
  cases b1 : pm_inb a0 7 with
  | false => rw [b1] at H; cases H
  | true =>
   rw [b1] at H
   dsimp only at H
   by_cases h2 : (s5.2.1 14 (Int32.toNatClampNeg a0)) = (-1)
   · rw [if_pos h2] at H
     refine pm_Wg.path (k := 9) (ds := [1]) (f' := (16, [some (.ref 320), some (.int a0), some (.int 0), none], [], cl_h g0 g1 g2 g3 (ct_p4 s4) (ct_e5 (.ref 256) (.ref 384) s5) g6 g7 g8 g9 q)) tk_X1_choose (by omega) rfl ⟨h2, pm_inb_vp b1, trivial⟩ ?_
     exact ll_X1_choose_16 (by omega) (fun e => e = z5) (fun e he => he) pm_fu _ _ _ _ H rfl
   · rw [if_neg h2] at H
     have J := Option.some.inj H
     subst J
     refine pm_Wg.path (k := 7) (ds := [0]) (f' := (13, [some (.ref 320), some (.int a0), none, none], [], cl_h g0 g1 g2 g3 (ct_p4 s4) (ct_e5 (.ref 256) (.ref 384) s5) g6 g7 g8 g9 q)) tk_X1_choose (by omega) rfl ⟨h2, pm_inb_vp b1, trivial⟩ ?_
     exact pm_Wg.vret (pm_dec tk_X1_choose rfl) rfl

def f_X1_accept (s4 : cs_S) (s5 : cs_S) (a0 : Int32) (a1 : Int32) (a2 : Int32) (a3 : Int32) : Option (Int32 × cs_S) :=
  (match f_X2_stripeWith s4 a1 with
  | none => none
  | some r1 =>
   (match f_X2_diskWith s4 a1 with
   | none => none
   | some r3 =>
    (match f_X5_add s5 a0 r1 a2 a3 (s5.1 0 4) with
    | none => none
    | some (r5, s5_6) =>
     (if a2 = 0 then
      (if r3 = (s5_6.1 31 0) then
       (match pm_inb r1 64 with
       | false => none
       | true =>
       (if (s5_6.2.1 32 (Int32.toNatClampNeg r1)) = 3 then
        (match f_X1_queueFor s4 s5_6 r5 (s4.1 0 0) with
        | none => none
        | some s5_12 =>
         some (r5, s5_12))
       else
        (match f_X1_queueDegradedRead s4 s5_6 r5 with
        | none => none
        | some s5_14 =>
         some (r5, s5_14))))
      else
       (match f_X1_queueFor s4 s5_6 r5 r3 with
       | none => none
       | some s5_16 =>
        some (r5, s5_16)))
     else
      (match f_X1_queueWrite s4 s5_6 r5 r3 with
      | none => none
      | some s5_18 =>
       (match f_X2_parityOf s4 r1 with
       | none => none
       | some r20 =>
        (match f_X1_queueWrite s4 s5_18 r5 r20 with
        | none => none
        | some s5_22 =>
         some (r5, s5_22))))))))
def tb_X1_accept : List pm_I := [(0, .aload_n 0, 0, 0), (1, .getfield 49, 97, 0), (4, .iload_n 2, 0, 0), (5, .invokevirtual 82, 67, 0), (8, .istore 5, 0, 0), (10, .aload_n 0, 0, 0), (11, .getfield 49, 97, 0), (14, .iload_n 2, 0, 0), (15, .invokevirtual 88, 68, 0), (18, .istore 6, 0, 0), (20, .aload_n 0, 0, 0), (21, .getfield 38, 111, 0), (24, .iload_n 1, 0, 0), (25, .iload 5, 0, 0), (27, .iload_n 3, 0, 0), (28, .iload 4, 0, 0), (30, .aload_n 0, 0, 0), (31, .getfield 18, 105, 0), (34, .invokevirtual 91, 71, 0), (37, .istore 7, 0, 0), (39, .iload_n 3, 0, 0), (40, .ifCond .eq 29, 69, 0), (43, .aload_n 0, 0, 0), (44, .iload 7, 0, 0), (46, .iload 6, 0, 0), (48, .invokevirtual 95, 72, 0), (51, .aload_n 0, 0, 0), (52, .iload 7, 0, 0), (54, .aload_n 0, 0, 0), (55, .getfield 49, 97, 0), (58, .iload 5, 0, 0), (60, .invokevirtual 99, 75, 0), (63, .invokevirtual 95, 72, 0), (66, .goto 62, 128, 0), (69, .iload 6, 0, 0), (71, .aload_n 0, 0, 0), (72, .getfield 45, 113, 0), (75, .getfield 102, 71, 0), (78, .if_icmp .eq 14, 92, 0), (81, .aload_n 0, 0, 0), (82, .iload 7, 0, 0), (84, .iload 6, 0, 0), (86, .invokevirtual 105, 73, 0), (89, .goto 39, 128, 0), (92, .aload_n 0, 0, 0), (93, .getfield 45, 113, 0), (96, .getfield 108, 74, 0), (99, .iload 5, 0, 0), (101, .iaload, 0, 0), (102, .iconst 3, 5, 0), (103, .if_icmp .ne 19, 122, 0), (106, .aload_n 0, 0, 0), (107, .iload 7, 0, 0), (109, .aload_n 0, 0, 0), (110, .getfield 49, 97, 0), (113, .getfield 112, 116, 0), (116, .invokevirtual 105, 73, 0), (119, .goto 9, 128, 0), (122, .aload_n 0, 0, 0), (123, .iload 7, 0, 0), (125, .invokevirtual 114, 76, 0), (128, .iload 7, 0, 0), (130, .ireturn, 0, 0)]
theorem tk_X1_accept : ∀ e ∈ tb_X1_accept, pm_ck 9 e = true := List.all_eq_true.mp (by decide +kernel)
set_option maxRecDepth 20000 in
set_option maxHeartbeats 20000000 in
theorem e_X1_accept {d : Nat} (hd : 4 ≤ d) {g0 g1 g2 g3 g6 g7 g8 g9 : List pm_E} {q : Nat × Nat × Nat} {s4 : cs_S} {s5 : cs_S} {a0 : Int32} {a1 : Int32} {a2 : Int32} {a3 : Int32} {r : Int32} {z5 : cs_S} (H : f_X1_accept s4 s5 a0 a1 a2 a3 = some (r, z5)) : pm_Mt 9 d [.ref 320, .int a0, .int a1, .int a2, .int a3] (cl_h g0 g1 g2 g3 (ct_p4 s4) (ct_e5 (.ref 256) (.ref 384) s5) g6 g7 g8 g9 q) (.inl (some (.int r))) (cl_h g0 g1 g2 g3 (ct_p4 s4) (ct_e5 (.ref 256) (.ref 384) z5) g6 g7 g8 g9 q) := by
  refine pm_Mt.of (by decide) (by decide +kernel) rfl rfl ?_
  obtain ⟨d, rfl⟩ : ∃ d', d = d' + 1 := ⟨d - 1, by omega⟩
  unfold f_X1_accept at H
  cases q2 : f_X2_stripeWith s4 a1 with
  | none => rw [q2] at H; cases H
  | some r1 =>
   rw [q2] at H
   dsimp only at H
   refine pm_Wg.path (k := 3) (ds := []) (f' := (5, [some (.ref 320), some (.int a0), some (.int a1), some (.int a2), some (.int a3), none, none, none], [.int a1, .ref 256], cl_h g0 g1 g2 g3 (ct_p4 s4) (ct_e5 (.ref 256) (.ref 384) s5) g6 g7 g8 g9 q)) tk_X1_accept (by omega) rfl trivial ?_
   refine pm_Wg.callV (m' := 38) (ix := 82) (rr := 67) (pl := 674) (b := 256) (As := [.int a1]) (S := []) (by decide) rfl (pm_dec tk_X1_accept rfl) rfl rfl (by decide) rfl rfl (by decide) (Nat.le_of_ble_eq_true rfl) rfl (e_X2_stripeWith (by omega) q2) ?_
   cases q4 : f_X2_diskWith s4 a1 with
   | none => rw [q4] at H; cases H
   | some r3 =>
    rw [q4] at H
    dsimp only at H
    refine pm_Wg.path (k := 4) (ds := []) (f' := (15, [some (.ref 320), some (.int a0), some (.int a1), some (.int a2), some (.int a3), some (.int r1), none, none], [.int a1, .ref 256], cl_h g0 g1 g2 g3 (ct_p4 s4) (ct_e5 (.ref 256) (.ref 384) s5) g6 g7 g8 g9 q)) tk_X1_accept (by omega) rfl trivial ?_
    refine pm_Wg.callV (m' := 39) (ix := 88) (rr := 68) (pl := 678) (b := 256) (As := [.int a1]) (S := []) (by decide) rfl (pm_dec tk_X1_accept rfl) rfl rfl (by decide) rfl rfl (by decide) (Nat.le_of_ble_eq_true rfl) rfl (e_X2_diskWith (by omega) q4) ?_
    cases q7 : f_X5_add s5 a0 r1 a2 a3 (s5.1 0 4) with
    | none => rw [q7] at H; cases H
    | some w =>
     obtain ⟨r5, s5_6⟩ := w
     rw [q7] at H
     dsimp only at H
     refine pm_Wg.path (k := 9) (ds := []) (f' := (34, [some (.ref 320), some (.int a0), some (.int a1), some (.int a2), some (.int a3), some (.int r1), some (.int r3), none], [.int (s5.1 0 4), .int a3, .int a2, .int r1, .int a0, .ref 339], cl_h g0 g1 g2 g3 (ct_p4 s4) (ct_e5 (.ref 256) (.ref 384) s5) g6 g7 g8 g9 q)) tk_X1_accept (by omega) rfl trivial ?_
     refine pm_Wg.callV (m' := 75) (ix := 91) (rr := 71) (pl := 687) (b := 339) (As := [.int a0, .int r1, .int a2, .int a3, .int (s5.1 0 4)]) (S := []) (by decide) rfl (pm_dec tk_X1_accept rfl) rfl rfl (by decide) rfl rfl (by decide) (Nat.le_of_ble_eq_true rfl) rfl (e_X5_add (by omega) q7) ?_
     by_cases h8 : a2 = 0
     · rw [if_pos h8] at H
       by_cases h9 : r3 = (s5_6.1 31 0)
       · rw [if_pos h9] at H
         cases b10 : pm_inb r1 64 with
         | false => rw [b10] at H; cases H
         | true =>
          rw [b10] at H
          dsimp only at H
          by_cases h11 : (s5_6.2.1 32 (Int32.toNatClampNeg r1)) = 3
          · rw [if_pos h11] at H
            cases q13 : f_X1_queueFor s4 s5_6 r5 (s4.1 0 0) with
            | none => rw [q13] at H; cases H
            | some s5_12 =>
             rw [q13] at H
             dsimp only at H
             refine pm_Wg.path (k := 20) (ds := [1, 1, 0]) (f' := (116, [some (.ref 320), some (.int a0), some (.int a1), some (.int a2), some (.int a3), some (.int r1), some (.int r3), some (.int r5)], [.int (s4.1 0 0), .int r5, .ref 320], cl_h g0 g1 g2 g3 (ct_p4 s4) (ct_e5 (.ref 256) (.ref 384) s5_6) g6 g7 g8 g9 q)) tk_X1_accept (by omega) rfl ⟨h11, pm_inb_vp b10, h9, h8, trivial⟩ ?_
             refine pm_Wg.callV (m' := 12) (ix := 105) (rr := 73) (pl := 695) (b := 320) (As := [.int r5, .int (s4.1 0 0)]) (S := []) (by decide) rfl (pm_dec tk_X1_accept rfl) rfl rfl (by decide) rfl rfl (by decide) (Nat.le_of_ble_eq_true rfl) rfl (e_X1_queueFor (by omega) q13) ?_
             have J := Option.some.inj H
             injection J with J0a J0z
             subst J0a
             subst J0z
             refine pm_Wg.path (k := 2) (ds := []) (f' := (130, [some (.ref 320), some (.int a0), some (.int a1), some (.int a2), some (.int a3), some (.int r1), some (.int r3), some (.int r5)], [.int r5], cl_h g0 g1 g2 g3 (ct_p4 s4) (ct_e5 (.ref 256) (.ref 384) s5_12) g6 g7 g8 g9 q)) tk_X1_accept (by omega) rfl trivial ?_
             exact pm_Wg.iret (pm_dec tk_X1_accept rfl) rfl rfl
          · rw [if_neg h11] at H
            cases q15 : f_X1_queueDegradedRead s4 s5_6 r5 with
            | none => rw [q15] at H; cases H
            | some s5_14 =>
             rw [q15] at H
             dsimp only at H
             refine pm_Wg.path (k := 17) (ds := [1, 1, 1]) (f' := (125, [some (.ref 320), some (.int a0), some (.int a1), some (.int a2), some (.int a3), some (.int r1), some (.int r3), some (.int r5)], [.int r5, .ref 320], cl_h g0 g1 g2 g3 (ct_p4 s4) (ct_e5 (.ref 256) (.ref 384) s5_6) g6 g7 g8 g9 q)) tk_X1_accept (by omega) rfl ⟨h11, pm_inb_vp b10, h9, h8, trivial⟩ ?_
             refine pm_Wg.callV (m' := 11) (ix := 114) (rr := 76) (pl := 701) (b := 320) (As := [.int r5]) (S := []) (by decide) rfl (pm_dec tk_X1_accept rfl) rfl rfl (by decide) rfl rfl (by decide) (Nat.le_of_ble_eq_true rfl) rfl (e_X1_queueDegradedRead (by omega) q15) ?_
             have J := Option.some.inj H
             injection J with J0a J0z
             subst J0a
             subst J0z
             refine pm_Wg.path (k := 1) (ds := []) (f' := (130, [some (.ref 320), some (.int a0), some (.int a1), some (.int a2), some (.int a3), some (.int r1), some (.int r3), some (.int r5)], [.int r5], cl_h g0 g1 g2 g3 (ct_p4 s4) (ct_e5 (.ref 256) (.ref 384) s5_14) g6 g7 g8 g9 q)) tk_X1_accept (by omega) rfl trivial ?_
             exact pm_Wg.iret (pm_dec tk_X1_accept rfl) rfl rfl
       · rw [if_neg h9] at H
         cases q17 : f_X1_queueFor s4 s5_6 r5 r3 with
         | none => rw [q17] at H; cases H
         | some s5_16 =>
          rw [q17] at H
          dsimp only at H
          refine pm_Wg.path (k := 11) (ds := [1, 0]) (f' := (86, [some (.ref 320), some (.int a0), some (.int a1), some (.int a2), some (.int a3), some (.int r1), some (.int r3), some (.int r5)], [.int r3, .int r5, .ref 320], cl_h g0 g1 g2 g3 (ct_p4 s4) (ct_e5 (.ref 256) (.ref 384) s5_6) g6 g7 g8 g9 q)) tk_X1_accept (by omega) rfl ⟨h9, h8, trivial⟩ ?_
          refine pm_Wg.callV (m' := 12) (ix := 105) (rr := 73) (pl := 695) (b := 320) (As := [.int r5, .int r3]) (S := []) (by decide) rfl (pm_dec tk_X1_accept rfl) rfl rfl (by decide) rfl rfl (by decide) (Nat.le_of_ble_eq_true rfl) rfl (e_X1_queueFor (by omega) q17) ?_
          have J := Option.some.inj H
          injection J with J0a J0z
          subst J0a
          subst J0z
          refine pm_Wg.path (k := 2) (ds := []) (f' := (130, [some (.ref 320), some (.int a0), some (.int a1), some (.int a2), some (.int a3), some (.int r1), some (.int r3), some (.int r5)], [.int r5], cl_h g0 g1 g2 g3 (ct_p4 s4) (ct_e5 (.ref 256) (.ref 384) s5_16) g6 g7 g8 g9 q)) tk_X1_accept (by omega) rfl trivial ?_
          exact pm_Wg.iret (pm_dec tk_X1_accept rfl) rfl rfl
     · rw [if_neg h8] at H
       cases q19 : f_X1_queueWrite s4 s5_6 r5 r3 with
       | none => rw [q19] at H; cases H
       | some s5_18 =>
        rw [q19] at H
        dsimp only at H
        refine pm_Wg.path (k := 6) (ds := [0]) (f' := (48, [some (.ref 320), some (.int a0), some (.int a1), some (.int a2), some (.int a3), some (.int r1), some (.int r3), some (.int r5)], [.int r3, .int r5, .ref 320], cl_h g0 g1 g2 g3 (ct_p4 s4) (ct_e5 (.ref 256) (.ref 384) s5_6) g6 g7 g8 g9 q)) tk_X1_accept (by omega) rfl ⟨h8, trivial⟩ ?_
        refine pm_Wg.callV (m' := 10) (ix := 95) (rr := 72) (pl := 691) (b := 320) (As := [.int r5, .int r3]) (S := []) (by decide) rfl (pm_dec tk_X1_accept rfl) rfl rfl (by decide) rfl rfl (by decide) (Nat.le_of_ble_eq_true rfl) rfl (e_X1_queueWrite (by omega) q19) ?_
        cases q21 : f_X2_parityOf s4 r1 with
        | none => rw [q21] at H; cases H
        | some r20 =>
         rw [q21] at H
         dsimp only at H
         refine pm_Wg.path (k := 5) (ds := []) (f' := (60, [some (.ref 320), some (.int a0), some (.int a1), some (.int a2), some (.int a3), some (.int r1), some (.int r3), some (.int r5)], [.int r1, .ref 256, .int r5, .ref 320], cl_h g0 g1 g2 g3 (ct_p4 s4) (ct_e5 (.ref 256) (.ref 384) s5_18) g6 g7 g8 g9 q)) tk_X1_accept (by omega) rfl trivial ?_
         refine pm_Wg.callV (m' := 40) (ix := 99) (rr := 75) (pl := 700) (b := 256) (As := [.int r1]) (S := [.int r5, .ref 320]) (by decide) rfl (pm_dec tk_X1_accept rfl) rfl rfl (by decide) rfl rfl (by decide) (Nat.le_of_ble_eq_true rfl) rfl (e_X2_parityOf (by omega) q21) ?_
         cases q23 : f_X1_queueWrite s4 s5_18 r5 r20 with
         | none => rw [q23] at H; cases H
         | some s5_22 =>
          rw [q23] at H
          dsimp only at H
          refine pm_Wg.callV (m' := 10) (ix := 95) (rr := 72) (pl := 691) (b := 320) (As := [.int r5, .int r20]) (S := []) (by decide) rfl (pm_dec tk_X1_accept rfl) rfl rfl (by decide) rfl rfl (by decide) (Nat.le_of_ble_eq_true rfl) rfl (e_X1_queueWrite (by omega) q23) ?_
          have J := Option.some.inj H
          injection J with J0a J0z
          subst J0a
          subst J0z
          refine pm_Wg.path (k := 2) (ds := []) (f' := (130, [some (.ref 320), some (.int a0), some (.int a1), some (.int a2), some (.int a3), some (.int r1), some (.int r3), some (.int r5)], [.int r5], cl_h g0 g1 g2 g3 (ct_p4 s4) (ct_e5 (.ref 256) (.ref 384) s5_22) g6 g7 g8 g9 q)) tk_X1_accept (by omega) rfl trivial ?_
          exact pm_Wg.iret (pm_dec tk_X1_accept rfl) rfl rfl

def f_X1_endRead (s4 : cs_S) (s5 : cs_S) (a0 : Int32) (a1 : Int32) (a2 : Int32) : Option (cs_S) :=
  (if (s4.1 0 0) ≤ a0 then
   (if (s5.1 31 0) = (-1) then
    some s5
   else
    some s5)
  else
   (if a0 = (s5.1 31 0) then
    (if (s5.1 31 0) = (-1) then
     some s5
    else
     some s5)
   else
    (if (s5.1 31 0) = (-1) then
     some s5
    else
     (match f_X4_holds s5 a0 a1 with
     | none => none
     | some r6 =>
      (if r6 = 0 then
       (match pm_inb a1 64 with
       | false => none
       | true =>
       (if (s5.2.1 32 (Int32.toNatClampNeg a1)) = 1 then
        (match f_X4_hold s5 a0 a1 with
        | none => none
        | some s5_14 =>
         (if a2 = 0 then
          (match f_X3_numberOf a0 0 with
          | none => none
          | some r17 =>
           (match f_X3_rebuildOperation a1 a0 with
           | none => none
           | some r19 =>
            (match f_X3_remove s5_14 r17 r19 with
            | none => none
            | some (r21, s5_22) =>
             (if r21 = 0 then
              (match f_X1_writeIfAllHeld s4 s5_22 a1 with
              | none => none
              | some s5_25 =>
               some s5_25)
             else
              (match f_X1_writeIfAllHeld s4 (cs_i s5_22 31 7 ((s5_22.1 31 7) + 1)) a1 with
              | none => none
              | some s5_27 =>
               some s5_27)))))
         else
          (match f_X1_writeIfAllHeld s4 s5_14 a1 with
          | none => none
          | some s5_29 =>
           some s5_29)))
       else
        (if (s5.2.1 32 (Int32.toNatClampNeg a1)) = 0 then
         (if (s4.1 0 5) ≤ (s5.1 31 4) then
          some s5
         else
          (match f_X4_hold s5 a0 a1 with
          | none => none
          | some s5_31 =>
           some (cs_i s5_31 31 8 ((s5_31.1 31 8) + 1))))
        else
         some s5)))
      else
       some s5)))))
def tb_X1_endRead : List pm_I := [(0, .iload_n 1, 0, 0), (1, .aload_n 0, 0, 0), (2, .getfield 49, 97, 0), (5, .getfield 112, 116, 0), (8, .if_icmp .ge 18, 26, 0), (11, .iload_n 1, 0, 0), (12, .aload_n 0, 0, 0), (13, .getfield 45, 113, 0), (16, .getfield 102, 71, 0), (19, .if_icmp .eq 7, 26, 0), (22, .iconst 1, 3, 0), (23, .goto 4, 27, 0), (26, .iconst 0, 2, 0), (27, .istore 4, 0, 0), (29, .aload_n 0, 0, 0), (30, .getfield 45, 113, 0), (33, .getfield 102, 71, 0), (36, .iconst (-1), 1, 0), (37, .if_icmp .eq 20, 57, 0), (40, .iload 4, 0, 0), (42, .ifCond .eq 15, 57, 0), (45, .aload_n 0, 0, 0), (46, .getfield 45, 113, 0), (49, .iload_n 1, 0, 0), (50, .iload_n 2, 0, 0), (51, .invokevirtual 121, 46, 0), (54, .ifCond .eq 4, 58, 0), (57, .return_, 0, 0), (58, .aload_n 0, 0, 0), (59, .getfield 45, 113, 0), (62, .getfield 108, 74, 0), (65, .iload_n 2, 0, 0), (66, .iaload, 0, 0), (67, .iconst 1, 3, 0), (68, .if_icmp .ne 57, 125, 0), (71, .aload_n 0, 0, 0), (72, .getfield 45, 113, 0), (75, .iload_n 1, 0, 0), (76, .iload_n 2, 0, 0), (77, .invokevirtual 239, 47, 0), (80, .iload_n 3, 0, 0), (81, .ifCond .ne 36, 117, 0), (84, .aload_n 0, 0, 0), (85, .getfield 24, 107, 0), (88, .iload_n 1, 0, 0), (89, .iconst 0, 2, 0), (90, .invokestatic 134, 48, 0), (93, .iload_n 2, 0, 0), (94, .iload_n 1, 0, 0), (95, .invokestatic 148, 49, 0), (98, .invokevirtual 242, 50, 0), (101, .ifCond .eq 16, 117, 0), (104, .aload_n 0, 0, 0), (105, .getfield 45, 113, 0), (108, .dup, 0, 0), (109, .getfield 245, 88, 0), (112, .iconst 1, 3, 0), (113, .iadd, 0, 0), (114, .putfield 245, 88, 0), (117, .aload_n 0, 0, 0), (118, .iload_n 2, 0, 0), (119, .invokevirtual 248, 52, 0), (122, .goto 54, 176, 0), (125, .aload_n 0, 0, 0), (126, .getfield 45, 113, 0), (129, .getfield 108, 74, 0), (132, .iload_n 2, 0, 0), (133, .iaload, 0, 0), (134, .ifCond .ne 42, 176, 0), (137, .aload_n 0, 0, 0), (138, .getfield 45, 113, 0), (141, .getfield 251, 80, 0), (144, .aload_n 0, 0, 0), (145, .getfield 49, 97, 0), (148, .getfield 254, 128, 0), (151, .if_icmp .ge 25, 176, 0), (154, .aload_n 0, 0, 0), (155, .getfield 45, 113, 0), (158, .iload_n 1, 0, 0), (159, .iload_n 2, 0, 0), (160, .invokevirtual 239, 47, 0), (163, .aload_n 0, 0, 0), (164, .getfield 45, 113, 0), (167, .dup, 0, 0), (168, .getfield 257, 91, 0), (171, .iconst 1, 3, 0), (172, .iadd, 0, 0), (173, .putfield 257, 91, 0), (176, .return_, 0, 0)]
theorem tk_X1_endRead : ∀ e ∈ tb_X1_endRead, pm_ck 19 e = true := List.all_eq_true.mp (by decide +kernel)
set_option maxRecDepth 20000 in
set_option maxHeartbeats 20000000 in
theorem e_X1_endRead {d : Nat} (hd : 4 ≤ d) {g0 g1 g2 g3 g6 g7 g8 g9 : List pm_E} {q : Nat × Nat × Nat} {s4 : cs_S} {s5 : cs_S} {a0 : Int32} {a1 : Int32} {a2 : Int32} {z5 : cs_S} (H : f_X1_endRead s4 s5 a0 a1 a2 = some z5) : pm_Mt 19 d [.ref 320, .int a0, .int a1, .int a2] (cl_h g0 g1 g2 g3 (ct_p4 s4) (ct_e5 (.ref 256) (.ref 384) s5) g6 g7 g8 g9 q) (.inl (none)) (cl_h g0 g1 g2 g3 (ct_p4 s4) (ct_e5 (.ref 256) (.ref 384) z5) g6 g7 g8 g9 q) := by
  refine pm_Mt.of (by decide) (by decide +kernel) rfl rfl ?_
  obtain ⟨d, rfl⟩ : ∃ d', d = d' + 1 := ⟨d - 1, by omega⟩
  unfold f_X1_endRead at H
  by_cases h1 : (s4.1 0 0) ≤ a0
  · rw [if_pos h1] at H
    by_cases h2 : (s5.1 31 0) = (-1)
    · rw [if_pos h2] at H
      have J := Option.some.inj H
      subst J
      refine pm_Wg.path (k := 12) (ds := [1, 1]) (f' := (57, [some (.ref 320), some (.int a0), some (.int a1), some (.int a2), some (.int 0)], [], cl_h g0 g1 g2 g3 (ct_p4 s4) (ct_e5 (.ref 256) (.ref 384) s5) g6 g7 g8 g9 q)) tk_X1_endRead (by omega) rfl ⟨h2, h1, trivial⟩ ?_
      exact pm_Wg.vret (pm_dec tk_X1_endRead rfl) rfl
    · rw [if_neg h2] at H
      have J := Option.some.inj H
      subst J
      refine pm_Wg.path (k := 14) (ds := [1, 0, 1]) (f' := (57, [some (.ref 320), some (.int a0), some (.int a1), some (.int a2), some (.int 0)], [], cl_h g0 g1 g2 g3 (ct_p4 s4) (ct_e5 (.ref 256) (.ref 384) s5) g6 g7 g8 g9 q)) tk_X1_endRead (by omega) rfl ⟨(by decide), h2, h1, trivial⟩ ?_
      exact pm_Wg.vret (pm_dec tk_X1_endRead rfl) rfl
  · rw [if_neg h1] at H
    by_cases h3 : a0 = (s5.1 31 0)
    · rw [if_pos h3] at H
      by_cases h4 : (s5.1 31 0) = (-1)
      · rw [if_pos h4] at H
        have J := Option.some.inj H
        subst J
        refine pm_Wg.path (k := 17) (ds := [0, 1, 1]) (f' := (57, [some (.ref 320), some (.int a0), some (.int a1), some (.int a2), some (.int 0)], [], cl_h g0 g1 g2 g3 (ct_p4 s4) (ct_e5 (.ref 256) (.ref 384) s5) g6 g7 g8 g9 q)) tk_X1_endRead (by omega) rfl ⟨h4, h3, h1, trivial⟩ ?_
        exact pm_Wg.vret (pm_dec tk_X1_endRead rfl) rfl
      · rw [if_neg h4] at H
        have J := Option.some.inj H
        subst J
        refine pm_Wg.path (k := 19) (ds := [0, 1, 0, 1]) (f' := (57, [some (.ref 320), some (.int a0), some (.int a1), some (.int a2), some (.int 0)], [], cl_h g0 g1 g2 g3 (ct_p4 s4) (ct_e5 (.ref 256) (.ref 384) s5) g6 g7 g8 g9 q)) tk_X1_endRead (by omega) rfl ⟨(by decide), h4, h3, h1, trivial⟩ ?_
        exact pm_Wg.vret (pm_dec tk_X1_endRead rfl) rfl
    · rw [if_neg h3] at H
      by_cases h5 : (s5.1 31 0) = (-1)
      · rw [if_pos h5] at H
        have J := Option.some.inj H
        subst J
        refine pm_Wg.path (k := 18) (ds := [0, 0, 1]) (f' := (57, [some (.ref 320), some (.int a0), some (.int a1), some (.int a2), some (.int 1)], [], cl_h g0 g1 g2 g3 (ct_p4 s4) (ct_e5 (.ref 256) (.ref 384) s5) g6 g7 g8 g9 q)) tk_X1_endRead (by omega) rfl ⟨h5, h3, h1, trivial⟩ ?_
        exact pm_Wg.vret (pm_dec tk_X1_endRead rfl) rfl
      · rw [if_neg h5] at H
        cases q7 : f_X4_holds s5 a0 a1 with
        | none => rw [q7] at H; cases H
        | some r6 =>
         rw [q7] at H
         dsimp only at H
         refine pm_Wg.path (k := 24) (ds := [0, 0, 0, 0]) (f' := (51, [some (.ref 320), some (.int a0), some (.int a1), some (.int a2), some (.int 1)], [.int a1, .int a0, .ref 351], cl_h g0 g1 g2 g3 (ct_p4 s4) (ct_e5 (.ref 256) (.ref 384) s5) g6 g7 g8 g9 q)) tk_X1_endRead (by omega) rfl ⟨(by decide), h5, h3, h1, trivial⟩ ?_
         refine pm_Wg.callV (m' := 64) (ix := 121) (rr := 46) (pl := 598) (b := 351) (As := [.int a0, .int a1]) (S := []) (by decide) rfl (pm_dec tk_X1_endRead rfl) rfl rfl (by decide) rfl rfl (by decide) (Nat.le_of_ble_eq_true rfl) rfl (e_X4_holds (by omega) q7) ?_
         by_cases h8 : r6 = 0
         · rw [if_pos h8] at H
           cases b9 : pm_inb a1 64 with
           | false => rw [b9] at H; cases H
           | true =>
            rw [b9] at H
            dsimp only at H
            by_cases h10 : (s5.2.1 32 (Int32.toNatClampNeg a1)) = 1
            · rw [if_pos h10] at H
              cases q15 : f_X4_hold s5 a0 a1 with
              | none => rw [q15] at H; cases H
              | some s5_14 =>
               rw [q15] at H
               dsimp only at H
               refine pm_Wg.path (k := 12) (ds := [1, 0]) (f' := (77, [some (.ref 320), some (.int a0), some (.int a1), some (.int a2), some (.int 1)], [.int a1, .int a0, .ref 351], cl_h g0 g1 g2 g3 (ct_p4 s4) (ct_e5 (.ref 256) (.ref 384) s5) g6 g7 g8 g9 q)) tk_X1_endRead (by omega) rfl ⟨h10, pm_inb_vp b9, h8, trivial⟩ ?_
               refine pm_Wg.callV (m' := 65) (ix := 239) (rr := 47) (pl := 602) (b := 351) (As := [.int a0, .int a1]) (S := []) (by decide) rfl (pm_dec tk_X1_endRead rfl) rfl rfl (by decide) rfl rfl (by decide) (Nat.le_of_ble_eq_true rfl) rfl (e_X4_hold (by omega) q15) ?_
               by_cases h16 : a2 = 0
               · rw [if_pos h16] at H
                 cases q18 : f_X3_numberOf a0 0 with
                 | none => rw [q18] at H; cases H
                 | some r17 =>
                  rw [q18] at H
                  dsimp only at H
                  refine pm_Wg.path (k := 6) (ds := [0]) (f' := (90, [some (.ref 320), some (.int a0), some (.int a1), some (.int a2), some (.int 1)], [.int 0, .int a0, .ref 321], cl_h g0 g1 g2 g3 (ct_p4 s4) (ct_e5 (.ref 256) (.ref 384) s5_14) g6 g7 g8 g9 q)) tk_X1_endRead (by omega) rfl ⟨h16, trivial⟩ ?_
                  refine pm_Wg.callS (m' := 42) (ix := 134) (rr := 48) (pl := 606) (As := [.int a0, .int 0]) (S := [.ref 321]) (by decide) rfl (pm_dec tk_X1_endRead rfl) rfl rfl rfl (Nat.le_of_ble_eq_true rfl) rfl (e_X3_numberOf (by omega) q18) ?_
                  cases q20 : f_X3_rebuildOperation a1 a0 with
                  | none => rw [q20] at H; cases H
                  | some r19 =>
                   rw [q20] at H
                   dsimp only at H
                   refine pm_Wg.path (k := 2) (ds := []) (f' := (95, [some (.ref 320), some (.int a0), some (.int a1), some (.int a2), some (.int 1)], [.int a0, .int a1, .int r17, .ref 321], cl_h g0 g1 g2 g3 (ct_p4 s4) (ct_e5 (.ref 256) (.ref 384) s5_14) g6 g7 g8 g9 q)) tk_X1_endRead (by omega) rfl trivial ?_
                   refine pm_Wg.callS (m' := 43) (ix := 148) (rr := 49) (pl := 607) (As := [.int a1, .int a0]) (S := [.int r17, .ref 321]) (by decide) rfl (pm_dec tk_X1_endRead rfl) rfl rfl rfl (Nat.le_of_ble_eq_true rfl) rfl (e_X3_rebuildOperation (by omega) q20) ?_
                   cases q23 : f_X3_remove s5_14 r17 r19 with
                   | none => rw [q23] at H; cases H
                   | some w =>
                    obtain ⟨r21, s5_22⟩ := w
                    rw [q23] at H
                    dsimp only at H
                    refine pm_Wg.callV (m' := 53) (ix := 242) (rr := 50) (pl := 610) (b := 321) (As := [.int r17, .int r19]) (S := []) (by decide) rfl (pm_dec tk_X1_endRead rfl) rfl rfl (by decide) rfl rfl (by decide) (Nat.le_of_ble_eq_true rfl) rfl (e_X3_remove (by omega) q23) ?_
                    by_cases h24 : r21 = 0
                    · rw [if_pos h24] at H
                      cases q26 : f_X1_writeIfAllHeld s4 s5_22 a1 with
                      | none => rw [q26] at H; cases H
                      | some s5_25 =>
                       rw [q26] at H
                       dsimp only at H
                       refine pm_Wg.path (k := 3) (ds := [1]) (f' := (119, [some (.ref 320), some (.int a0), some (.int a1), some (.int a2), some (.int 1)], [.int a1, .ref 320], cl_h g0 g1 g2 g3 (ct_p4 s4) (ct_e5 (.ref 256) (.ref 384) s5_22) g6 g7 g8 g9 q)) tk_X1_endRead (by omega) rfl ⟨h24, trivial⟩ ?_
                       refine pm_Wg.callV (m' := 24) (ix := 248) (rr := 52) (pl := 618) (b := 320) (As := [.int a1]) (S := []) (by decide) rfl (pm_dec tk_X1_endRead rfl) rfl rfl (by decide) rfl rfl (by decide) (Nat.le_of_ble_eq_true rfl) rfl (e_X1_writeIfAllHeld (by omega) q26) ?_
                       have J := Option.some.inj H
                       subst J
                       refine pm_Wg.path (k := 1) (ds := []) (f' := (176, [some (.ref 320), some (.int a0), some (.int a1), some (.int a2), some (.int 1)], [], cl_h g0 g1 g2 g3 (ct_p4 s4) (ct_e5 (.ref 256) (.ref 384) s5_25) g6 g7 g8 g9 q)) tk_X1_endRead (by omega) rfl trivial ?_
                       exact pm_Wg.vret (pm_dec tk_X1_endRead rfl) rfl
                    · rw [if_neg h24] at H
                      cases q28 : f_X1_writeIfAllHeld s4 (cs_i s5_22 31 7 ((s5_22.1 31 7) + 1)) a1 with
                      | none => rw [q28] at H; cases H
                      | some s5_27 =>
                       rw [q28] at H
                       dsimp only at H
                       refine pm_Wg.path (k := 10) (ds := [0]) (f' := (119, [some (.ref 320), some (.int a0), some (.int a1), some (.int a2), some (.int 1)], [.int a1, .ref 320], cl_h g0 g1 g2 g3 (ct_p4 s4) (ct_e5 (.ref 256) (.ref 384) (cs_i s5_22 31 7 ((s5_22.1 31 7) + 1))) g6 g7 g8 g9 q)) tk_X1_endRead (by omega) rfl ⟨h24, trivial⟩ ?_
                       refine pm_Wg.callV (m' := 24) (ix := 248) (rr := 52) (pl := 618) (b := 320) (As := [.int a1]) (S := []) (by decide) rfl (pm_dec tk_X1_endRead rfl) rfl rfl (by decide) rfl rfl (by decide) (Nat.le_of_ble_eq_true rfl) rfl (e_X1_writeIfAllHeld (by omega) q28) ?_
                       have J := Option.some.inj H
                       subst J
                       refine pm_Wg.path (k := 1) (ds := []) (f' := (176, [some (.ref 320), some (.int a0), some (.int a1), some (.int a2), some (.int 1)], [], cl_h g0 g1 g2 g3 (ct_p4 s4) (ct_e5 (.ref 256) (.ref 384) s5_27) g6 g7 g8 g9 q)) tk_X1_endRead (by omega) rfl trivial ?_
                       exact pm_Wg.vret (pm_dec tk_X1_endRead rfl) rfl
               · rw [if_neg h16] at H
                 cases q30 : f_X1_writeIfAllHeld s4 s5_14 a1 with
                 | none => rw [q30] at H; cases H
                 | some s5_29 =>
                  rw [q30] at H
                  dsimp only at H
                  refine pm_Wg.path (k := 4) (ds := [1]) (f' := (119, [some (.ref 320), some (.int a0), some (.int a1), some (.int a2), some (.int 1)], [.int a1, .ref 320], cl_h g0 g1 g2 g3 (ct_p4 s4) (ct_e5 (.ref 256) (.ref 384) s5_14) g6 g7 g8 g9 q)) tk_X1_endRead (by omega) rfl ⟨h16, trivial⟩ ?_
                  refine pm_Wg.callV (m' := 24) (ix := 248) (rr := 52) (pl := 618) (b := 320) (As := [.int a1]) (S := []) (by decide) rfl (pm_dec tk_X1_endRead rfl) rfl rfl (by decide) rfl rfl (by decide) (Nat.le_of_ble_eq_true rfl) rfl (e_X1_writeIfAllHeld (by omega) q30) ?_
                  have J := Option.some.inj H
                  subst J
                  refine pm_Wg.path (k := 1) (ds := []) (f' := (176, [some (.ref 320), some (.int a0), some (.int a1), some (.int a2), some (.int 1)], [], cl_h g0 g1 g2 g3 (ct_p4 s4) (ct_e5 (.ref 256) (.ref 384) s5_29) g6 g7 g8 g9 q)) tk_X1_endRead (by omega) rfl trivial ?_
                  exact pm_Wg.vret (pm_dec tk_X1_endRead rfl) rfl
            · rw [if_neg h10] at H
              by_cases h12 : (s5.2.1 32 (Int32.toNatClampNeg a1)) = 0
              · rw [if_pos h12] at H
                by_cases h13 : (s4.1 0 5) ≤ (s5.1 31 4)
                · rw [if_pos h13] at H
                  have J := Option.some.inj H
                  subst J
                  refine pm_Wg.path (k := 21) (ds := [1, 1, 0, 1]) (f' := (176, [some (.ref 320), some (.int a0), some (.int a1), some (.int a2), some (.int 1)], [], cl_h g0 g1 g2 g3 (ct_p4 s4) (ct_e5 (.ref 256) (.ref 384) s5) g6 g7 g8 g9 q)) tk_X1_endRead (by omega) rfl ⟨h13, h12, pm_inb_vp b9, h10, pm_inb_vp b9, h8, trivial⟩ ?_
                  exact pm_Wg.vret (pm_dec tk_X1_endRead rfl) rfl
                · rw [if_neg h13] at H
                  cases q32 : f_X4_hold s5 a0 a1 with
                  | none => rw [q32] at H; cases H
                  | some s5_31 =>
                   rw [q32] at H
                   dsimp only at H
                   refine pm_Wg.path (k := 25) (ds := [1, 1, 0, 0]) (f' := (160, [some (.ref 320), some (.int a0), some (.int a1), some (.int a2), some (.int 1)], [.int a1, .int a0, .ref 351], cl_h g0 g1 g2 g3 (ct_p4 s4) (ct_e5 (.ref 256) (.ref 384) s5) g6 g7 g8 g9 q)) tk_X1_endRead (by omega) rfl ⟨h13, h12, pm_inb_vp b9, h10, pm_inb_vp b9, h8, trivial⟩ ?_
                   refine pm_Wg.callV (m' := 65) (ix := 239) (rr := 47) (pl := 602) (b := 351) (As := [.int a0, .int a1]) (S := []) (by decide) rfl (pm_dec tk_X1_endRead rfl) rfl rfl (by decide) rfl rfl (by decide) (Nat.le_of_ble_eq_true rfl) rfl (e_X4_hold (by omega) q32) ?_
                   have J := Option.some.inj H
                   subst J
                   refine pm_Wg.path (k := 7) (ds := []) (f' := (176, [some (.ref 320), some (.int a0), some (.int a1), some (.int a2), some (.int 1)], [], cl_h g0 g1 g2 g3 (ct_p4 s4) (ct_e5 (.ref 256) (.ref 384) (cs_i s5_31 31 8 ((s5_31.1 31 8) + 1))) g6 g7 g8 g9 q)) tk_X1_endRead (by omega) rfl trivial ?_
                   exact pm_Wg.vret (pm_dec tk_X1_endRead rfl) rfl
              · rw [if_neg h12] at H
                have J := Option.some.inj H
                subst J
                refine pm_Wg.path (k := 14) (ds := [1, 1, 1]) (f' := (176, [some (.ref 320), some (.int a0), some (.int a1), some (.int a2), some (.int 1)], [], cl_h g0 g1 g2 g3 (ct_p4 s4) (ct_e5 (.ref 256) (.ref 384) s5) g6 g7 g8 g9 q)) tk_X1_endRead (by omega) rfl ⟨h12, pm_inb_vp b9, h10, pm_inb_vp b9, h8, trivial⟩ ?_
                exact pm_Wg.vret (pm_dec tk_X1_endRead rfl) rfl
         · rw [if_neg h8] at H
           have J := Option.some.inj H
           subst J
           refine pm_Wg.path (k := 1) (ds := [0]) (f' := (57, [some (.ref 320), some (.int a0), some (.int a1), some (.int a2), some (.int 1)], [], cl_h g0 g1 g2 g3 (ct_p4 s4) (ct_e5 (.ref 256) (.ref 384) s5) g6 g7 g8 g9 q)) tk_X1_endRead (by omega) rfl ⟨h8, trivial⟩ ?_
           exact pm_Wg.vret (pm_dec tk_X1_endRead rfl) rfl

def lb_X1_acceptLines_0 (s4 : cs_S) (s6 : cs_S) (x : cs_S) : Option ((cs_S) ⊕ (cs_S)) := match x with
  | s5 =>
   (if (s6.1 0 0) ≤ (s5.1 0 2) then
    some (.inr s5)
   else
    (match pm_inb (s5.1 0 2) 100 with
    | false => none
    | true =>
    (if (s5.1 0 4) < (s6.2.1 1 (Int32.toNatClampNeg (s5.1 0 2))) then
     some (.inr s5)
    else
     (if (s5.1 19 0) < 400 then
      (match f_X1_accept s4 s5 (s6.2.1 2 (Int32.toNatClampNeg (s5.1 0 2))) (s6.2.1 3 (Int32.toNatClampNeg (s5.1 0 2))) (s6.2.1 5 (Int32.toNatClampNeg (s5.1 0 2))) (s6.2.1 4 (Int32.toNatClampNeg (s5.1 0 2))) with
      | none => none
      | some (r9, s5_10) =>
       some (.inl (cs_i s5_10 0 2 ((s5_10.1 0 2) + 1))))
     else
      some (.inl (cs_i (cs_i s5 0 3 ((s5.1 0 3) + 1)) 0 2 (((cs_i s5 0 3 ((s5.1 0 3) + 1)).1 0 2) + 1)))))))
def f_X1_acceptLines (s4 : cs_S) (s5 : cs_S) (s6 : cs_S) : Option (cs_S) :=
  (pm_loop pm_fu (lb_X1_acceptLines_0 s4 s6) s5)
def tb_X1_acceptLines : List pm_I := [(0, .aload_n 0, 0, 0), (1, .getfield 9, 101, 0), (4, .aload_n 0, 0, 0), (5, .getfield 53, 99, 0), (8, .getfield 57, 147, 0), (11, .if_icmp .ge 114, 125, 0), (14, .aload_n 0, 0, 0), (15, .getfield 53, 99, 0), (18, .getfield 204, 150, 0), (21, .aload_n 0, 0, 0), (22, .getfield 9, 101, 0), (25, .iaload, 0, 0), (26, .aload_n 0, 0, 0), (27, .getfield 18, 105, 0), (30, .if_icmp .gt 95, 125, 0), (33, .aload_n 0, 0, 0), (34, .getfield 38, 111, 0), (37, .getfield 68, 46, 0), (40, .sipush 400, 33, 0), (43, .if_icmp .lt 16, 59, 0), (46, .aload_n 0, 0, 0), (47, .dup, 0, 0), (48, .getfield 15, 103, 0), (51, .iconst 1, 3, 0), (52, .iadd, 0, 0), (53, .putfield 15, 103, 0), (56, .goto 56, 112, 0), (59, .aload_n 0, 0, 0), (60, .aload_n 0, 0, 0), (61, .getfield 53, 99, 0), (64, .getfield 266, 152, 0), (67, .aload_n 0, 0, 0), (68, .getfield 9, 101, 0), (71, .iaload, 0, 0), (72, .aload_n 0, 0, 0), (73, .getfield 53, 99, 0), (76, .getfield 267, 154, 0), (79, .aload_n 0, 0, 0), (80, .getfield 9, 101, 0), (83, .iaload, 0, 0), (84, .aload_n 0, 0, 0), (85, .getfield 53, 99, 0), (88, .getfield 270, 158, 0), (91, .aload_n 0, 0, 0), (92, .getfield 9, 101, 0), (95, .baload, 0, 0), (96, .aload_n 0, 0, 0), (97, .getfield 53, 99, 0), (100, .getfield 274, 156, 0), (103, .aload_n 0, 0, 0), (104, .getfield 9, 101, 0), (107, .iaload, 0, 0), (108, .invokevirtual 275, 66, 0), (111, .pop, 0, 0), (112, .aload_n 0, 0, 0), (113, .dup, 0, 0), (114, .getfield 9, 101, 0), (117, .iconst 1, 3, 0), (118, .iadd, 0, 0), (119, .putfield 9, 101, 0), (122, .goto (-122), 0, 0), (125, .return_, 0, 0)]
theorem tk_X1_acceptLines : ∀ e ∈ tb_X1_acceptLines, pm_ck 21 e = true := List.all_eq_true.mp (by decide +kernel)
set_option maxRecDepth 20000 in
set_option maxHeartbeats 40000000 in
theorem ll_X1_acceptLines_0 {d : Nat} (hd : 5 ≤ d) {g0 g1 g2 g3 g7 g8 g9 : List pm_E} {q : Nat × Nat × Nat} {s4 : cs_S} {s6 : cs_S} {z5 : cs_S} (P : cs_S → Prop) (K0 : ∀ e : cs_S, P (e) → e = z5) : ∀ (n : Nat) (s5 : cs_S) (e : cs_S), pm_loop n (lb_X1_acceptLines_0 s4 s6) s5 = some e → P e → pm_Wg 21 d (.inl (none)) (cl_h g0 g1 g2 g3 (ct_p4 s4) (ct_e5 (.ref 256) (.ref 384) z5) (ct_t6 s6) g7 g8 g9 q) (0, [some (.ref 320)], [], cl_h g0 g1 g2 g3 (ct_p4 s4) (ct_e5 (.ref 256) (.ref 384) s5) (ct_t6 s6) g7 g8 g9 q) := by
  intro n
  induction n with
  | zero => intro s5 e H; cases H
  | succ n ih =>
    intro s5 e H hPe
    obtain ⟨d, rfl⟩ : ∃ d', d = d' + 1 := ⟨d - 1, by omega⟩
    have H : pm_lst (pm_loop n (lb_X1_acceptLines_0 s4 s6)) (lb_X1_acceptLines_0 s4 s6 s5) = some e := H
    generalize pm_loop n (lb_X1_acceptLines_0 s4 s6) = LB at H ih
    unfold lb_X1_acceptLines_0 at H
    try dsimp only at H
    by_cases h1 : (s6.1 0 0) ≤ (s5.1 0 2)
    · rw [if_pos h1] at H
      have He := Option.some.inj H
      subst He
      have J := K0 _ hPe
      subst J
      refine pm_Wg.path (k := 6) (ds := [1]) (f' := (125, [some (.ref 320)], [], cl_h g0 g1 g2 g3 (ct_p4 s4) (ct_e5 (.ref 256) (.ref 384) s5) (ct_t6 s6) g7 g8 g9 q)) tk_X1_acceptLines (by omega) rfl ⟨h1, trivial⟩ ?_
      exact pm_Wg.vret (pm_dec tk_X1_acceptLines rfl) rfl
    · rw [if_neg h1] at H
      cases b2 : pm_inb (s5.1 0 2) 100 with
      | false => rw [b2] at H; cases H
      | true =>
       rw [b2] at H
       dsimp only at H
       by_cases h3 : (s5.1 0 4) < (s6.2.1 1 (Int32.toNatClampNeg (s5.1 0 2)))
       · rw [if_pos h3] at H
         have He := Option.some.inj H
         subst He
         have J := K0 _ hPe
         subst J
         refine pm_Wg.path (k := 15) (ds := [0, 1]) (f' := (125, [some (.ref 320)], [], cl_h g0 g1 g2 g3 (ct_p4 s4) (ct_e5 (.ref 256) (.ref 384) s5) (ct_t6 s6) g7 g8 g9 q)) tk_X1_acceptLines (by omega) rfl ⟨h3, pm_inb_vp b2, h1, trivial⟩ ?_
         exact pm_Wg.vret (pm_dec tk_X1_acceptLines rfl) rfl
       · rw [if_neg h3] at H
         by_cases h4 : (s5.1 19 0) < 400
         · rw [if_pos h4] at H
           cases q11 : f_X1_accept s4 s5 (s6.2.1 2 (Int32.toNatClampNeg (s5.1 0 2))) (s6.2.1 3 (Int32.toNatClampNeg (s5.1 0 2))) (s6.2.1 5 (Int32.toNatClampNeg (s5.1 0 2))) (s6.2.1 4 (Int32.toNatClampNeg (s5.1 0 2))) with
           | none => rw [q11] at H; cases H
           | some w =>
            obtain ⟨r9, s5_10⟩ := w
            rw [q11] at H
            dsimp only at H
            refine pm_Wg.path (k := 45) (ds := [0, 0, 1]) (f' := (108, [some (.ref 320)], [.int (s6.2.1 4 (Int32.toNatClampNeg (s5.1 0 2))), .int (s6.2.1 5 (Int32.toNatClampNeg (s5.1 0 2))), .int (s6.2.1 3 (Int32.toNatClampNeg (s5.1 0 2))), .int (s6.2.1 2 (Int32.toNatClampNeg (s5.1 0 2))), .ref 320], cl_h g0 g1 g2 g3 (ct_p4 s4) (ct_e5 (.ref 256) (.ref 384) s5) (ct_t6 s6) g7 g8 g9 q)) tk_X1_acceptLines (by omega) rfl ⟨pm_inb_vp b2, pm_inb_vp b2, pm_inb_vp b2, pm_inb_vp b2, h4, h3, pm_inb_vp b2, h1, trivial⟩ ?_
            refine pm_Wg.callV (m' := 9) (ix := 275) (rr := 66) (pl := 670) (b := 320) (As := [.int (s6.2.1 2 (Int32.toNatClampNeg (s5.1 0 2))), .int (s6.2.1 3 (Int32.toNatClampNeg (s5.1 0 2))), .int (s6.2.1 5 (Int32.toNatClampNeg (s5.1 0 2))), .int (s6.2.1 4 (Int32.toNatClampNeg (s5.1 0 2)))]) (S := []) (by decide) rfl (pm_dec tk_X1_acceptLines rfl) rfl rfl (by decide) rfl rfl (by decide) (Nat.le_of_ble_eq_true rfl) rfl (e_X1_accept (by omega) q11) ?_
            refine pm_Wg.path (k := 8) (ds := []) (f' := (0, [some (.ref 320)], [], cl_h g0 g1 g2 g3 (ct_p4 s4) (ct_e5 (.ref 256) (.ref 384) (cs_i s5_10 0 2 ((s5_10.1 0 2) + 1))) (ct_t6 s6) g7 g8 g9 q)) tk_X1_acceptLines (by omega) rfl trivial ?_
            exact ih _ e H hPe
         · rw [if_neg h4] at H
           refine pm_Wg.path (k := 34) (ds := [0, 0, 0]) (f' := (0, [some (.ref 320)], [], cl_h g0 g1 g2 g3 (ct_p4 s4) (ct_e5 (.ref 256) (.ref 384) (cs_i (cs_i s5 0 3 ((s5.1 0 3) + 1)) 0 2 (((cs_i s5 0 3 ((s5.1 0 3) + 1)).1 0 2) + 1))) (ct_t6 s6) g7 g8 g9 q)) tk_X1_acceptLines (by omega) rfl ⟨h4, h3, pm_inb_vp b2, h1, trivial⟩ ?_
           exact ih _ e H hPe
set_option maxRecDepth 20000 in
set_option maxHeartbeats 20000000 in
theorem e_X1_acceptLines {d : Nat} (hd : 5 ≤ d) {g0 g1 g2 g3 g7 g8 g9 : List pm_E} {q : Nat × Nat × Nat} {s4 : cs_S} {s5 : cs_S} {s6 : cs_S} {z5 : cs_S} (H : f_X1_acceptLines s4 s5 s6 = some z5) : pm_Mt 21 d [.ref 320] (cl_h g0 g1 g2 g3 (ct_p4 s4) (ct_e5 (.ref 256) (.ref 384) s5) (ct_t6 s6) g7 g8 g9 q) (.inl (none)) (cl_h g0 g1 g2 g3 (ct_p4 s4) (ct_e5 (.ref 256) (.ref 384) z5) (ct_t6 s6) g7 g8 g9 q) := by
  refine pm_Mt.of (by decide) (by decide +kernel) rfl rfl ?_
  obtain ⟨d, rfl⟩ : ∃ d', d = d' + 1 := ⟨d - 1, by omega⟩
  unfold f_X1_acceptLines at H
  exact ll_X1_acceptLines_0 (by omega) (fun e => e = z5) (fun e he => he) pm_fu _ _ H rfl

def lb_X1_collect_10 (s4 : cs_S) (x : cs_S × Int32 × Int32) : Option ((cs_S × Int32 × Int32) ⊕ (cs_S)) := match x with
  | (s5, l1, l2) =>
   (if (s4.1 0 0) ≤ l2 then
    (match f_X1_writeIfAllHeld s4 s5 l1 with
    | none => none
    | some s5_5 =>
     some (.inr s5_5))
   else
    (if l2 = (s5.1 31 0) then
     some (.inl (s5, l1, (l2 + 1)))
    else
     (match f_X4_holds s5 l2 l1 with
     | none => none
     | some r7 =>
      (if r7 = 0 then
       (match f_X1_queueForRebuild s4 s5 l1 l2 with
       | none => none
       | some s5_10 =>
        some (.inl (s5_10, l1, (l2 + 1))))
      else
       some (.inl (s5, l1, (l2 + 1)))))))
def f_X1_collect (s4 : cs_S) (s5 : cs_S) (a0 : Int32) : Option (cs_S) :=
  (match f_X4_collect s5 a0 with
  | none => none
  | some s5_1 =>
   (pm_loop pm_fu (lb_X1_collect_10 s4) (s5_1, a0, 0)))
def tb_X1_collect : List pm_I := [(0, .aload_n 0, 0, 0), (1, .getfield 45, 113, 0), (4, .iload_n 1, 0, 0), (5, .invokevirtual 288, 80, 0), (8, .iconst 0, 2, 0), (9, .istore_n 2, 0, 0), (10, .iload_n 2, 0, 0), (11, .aload_n 0, 0, 0), (12, .getfield 49, 97, 0), (15, .getfield 112, 116, 0), (18, .if_icmp .ge 38, 56, 0), (21, .iload_n 2, 0, 0), (22, .aload_n 0, 0, 0), (23, .getfield 45, 113, 0), (26, .getfield 102, 71, 0), (29, .if_icmp .eq 21, 50, 0), (32, .aload_n 0, 0, 0), (33, .getfield 45, 113, 0), (36, .iload_n 2, 0, 0), (37, .iload_n 1, 0, 0), (38, .invokevirtual 121, 46, 0), (41, .ifCond .ne 9, 50, 0), (44, .aload_n 0, 0, 0), (45, .iload_n 1, 0, 0), (46, .iload_n 2, 0, 0), (47, .invokevirtual 263, 55, 0), (50, .iinc 2 1, 3, 0), (53, .goto (-43), 10, 0), (56, .aload_n 0, 0, 0), (57, .iload_n 1, 0, 0), (58, .invokevirtual 248, 52, 0), (61, .return_, 0, 0)]
theorem tk_X1_collect : ∀ e ∈ tb_X1_collect, pm_ck 23 e = true := List.all_eq_true.mp (by decide +kernel)
set_option maxRecDepth 20000 in
set_option maxHeartbeats 40000000 in
theorem ll_X1_collect_10 {d : Nat} (hd : 4 ≤ d) {g0 g1 g2 g3 g6 g7 g8 g9 : List pm_E} {q : Nat × Nat × Nat} {s4 : cs_S} {z5 : cs_S} (P : cs_S → Prop) (K0 : ∀ e : cs_S, P (e) → e = z5) : ∀ (n : Nat) (s5 : cs_S) (l1 : Int32) (l2 : Int32) (e : cs_S), pm_loop n (lb_X1_collect_10 s4) (s5, l1, l2) = some e → P e → pm_Wg 23 d (.inl (none)) (cl_h g0 g1 g2 g3 (ct_p4 s4) (ct_e5 (.ref 256) (.ref 384) z5) g6 g7 g8 g9 q) (10, [some (.ref 320), some (.int l1), some (.int l2)], [], cl_h g0 g1 g2 g3 (ct_p4 s4) (ct_e5 (.ref 256) (.ref 384) s5) g6 g7 g8 g9 q) := by
  intro n
  induction n with
  | zero => intro s5 l1 l2 e H; cases H
  | succ n ih =>
    intro s5 l1 l2 e H hPe
    obtain ⟨d, rfl⟩ : ∃ d', d = d' + 1 := ⟨d - 1, by omega⟩
    have H : pm_lst (pm_loop n (lb_X1_collect_10 s4)) (lb_X1_collect_10 s4 (s5, l1, l2)) = some e := H
    generalize pm_loop n (lb_X1_collect_10 s4) = LB at H ih
    unfold lb_X1_collect_10 at H
    try dsimp only at H
    by_cases h3 : (s4.1 0 0) ≤ l2
    · rw [if_pos h3] at H
      cases q6 : f_X1_writeIfAllHeld s4 s5 l1 with
      | none => rw [q6] at H; cases H
      | some s5_5 =>
       rw [q6] at H
       dsimp only at H
       refine pm_Wg.path (k := 7) (ds := [1]) (f' := (58, [some (.ref 320), some (.int l1), some (.int l2)], [.int l1, .ref 320], cl_h g0 g1 g2 g3 (ct_p4 s4) (ct_e5 (.ref 256) (.ref 384) s5) g6 g7 g8 g9 q)) tk_X1_collect (by omega) rfl ⟨h3, trivial⟩ ?_
       refine pm_Wg.callV (m' := 24) (ix := 248) (rr := 52) (pl := 618) (b := 320) (As := [.int l1]) (S := []) (by decide) rfl (pm_dec tk_X1_collect rfl) rfl rfl (by decide) rfl rfl (by decide) (Nat.le_of_ble_eq_true rfl) rfl (e_X1_writeIfAllHeld (by omega) q6) ?_
       have He := Option.some.inj H
       subst He
       have J := K0 _ hPe
       subst J
       exact pm_Wg.vret (pm_dec tk_X1_collect rfl) rfl
    · rw [if_neg h3] at H
      by_cases h4 : l2 = (s5.1 31 0)
      · rw [if_pos h4] at H
        refine pm_Wg.path (k := 12) (ds := [0, 1]) (f' := (10, [some (.ref 320), some (.int l1), some (.int (l2 + 1))], [], cl_h g0 g1 g2 g3 (ct_p4 s4) (ct_e5 (.ref 256) (.ref 384) s5) g6 g7 g8 g9 q)) tk_X1_collect (by omega) rfl ⟨h4, h3, trivial⟩ ?_
        exact ih _ _ _ e H hPe
      · rw [if_neg h4] at H
        cases q8 : f_X4_holds s5 l2 l1 with
        | none => rw [q8] at H; cases H
        | some r7 =>
         rw [q8] at H
         dsimp only at H
         refine pm_Wg.path (k := 14) (ds := [0, 0]) (f' := (38, [some (.ref 320), some (.int l1), some (.int l2)], [.int l1, .int l2, .ref 351], cl_h g0 g1 g2 g3 (ct_p4 s4) (ct_e5 (.ref 256) (.ref 384) s5) g6 g7 g8 g9 q)) tk_X1_collect (by omega) rfl ⟨h4, h3, trivial⟩ ?_
         refine pm_Wg.callV (m' := 64) (ix := 121) (rr := 46) (pl := 598) (b := 351) (As := [.int l2, .int l1]) (S := []) (by decide) rfl (pm_dec tk_X1_collect rfl) rfl rfl (by decide) rfl rfl (by decide) (Nat.le_of_ble_eq_true rfl) rfl (e_X4_holds (by omega) q8) ?_
         by_cases h9 : r7 = 0
         · rw [if_pos h9] at H
           cases q11 : f_X1_queueForRebuild s4 s5 l1 l2 with
           | none => rw [q11] at H; cases H
           | some s5_10 =>
            rw [q11] at H
            dsimp only at H
            refine pm_Wg.path (k := 4) (ds := [0]) (f' := (47, [some (.ref 320), some (.int l1), some (.int l2)], [.int l2, .int l1, .ref 320], cl_h g0 g1 g2 g3 (ct_p4 s4) (ct_e5 (.ref 256) (.ref 384) s5) g6 g7 g8 g9 q)) tk_X1_collect (by omega) rfl ⟨h9, trivial⟩ ?_
            refine pm_Wg.callV (m' := 13) (ix := 263) (rr := 55) (pl := 632) (b := 320) (As := [.int l1, .int l2]) (S := []) (by decide) rfl (pm_dec tk_X1_collect rfl) rfl rfl (by decide) rfl rfl (by decide) (Nat.le_of_ble_eq_true rfl) rfl (e_X1_queueForRebuild (by omega) q11) ?_
            refine pm_Wg.path (k := 2) (ds := []) (f' := (10, [some (.ref 320), some (.int l1), some (.int (l2 + 1))], [], cl_h g0 g1 g2 g3 (ct_p4 s4) (ct_e5 (.ref 256) (.ref 384) s5_10) g6 g7 g8 g9 q)) tk_X1_collect (by omega) rfl trivial ?_
            exact ih _ _ _ e H hPe
         · rw [if_neg h9] at H
           refine pm_Wg.path (k := 3) (ds := [1]) (f' := (10, [some (.ref 320), some (.int l1), some (.int (l2 + 1))], [], cl_h g0 g1 g2 g3 (ct_p4 s4) (ct_e5 (.ref 256) (.ref 384) s5) g6 g7 g8 g9 q)) tk_X1_collect (by omega) rfl ⟨h9, trivial⟩ ?_
           exact ih _ _ _ e H hPe
set_option maxRecDepth 20000 in
set_option maxHeartbeats 20000000 in
theorem e_X1_collect {d : Nat} (hd : 4 ≤ d) {g0 g1 g2 g3 g6 g7 g8 g9 : List pm_E} {q : Nat × Nat × Nat} {s4 : cs_S} {s5 : cs_S} {a0 : Int32} {z5 : cs_S} (H : f_X1_collect s4 s5 a0 = some z5) : pm_Mt 23 d [.ref 320, .int a0] (cl_h g0 g1 g2 g3 (ct_p4 s4) (ct_e5 (.ref 256) (.ref 384) s5) g6 g7 g8 g9 q) (.inl (none)) (cl_h g0 g1 g2 g3 (ct_p4 s4) (ct_e5 (.ref 256) (.ref 384) z5) g6 g7 g8 g9 q) := by
  refine pm_Mt.of (by decide) (by decide +kernel) rfl rfl ?_
  obtain ⟨d, rfl⟩ : ∃ d', d = d' + 1 := ⟨d - 1, by omega⟩
  unfold f_X1_collect at H
  cases q2 : f_X4_collect s5 a0 with
  | none => rw [q2] at H; cases H
  | some s5_1 =>
   rw [q2] at H
   dsimp only at H
   refine pm_Wg.path (k := 3) (ds := []) (f' := (5, [some (.ref 320), some (.int a0), none], [.int a0, .ref 351], cl_h g0 g1 g2 g3 (ct_p4 s4) (ct_e5 (.ref 256) (.ref 384) s5) g6 g7 g8 g9 q)) tk_X1_collect (by omega) rfl trivial ?_
   refine pm_Wg.callV (m' := 68) (ix := 288) (rr := 80) (pl := 714) (b := 351) (As := [.int a0]) (S := []) (by decide) rfl (pm_dec tk_X1_collect rfl) rfl rfl (by decide) rfl rfl (by decide) (Nat.le_of_ble_eq_true rfl) rfl (e_X4_collect (by omega) q2) ?_
   refine pm_Wg.path (k := 2) (ds := []) (f' := (10, [some (.ref 320), some (.int a0), some (.int 0)], [], cl_h g0 g1 g2 g3 (ct_p4 s4) (ct_e5 (.ref 256) (.ref 384) s5_1) g6 g7 g8 g9 q)) tk_X1_collect (by omega) rfl trivial ?_
   exact ll_X1_collect_10 (by omega) (fun e => e = z5) (fun e he => he) pm_fu _ _ _ _ H rfl

def f_X1_endService (s4 : cs_S) (s5 : cs_S) (a0 : Int32) : Option (cs_S) :=
  (match pm_inb a0 7 with
  | false => none
  | true =>
  (if (s5.2.1 14 (Int32.toNatClampNeg a0)) = (-1) then
   some s5
  else
   (if (s5.2.1 15 (Int32.toNatClampNeg a0)) = (s5.1 0 4) then
    (match f_X0_release s5 a0 with
    | none => none
    | some (r5, s5_6) =>
     (match f_X5_stripeBehind s5_6 r5 with
     | none => none
     | some r8 =>
      (match f_X3_isOfRebuild r5 with
      | none => none
      | some r10 =>
       (if r10 = 0 then
        (match f_X3_requestBehind r5 with
        | none => none
        | some r14 =>
         (match pm_inb r14 400 with
         | false => none
         | true =>
         (if (s5_6.2.1 22 (Int32.toNatClampNeg r14)) = 1 then
          (match f_X1_endWrite s4 s5_6 a0 r8 with
          | none => none
          | some s5_18 =>
           (match f_X5_endOperation s5_18 r14 (s5_18.1 0 4) with
           | none => none
           | some s5_20 =>
            some s5_20))
         else
          (match f_X1_endRead s4 s5_6 a0 r8 0 with
          | none => none
          | some s5_22 =>
           (match f_X5_endOperation s5_22 r14 (s5_22.1 0 4) with
           | none => none
           | some s5_24 =>
            some s5_24)))))
       else
        (if a0 = (s4.1 0 0) then
         (match f_X4_end s5_6 r8 (s4.1 0 1) (s5_6.1 0 4) with
         | none => none
         | some s5_26 =>
          some s5_26)
        else
         (match f_X1_endRead s4 s5_6 a0 r8 1 with
         | none => none
         | some s5_28 =>
          some s5_28))))))
   else
    some s5)))
def tb_X1_endService : List pm_I := [(0, .aload_n 0, 0, 0), (1, .getfield 31, 109, 0), (4, .getfield 213, 33, 0), (7, .iload_n 1, 0, 0), (8, .iaload, 0, 0), (9, .iconst (-1), 1, 0), (10, .if_icmp .eq 19, 29, 0), (13, .aload_n 0, 0, 0), (14, .getfield 31, 109, 0), (17, .getfield 220, 36, 0), (20, .iload_n 1, 0, 0), (21, .iaload, 0, 0), (22, .aload_n 0, 0, 0), (23, .getfield 18, 105, 0), (26, .if_icmp .eq 4, 30, 0), (29, .return_, 0, 0), (30, .aload_n 0, 0, 0), (31, .getfield 31, 109, 0), (34, .iload_n 1, 0, 0), (35, .invokevirtual 157, 38, 0), (38, .istore_n 2, 0, 0), (39, .aload_n 0, 0, 0), (40, .getfield 38, 111, 0), (43, .iload_n 2, 0, 0), (44, .invokevirtual 226, 39, 0), (47, .istore_n 3, 0, 0), (48, .iload_n 2, 0, 0), (49, .invokestatic 175, 43, 0), (52, .ifCond .eq 44, 96, 0), (55, .iload_n 1, 0, 0), (56, .aload_n 0, 0, 0), (57, .getfield 49, 97, 0), (60, .getfield 112, 116, 0), (63, .if_icmp .ne 25, 88, 0), (66, .aload_n 0, 0, 0), (67, .getfield 45, 113, 0), (70, .iload_n 3, 0, 0), (71, .aload_n 0, 0, 0), (72, .getfield 49, 97, 0), (75, .getfield 151, 120, 0), (78, .aload_n 0, 0, 0), (79, .getfield 18, 105, 0), (82, .invokevirtual 229, 44, 0), (85, .goto 10, 95, 0), (88, .aload_n 0, 0, 0), (89, .iload_n 1, 0, 0), (90, .iload_n 3, 0, 0), (91, .iconst 1, 3, 0), (92, .invokevirtual 232, 45, 0), (95, .return_, 0, 0), (96, .iload_n 2, 0, 0), (97, .invokestatic 179, 59, 0), (100, .istore 4, 0, 0), (102, .aload_n 0, 0, 0), (103, .getfield 38, 111, 0), (106, .getfield 182, 53, 0), (109, .iload 4, 0, 0), (111, .iaload, 0, 0), (112, .iconst 1, 3, 0), (113, .if_icmp .ne 12, 125, 0), (116, .aload_n 0, 0, 0), (117, .iload_n 1, 0, 0), (118, .iload_n 3, 0, 0), (119, .invokevirtual 236, 60, 0), (122, .goto 10, 132, 0), (125, .aload_n 0, 0, 0), (126, .iload_n 1, 0, 0), (127, .iload_n 3, 0, 0), (128, .iconst 0, 2, 0), (129, .invokevirtual 232, 45, 0), (132, .aload_n 0, 0, 0), (133, .getfield 38, 111, 0), (136, .iload 4, 0, 0), (138, .aload_n 0, 0, 0), (139, .getfield 18, 105, 0), (142, .invokevirtual 185, 62, 0), (145, .return_, 0, 0)]
theorem tk_X1_endService : ∀ e ∈ tb_X1_endService, pm_ck 18 e = true := List.all_eq_true.mp (by decide +kernel)
set_option maxRecDepth 20000 in
set_option maxHeartbeats 20000000 in
theorem e_X1_endService {d : Nat} (hd : 5 ≤ d) {g0 g1 g2 g3 g6 g7 g8 g9 : List pm_E} {q : Nat × Nat × Nat} {s4 : cs_S} {s5 : cs_S} {a0 : Int32} {z5 : cs_S} (H : f_X1_endService s4 s5 a0 = some z5) : pm_Mt 18 d [.ref 320, .int a0] (cl_h g0 g1 g2 g3 (ct_p4 s4) (ct_e5 (.ref 256) (.ref 384) s5) g6 g7 g8 g9 q) (.inl (none)) (cl_h g0 g1 g2 g3 (ct_p4 s4) (ct_e5 (.ref 256) (.ref 384) z5) g6 g7 g8 g9 q) := by
  refine pm_Mt.of (by decide) (by decide +kernel) rfl rfl ?_
  obtain ⟨d, rfl⟩ : ∃ d', d = d' + 1 := ⟨d - 1, by omega⟩
  unfold f_X1_endService at H
  cases b1 : pm_inb a0 7 with
  | false => rw [b1] at H; cases H
  | true =>
   rw [b1] at H
   dsimp only at H
   by_cases h2 : (s5.2.1 14 (Int32.toNatClampNeg a0)) = (-1)
   · rw [if_pos h2] at H
     have J := Option.some.inj H
     subst J
     refine pm_Wg.path (k := 7) (ds := [1]) (f' := (29, [some (.ref 320), some (.int a0), none, none, none], [], cl_h g0 g1 g2 g3 (ct_p4 s4) (ct_e5 (.ref 256) (.ref 384) s5) g6 g7 g8 g9 q)) tk_X1_endService (by omega) rfl ⟨h2, pm_inb_vp b1, trivial⟩ ?_
     exact pm_Wg.vret (pm_dec tk_X1_endService rfl) rfl
   · rw [if_neg h2] at H
     by_cases h4 : (s5.2.1 15 (Int32.toNatClampNeg a0)) = (s5.1 0 4)
     · rw [if_pos h4] at H
       cases q7 : f_X0_release s5 a0 with
       | none => rw [q7] at H; cases H
       | some w =>
        obtain ⟨r5, s5_6⟩ := w
        rw [q7] at H
        dsimp only at H
        refine pm_Wg.path (k := 18) (ds := [0, 1]) (f' := (35, [some (.ref 320), some (.int a0), none, none, none], [.int a0, .ref 333], cl_h g0 g1 g2 g3 (ct_p4 s4) (ct_e5 (.ref 256) (.ref 384) s5) g6 g7 g8 g9 q)) tk_X1_endService (by omega) rfl ⟨h4, pm_inb_vp b1, h2, pm_inb_vp b1, trivial⟩ ?_
        refine pm_Wg.callV (m' := 4) (ix := 157) (rr := 38) (pl := 572) (b := 333) (As := [.int a0]) (S := []) (by decide) rfl (pm_dec tk_X1_endService rfl) rfl rfl (by decide) rfl rfl (by decide) (Nat.le_of_ble_eq_true rfl) rfl (e_X0_release (by omega) q7) ?_
        cases q9 : f_X5_stripeBehind s5_6 r5 with
        | none => rw [q9] at H; cases H
        | some r8 =>
         rw [q9] at H
         dsimp only at H
         refine pm_Wg.path (k := 4) (ds := []) (f' := (44, [some (.ref 320), some (.int a0), some (.int r5), none, none], [.int r5, .ref 339], cl_h g0 g1 g2 g3 (ct_p4 s4) (ct_e5 (.ref 256) (.ref 384) s5_6) g6 g7 g8 g9 q)) tk_X1_endService (by omega) rfl trivial ?_
         refine pm_Wg.callV (m' := 77) (ix := 226) (rr := 39) (pl := 576) (b := 339) (As := [.int r5]) (S := []) (by decide) rfl (pm_dec tk_X1_endService rfl) rfl rfl (by decide) rfl rfl (by decide) (Nat.le_of_ble_eq_true rfl) rfl (e_X5_stripeBehind (by omega) q9) ?_
         cases q11 : f_X3_isOfRebuild r5 with
         | none => rw [q11] at H; cases H
         | some r10 =>
          rw [q11] at H
          dsimp only at H
          refine pm_Wg.path (k := 2) (ds := []) (f' := (49, [some (.ref 320), some (.int a0), some (.int r5), some (.int r8), none], [.int r5], cl_h g0 g1 g2 g3 (ct_p4 s4) (ct_e5 (.ref 256) (.ref 384) s5_6) g6 g7 g8 g9 q)) tk_X1_endService (by omega) rfl trivial ?_
          refine pm_Wg.callS (m' := 45) (ix := 175) (rr := 43) (pl := 589) (As := [.int r5]) (S := []) (by decide) rfl (pm_dec tk_X1_endService rfl) rfl rfl rfl (Nat.le_of_ble_eq_true rfl) rfl (e_X3_isOfRebuild (by omega) q11) ?_
          by_cases h12 : r10 = 0
          · rw [if_pos h12] at H
            cases q15 : f_X3_requestBehind r5 with
            | none => rw [q15] at H; cases H
            | some r14 =>
             rw [q15] at H
             dsimp only at H
             refine pm_Wg.path (k := 2) (ds := [1]) (f' := (97, [some (.ref 320), some (.int a0), some (.int r5), some (.int r8), none], [.int r5], cl_h g0 g1 g2 g3 (ct_p4 s4) (ct_e5 (.ref 256) (.ref 384) s5_6) g6 g7 g8 g9 q)) tk_X1_endService (by omega) rfl ⟨h12, trivial⟩ ?_
             refine pm_Wg.callS (m' := 47) (ix := 179) (rr := 59) (pl := 646) (As := [.int r5]) (S := []) (by decide) rfl (pm_dec tk_X1_endService rfl) rfl rfl rfl (Nat.le_of_ble_eq_true rfl) rfl (e_X3_requestBehind (by omega) q15) ?_
             cases b16 : pm_inb r14 400 with
             | false => rw [b16] at H; cases H
             | true =>
              rw [b16] at H
              dsimp only at H
              by_cases h17 : (s5_6.2.1 22 (Int32.toNatClampNeg r14)) = 1
              · rw [if_pos h17] at H
                cases q19 : f_X1_endWrite s4 s5_6 a0 r8 with
                | none => rw [q19] at H; cases H
                | some s5_18 =>
                 rw [q19] at H
                 dsimp only at H
                 refine pm_Wg.path (k := 11) (ds := [0]) (f' := (119, [some (.ref 320), some (.int a0), some (.int r5), some (.int r8), some (.int r14)], [.int r8, .int a0, .ref 320], cl_h g0 g1 g2 g3 (ct_p4 s4) (ct_e5 (.ref 256) (.ref 384) s5_6) g6 g7 g8 g9 q)) tk_X1_endService (by omega) rfl ⟨h17, pm_inb_vp b16, trivial⟩ ?_
                 refine pm_Wg.callV (m' := 20) (ix := 236) (rr := 60) (pl := 647) (b := 320) (As := [.int a0, .int r8]) (S := []) (by decide) rfl (pm_dec tk_X1_endService rfl) rfl rfl (by decide) rfl rfl (by decide) (Nat.le_of_ble_eq_true rfl) rfl (e_X1_endWrite (by omega) q19) ?_
                 cases q21 : f_X5_endOperation s5_18 r14 (s5_18.1 0 4) with
                 | none => rw [q21] at H; cases H
                 | some s5_20 =>
                  rw [q21] at H
                  dsimp only at H
                  refine pm_Wg.path (k := 6) (ds := []) (f' := (142, [some (.ref 320), some (.int a0), some (.int r5), some (.int r8), some (.int r14)], [.int (s5_18.1 0 4), .int r14, .ref 339], cl_h g0 g1 g2 g3 (ct_p4 s4) (ct_e5 (.ref 256) (.ref 384) s5_18) g6 g7 g8 g9 q)) tk_X1_endService (by omega) rfl trivial ?_
                  refine pm_Wg.callV (m' := 78) (ix := 185) (rr := 62) (pl := 655) (b := 339) (As := [.int r14, .int (s5_18.1 0 4)]) (S := []) (by decide) rfl (pm_dec tk_X1_endService rfl) rfl rfl (by decide) rfl rfl (by decide) (Nat.le_of_ble_eq_true rfl) rfl (e_X5_endOperation (by omega) q21) ?_
                  have J := Option.some.inj H
                  subst J
                  exact pm_Wg.vret (pm_dec tk_X1_endService rfl) rfl
              · rw [if_neg h17] at H
                cases q23 : f_X1_endRead s4 s5_6 a0 r8 0 with
                | none => rw [q23] at H; cases H
                | some s5_22 =>
                 rw [q23] at H
                 dsimp only at H
                 refine pm_Wg.path (k := 12) (ds := [1]) (f' := (129, [some (.ref 320), some (.int a0), some (.int r5), some (.int r8), some (.int r14)], [.int 0, .int r8, .int a0, .ref 320], cl_h g0 g1 g2 g3 (ct_p4 s4) (ct_e5 (.ref 256) (.ref 384) s5_6) g6 g7 g8 g9 q)) tk_X1_endService (by omega) rfl ⟨h17, pm_inb_vp b16, trivial⟩ ?_
                 refine pm_Wg.callV (m' := 19) (ix := 232) (rr := 45) (pl := 594) (b := 320) (As := [.int a0, .int r8, .int 0]) (S := []) (by decide) rfl (pm_dec tk_X1_endService rfl) rfl rfl (by decide) rfl rfl (by decide) (Nat.le_of_ble_eq_true rfl) rfl (e_X1_endRead (by omega) q23) ?_
                 cases q25 : f_X5_endOperation s5_22 r14 (s5_22.1 0 4) with
                 | none => rw [q25] at H; cases H
                 | some s5_24 =>
                  rw [q25] at H
                  dsimp only at H
                  refine pm_Wg.path (k := 5) (ds := []) (f' := (142, [some (.ref 320), some (.int a0), some (.int r5), some (.int r8), some (.int r14)], [.int (s5_22.1 0 4), .int r14, .ref 339], cl_h g0 g1 g2 g3 (ct_p4 s4) (ct_e5 (.ref 256) (.ref 384) s5_22) g6 g7 g8 g9 q)) tk_X1_endService (by omega) rfl trivial ?_
                  refine pm_Wg.callV (m' := 78) (ix := 185) (rr := 62) (pl := 655) (b := 339) (As := [.int r14, .int (s5_22.1 0 4)]) (S := []) (by decide) rfl (pm_dec tk_X1_endService rfl) rfl rfl (by decide) rfl rfl (by decide) (Nat.le_of_ble_eq_true rfl) rfl (e_X5_endOperation (by omega) q25) ?_
                  have J := Option.some.inj H
                  subst J
                  exact pm_Wg.vret (pm_dec tk_X1_endService rfl) rfl
          · rw [if_neg h12] at H
            by_cases h13 : a0 = (s4.1 0 0)
            · rw [if_pos h13] at H
              cases q27 : f_X4_end s5_6 r8 (s4.1 0 1) (s5_6.1 0 4) with
              | none => rw [q27] at H; cases H
              | some s5_26 =>
               rw [q27] at H
               dsimp only at H
               refine pm_Wg.path (k := 14) (ds := [0, 0]) (f' := (82, [some (.ref 320), some (.int a0), some (.int r5), some (.int r8), none], [.int (s5_6.1 0 4), .int (s4.1 0 1), .int r8, .ref 351], cl_h g0 g1 g2 g3 (ct_p4 s4) (ct_e5 (.ref 256) (.ref 384) s5_6) g6 g7 g8 g9 q)) tk_X1_endService (by omega) rfl ⟨h13, h12, trivial⟩ ?_
               refine pm_Wg.callV (m' := 69) (ix := 229) (rr := 44) (pl := 590) (b := 351) (As := [.int r8, .int (s4.1 0 1), .int (s5_6.1 0 4)]) (S := []) (by decide) rfl (pm_dec tk_X1_endService rfl) rfl rfl (by decide) rfl rfl (by decide) (Nat.le_of_ble_eq_true rfl) rfl (e_X4_end (by omega) q27) ?_
               have J := Option.some.inj H
               subst J
               refine pm_Wg.path (k := 1) (ds := []) (f' := (95, [some (.ref 320), some (.int a0), some (.int r5), some (.int r8), none], [], cl_h g0 g1 g2 g3 (ct_p4 s4) (ct_e5 (.ref 256) (.ref 384) s5_26) g6 g7 g8 g9 q)) tk_X1_endService (by omega) rfl trivial ?_
               exact pm_Wg.vret (pm_dec tk_X1_endService rfl) rfl
            · rw [if_neg h13] at H
              cases q29 : f_X1_endRead s4 s5_6 a0 r8 1 with
              | none => rw [q29] at H; cases H
              | some s5_28 =>
               rw [q29] at H
               dsimp only at H
               refine pm_Wg.path (k := 10) (ds := [0, 1]) (f' := (92, [some (.ref 320), some (.int a0), some (.int r5), some (.int r8), none], [.int 1, .int r8, .int a0, .ref 320], cl_h g0 g1 g2 g3 (ct_p4 s4) (ct_e5 (.ref 256) (.ref 384) s5_6) g6 g7 g8 g9 q)) tk_X1_endService (by omega) rfl ⟨h13, h12, trivial⟩ ?_
               refine pm_Wg.callV (m' := 19) (ix := 232) (rr := 45) (pl := 594) (b := 320) (As := [.int a0, .int r8, .int 1]) (S := []) (by decide) rfl (pm_dec tk_X1_endService rfl) rfl rfl (by decide) rfl rfl (by decide) (Nat.le_of_ble_eq_true rfl) rfl (e_X1_endRead (by omega) q29) ?_
               have J := Option.some.inj H
               subst J
               exact pm_Wg.vret (pm_dec tk_X1_endService rfl) rfl
     · rw [if_neg h4] at H
       have J := Option.some.inj H
       subst J
       refine pm_Wg.path (k := 15) (ds := [0, 0]) (f' := (29, [some (.ref 320), some (.int a0), none, none, none], [], cl_h g0 g1 g2 g3 (ct_p4 s4) (ct_e5 (.ref 256) (.ref 384) s5) g6 g7 g8 g9 q)) tk_X1_endService (by omega) rfl ⟨h4, pm_inb_vp b1, h2, pm_inb_vp b1, trivial⟩ ?_
       exact pm_Wg.vret (pm_dec tk_X1_endService rfl) rfl

def lb_X1_startStripes_14 (s4 : cs_S) (x : cs_S × Int32) : Option ((cs_S × Int32) ⊕ (cs_S)) := match x with
  | (s5, l1) =>
   (if (s4.1 0 1) ≤ l1 then
    some (.inr s5)
   else
    (if (s4.1 0 4) ≤ (s5.1 31 3) then
     some (.inr s5)
    else
     (match pm_inb l1 64 with
     | false => none
     | true =>
     (if (s5.2.1 32 (Int32.toNatClampNeg l1)) = 0 then
      (match f_X1_collect s4 s5 l1 with
      | none => none
      | some s5_6 =>
       some (.inl (s5_6, (l1 + 1))))
     else
      some (.inl (s5, (l1 + 1)))))))
def f_X1_startStripes (s4 : cs_S) (s5 : cs_S) : Option (cs_S) :=
  (if (s5.1 31 0) = (-1) then
   some s5
  else
   (pm_loop pm_fu (lb_X1_startStripes_14 s4) (s5, 0)))
def tb_X1_startStripes : List pm_I := [(0, .aload_n 0, 0, 0), (1, .getfield 45, 113, 0), (4, .getfield 102, 71, 0), (7, .iconst (-1), 1, 0), (8, .if_icmp .ne 4, 12, 0), (11, .return_, 0, 0), (12, .iconst 0, 2, 0), (13, .istore_n 1, 0, 0), (14, .iload_n 1, 0, 0), (15, .aload_n 0, 0, 0), (16, .getfield 49, 97, 0), (19, .getfield 151, 120, 0), (22, .if_icmp .ge 43, 65, 0), (25, .aload_n 0, 0, 0), (26, .getfield 45, 113, 0), (29, .getfield 279, 78, 0), (32, .aload_n 0, 0, 0), (33, .getfield 49, 97, 0), (36, .getfield 282, 126, 0), (39, .if_icmp .ge 26, 65, 0), (42, .aload_n 0, 0, 0), (43, .getfield 45, 113, 0), (46, .getfield 108, 74, 0), (49, .iload_n 1, 0, 0), (50, .iaload, 0, 0), (51, .ifCond .ne 8, 59, 0), (54, .aload_n 0, 0, 0), (55, .iload_n 1, 0, 0), (56, .invokevirtual 285, 79, 0), (59, .iinc 1 1, 3, 0), (62, .goto (-48), 14, 0), (65, .return_, 0, 0)]
theorem tk_X1_startStripes : ∀ e ∈ tb_X1_startStripes, pm_ck 22 e = true := List.all_eq_true.mp (by decide +kernel)
set_option maxRecDepth 20000 in
set_option maxHeartbeats 40000000 in
theorem ll_X1_startStripes_14 {d : Nat} (hd : 5 ≤ d) {g0 g1 g2 g3 g6 g7 g8 g9 : List pm_E} {q : Nat × Nat × Nat} {s4 : cs_S} {z5 : cs_S} (P : cs_S → Prop) (K0 : ∀ e : cs_S, P (e) → e = z5) : ∀ (n : Nat) (s5 : cs_S) (l1 : Int32) (e : cs_S), pm_loop n (lb_X1_startStripes_14 s4) (s5, l1) = some e → P e → pm_Wg 22 d (.inl (none)) (cl_h g0 g1 g2 g3 (ct_p4 s4) (ct_e5 (.ref 256) (.ref 384) z5) g6 g7 g8 g9 q) (14, [some (.ref 320), some (.int l1)], [], cl_h g0 g1 g2 g3 (ct_p4 s4) (ct_e5 (.ref 256) (.ref 384) s5) g6 g7 g8 g9 q) := by
  intro n
  induction n with
  | zero => intro s5 l1 e H; cases H
  | succ n ih =>
    intro s5 l1 e H hPe
    obtain ⟨d, rfl⟩ : ∃ d', d = d' + 1 := ⟨d - 1, by omega⟩
    have H : pm_lst (pm_loop n (lb_X1_startStripes_14 s4)) (lb_X1_startStripes_14 s4 (s5, l1)) = some e := H
    generalize pm_loop n (lb_X1_startStripes_14 s4) = LB at H ih
    unfold lb_X1_startStripes_14 at H
    try dsimp only at H
    by_cases h2 : (s4.1 0 1) ≤ l1
    · rw [if_pos h2] at H
      have He := Option.some.inj H
      subst He
      have J := K0 _ hPe
      subst J
      refine pm_Wg.path (k := 5) (ds := [1]) (f' := (65, [some (.ref 320), some (.int l1)], [], cl_h g0 g1 g2 g3 (ct_p4 s4) (ct_e5 (.ref 256) (.ref 384) s5) g6 g7 g8 g9 q)) tk_X1_startStripes (by omega) rfl ⟨h2, trivial⟩ ?_
      exact pm_Wg.vret (pm_dec tk_X1_startStripes rfl) rfl
    · rw [if_neg h2] at H
      by_cases h3 : (s4.1 0 4) ≤ (s5.1 31 3)
      · rw [if_pos h3] at H
        have He := Option.some.inj H
        subst He
        have J := K0 _ hPe
        subst J
        refine pm_Wg.path (k := 12) (ds := [0, 1]) (f' := (65, [some (.ref 320), some (.int l1)], [], cl_h g0 g1 g2 g3 (ct_p4 s4) (ct_e5 (.ref 256) (.ref 384) s5) g6 g7 g8 g9 q)) tk_X1_startStripes (by omega) rfl ⟨h3, h2, trivial⟩ ?_
        exact pm_Wg.vret (pm_dec tk_X1_startStripes rfl) rfl
      · rw [if_neg h3] at H
        cases b4 : pm_inb l1 64 with
        | false => rw [b4] at H; cases H
        | true =>
         rw [b4] at H
         dsimp only at H
         by_cases h5 : (s5.2.1 32 (Int32.toNatClampNeg l1)) = 0
         · rw [if_pos h5] at H
           cases q7 : f_X1_collect s4 s5 l1 with
           | none => rw [q7] at H; cases H
           | some s5_6 =>
            rw [q7] at H
            dsimp only at H
            refine pm_Wg.path (k := 20) (ds := [0, 0, 0]) (f' := (56, [some (.ref 320), some (.int l1)], [.int l1, .ref 320], cl_h g0 g1 g2 g3 (ct_p4 s4) (ct_e5 (.ref 256) (.ref 384) s5) g6 g7 g8 g9 q)) tk_X1_startStripes (by omega) rfl ⟨h5, pm_inb_vp b4, h3, h2, trivial⟩ ?_
            refine pm_Wg.callV (m' := 23) (ix := 285) (rr := 79) (pl := 710) (b := 320) (As := [.int l1]) (S := []) (by decide) rfl (pm_dec tk_X1_startStripes rfl) rfl rfl (by decide) rfl rfl (by decide) (Nat.le_of_ble_eq_true rfl) rfl (e_X1_collect (by omega) q7) ?_
            refine pm_Wg.path (k := 2) (ds := []) (f' := (14, [some (.ref 320), some (.int (l1 + 1))], [], cl_h g0 g1 g2 g3 (ct_p4 s4) (ct_e5 (.ref 256) (.ref 384) s5_6) g6 g7 g8 g9 q)) tk_X1_startStripes (by omega) rfl trivial ?_
            exact ih _ _ e H hPe
         · rw [if_neg h5] at H
           refine pm_Wg.path (k := 20) (ds := [0, 0, 1]) (f' := (14, [some (.ref 320), some (.int (l1 + 1))], [], cl_h g0 g1 g2 g3 (ct_p4 s4) (ct_e5 (.ref 256) (.ref 384) s5) g6 g7 g8 g9 q)) tk_X1_startStripes (by omega) rfl ⟨h5, pm_inb_vp b4, h3, h2, trivial⟩ ?_
           exact ih _ _ e H hPe
set_option maxRecDepth 20000 in
set_option maxHeartbeats 20000000 in
theorem e_X1_startStripes {d : Nat} (hd : 5 ≤ d) {g0 g1 g2 g3 g6 g7 g8 g9 : List pm_E} {q : Nat × Nat × Nat} {s4 : cs_S} {s5 : cs_S} {z5 : cs_S} (H : f_X1_startStripes s4 s5 = some z5) : pm_Mt 22 d [.ref 320] (cl_h g0 g1 g2 g3 (ct_p4 s4) (ct_e5 (.ref 256) (.ref 384) s5) g6 g7 g8 g9 q) (.inl (none)) (cl_h g0 g1 g2 g3 (ct_p4 s4) (ct_e5 (.ref 256) (.ref 384) z5) g6 g7 g8 g9 q) := by
  refine pm_Mt.of (by decide) (by decide +kernel) rfl rfl ?_
  obtain ⟨d, rfl⟩ : ∃ d', d = d' + 1 := ⟨d - 1, by omega⟩
  unfold f_X1_startStripes at H
  by_cases h1 : (s5.1 31 0) = (-1)
  · rw [if_pos h1] at H
    have J := Option.some.inj H
    subst J
    refine pm_Wg.path (k := 5) (ds := [0]) (f' := (11, [some (.ref 320), none], [], cl_h g0 g1 g2 g3 (ct_p4 s4) (ct_e5 (.ref 256) (.ref 384) s5) g6 g7 g8 g9 q)) tk_X1_startStripes (by omega) rfl ⟨h1, trivial⟩ ?_
    exact pm_Wg.vret (pm_dec tk_X1_startStripes rfl) rfl
  · rw [if_neg h1] at H
    refine pm_Wg.path (k := 7) (ds := [1]) (f' := (14, [some (.ref 320), some (.int 0)], [], cl_h g0 g1 g2 g3 (ct_p4 s4) (ct_e5 (.ref 256) (.ref 384) s5) g6 g7 g8 g9 q)) tk_X1_startStripes (by omega) rfl ⟨h1, trivial⟩ ?_
    exact ll_X1_startStripes_14 (by omega) (fun e => e = z5) (fun e he => he) pm_fu _ _ _ H rfl

def lb_X1_loseDisk_67 (s4 : cs_S) (x : cs_S × Int32 × Int32 × Int32 × Int32 × Int32 × Int32) : Option ((cs_S × Int32 × Int32 × Int32 × Int32 × Int32 × Int32) ⊕ ((cs_S × Int32 × Int32 × Int32 × Int32) ⊕ (Int32 × cs_S))) := match x with
  | (s5, l1, l2, l3, l4, l5, l6) =>
   (if l6 ≤ 0 then
    some (.inr (.inl (s5, l1, l2, l3, (l4 + 1))))
   else
    (match f_X3_removeFirst s5 l5 with
    | none => none
    | some (r12, s5_13) =>
     (match f_X1_loseOperation s4 s5_13 r12 with
     | none => none
     | some s5_15 =>
      some (.inl (s5_15, l1, (l2 + 1), l3, l4, l5, (l6 + (-1)))))))
def lb_X1_loseDisk_35 (s4 : cs_S) (x : cs_S × Int32 × Int32 × Int32 × Int32) : Option ((cs_S × Int32 × Int32 × Int32 × Int32) ⊕ (Int32 × cs_S)) := match x with
  | (s5, l1, l2, l3, l4) =>
   (if (s4.1 0 7) ≤ l4 then
    (match f_X1_startStripes s4 s5 with
    | none => none
    | some s5_6 =>
     some (.inr (l2, s5_6)))
   else
    (match f_X3_numberOf l1 l4 with
    | none => none
    | some r8 =>
     (match pm_inb r8 42 with
     | false => none
     | true =>
     (pm_loop pm_fu (lb_X1_loseDisk_67 s4) (s5, l1, l2, l3, l4, r8, (s5.2.1 4 (Int32.toNatClampNeg r8)))))))
def f_X1_loseDisk (s4 : cs_S) (s5 : cs_S) (a0 : Int32) : Option (Int32 × cs_S) :=
  (match f_X0_release (cs_i s5 31 0 a0) a0 with
  | none => none
  | some (r1, s5_2) =>
   (if r1 = (-1) then
    (pm_loop pm_fu (lb_X1_loseDisk_35 s4) (s5_2, a0, 0, r1, 0))
   else
    (match f_X1_loseOperation s4 s5_2 r1 with
    | none => none
    | some s5_19 =>
     (pm_loop pm_fu (lb_X1_loseDisk_35 s4) (s5_19, a0, (0 + 1), r1, 0)))))
def tb_X1_loseDisk : List pm_I := [(0, .aload_n 0, 0, 0), (1, .getfield 45, 113, 0), (4, .iload_n 1, 0, 0), (5, .putfield 102, 71, 0), (8, .iconst 0, 2, 0), (9, .istore_n 2, 0, 0), (10, .aload_n 0, 0, 0), (11, .getfield 31, 109, 0), (14, .iload_n 1, 0, 0), (15, .invokevirtual 157, 38, 0), (18, .istore_n 3, 0, 0), (19, .iload_n 3, 0, 0), (20, .iconst (-1), 1, 0), (21, .if_icmp .eq 11, 32, 0), (24, .aload_n 0, 0, 0), (25, .iload_n 3, 0, 0), (26, .invokevirtual 160, 170, 0), (29, .iinc 2 1, 3, 0), (32, .iconst 0, 2, 0), (33, .istore 4, 0, 0), (35, .iload 4, 0, 0), (37, .aload_n 0, 0, 0), (38, .getfield 49, 97, 0), (41, .getfield 163, 134, 0), (44, .if_icmp .ge 56, 100, 0), (47, .iload_n 1, 0, 0), (48, .iload 4, 0, 0), (50, .invokestatic 134, 48, 0), (53, .istore 5, 0, 0), (55, .aload_n 0, 0, 0), (56, .getfield 24, 107, 0), (59, .getfield 166, 19, 0), (62, .iload 5, 0, 0), (64, .iaload, 0, 0), (65, .istore 6, 0, 0), (67, .iload 6, 0, 0), (69, .ifCond .le 25, 94, 0), (72, .aload_n 0, 0, 0), (73, .aload_n 0, 0, 0), (74, .getfield 24, 107, 0), (77, .iload 5, 0, 0), (79, .invokevirtual 169, 85, 0), (82, .invokevirtual 160, 170, 0), (85, .iinc 2 1, 3, 0), (88, .iinc 6 (-1), 1, 0), (91, .goto (-24), 67, 0), (94, .iinc 4 1, 3, 0), (97, .goto (-62), 35, 0), (100, .aload_n 0, 0, 0), (101, .invokevirtual 172, 78, 0), (104, .iload_n 2, 0, 0), (105, .ireturn, 0, 0)]
theorem tk_X1_loseDisk : ∀ e ∈ tb_X1_loseDisk, pm_ck 14 e = true := List.all_eq_true.mp (by decide +kernel)
set_option maxRecDepth 20000 in
set_option maxHeartbeats 40000000 in
theorem ll_X1_loseDisk_67 {d : Nat} (hd : 6 ≤ d) {g0 g1 g2 g3 g6 g7 g8 g9 : List pm_E} {q : Nat × Nat × Nat} {s4 : cs_S} {r : Int32} {z5 : cs_S} (P : (cs_S × Int32 × Int32 × Int32 × Int32) ⊕ (Int32 × cs_S) → Prop) (K1 : ∀ (s5 : cs_S) (l1 : Int32) (l2 : Int32) (l3 : Int32) (l4 : Int32), P (.inl (s5, l1, l2, l3, l4)) → pm_Wg 14 d (.inl (some (.int r))) (cl_h g0 g1 g2 g3 (ct_p4 s4) (ct_e5 (.ref 256) (.ref 384) z5) g6 g7 g8 g9 q) (35, [some (.ref 320), some (.int l1), some (.int l2), some (.int l3), some (.int l4), none, none], [], cl_h g0 g1 g2 g3 (ct_p4 s4) (ct_e5 (.ref 256) (.ref 384) s5) g6 g7 g8 g9 q)) (K0 : ∀ e : Int32 × cs_S, P (.inr e) → e = (r, z5)) : ∀ (n : Nat) (s5 : cs_S) (l1 : Int32) (l2 : Int32) (l3 : Int32) (l4 : Int32) (l5 : Int32) (l6 : Int32) (e : (cs_S × Int32 × Int32 × Int32 × Int32) ⊕ (Int32 × cs_S)), pm_loop n (lb_X1_loseDisk_67 s4) (s5, l1, l2, l3, l4, l5, l6) = some e → P e → pm_Wg 14 d (.inl (some (.int r))) (cl_h g0 g1 g2 g3 (ct_p4 s4) (ct_e5 (.ref 256) (.ref 384) z5) g6 g7 g8 g9 q) (67, [some (.ref 320), some (.int l1), some (.int l2), some (.int l3), some (.int l4), some (.int l5), some (.int l6)], [], cl_h g0 g1 g2 g3 (ct_p4 s4) (ct_e5 (.ref 256) (.ref 384) s5) g6 g7 g8 g9 q) := by
  intro n
  induction n with
  | zero => intro s5 l1 l2 l3 l4 l5 l6 e H; cases H
  | succ n ih =>
    intro s5 l1 l2 l3 l4 l5 l6 e H hPe
    obtain ⟨d, rfl⟩ : ∃ d', d = d' + 1 := ⟨d - 1, by omega⟩
    have H : pm_lst (pm_loop n (lb_X1_loseDisk_67 s4)) (lb_X1_loseDisk_67 s4 (s5, l1, l2, l3, l4, l5, l6)) = some e := H
    generalize pm_loop n (lb_X1_loseDisk_67 s4) = LB at H ih
    unfold lb_X1_loseDisk_67 at H
    try dsimp only at H
    by_cases h11 : l6 ≤ 0
    · rw [if_pos h11] at H
      have He := Option.some.inj H
      subst He
      refine pm_Wg.path (k := 4) (ds := [1]) (f' := (35, [some (.ref 320), some (.int l1), some (.int l2), some (.int l3), some (.int (l4 + 1)), some (.int l5), some (.int l6)], [], cl_h g0 g1 g2 g3 (ct_p4 s4) (ct_e5 (.ref 256) (.ref 384) s5) g6 g7 g8 g9 q)) tk_X1_loseDisk (by omega) rfl ⟨h11, trivial⟩ ?_
      refine pm_Wg.weak (L := [some (.ref 320), some (.int l1), some (.int l2), some (.int l3), some (.int (l4 + 1)), none, none]) rfl ⟨rfl, rfl, rfl, rfl, rfl, trivial⟩ ?_
      exact K1 _ _ _ _ _ hPe
    · rw [if_neg h11] at H
      cases q14 : f_X3_removeFirst s5 l5 with
      | none => rw [q14] at H; cases H
      | some w =>
       obtain ⟨r12, s5_13⟩ := w
       rw [q14] at H
       dsimp only at H
       refine pm_Wg.path (k := 6) (ds := [0]) (f' := (79, [some (.ref 320), some (.int l1), some (.int l2), some (.int l3), some (.int l4), some (.int l5), some (.int l6)], [.int l5, .ref 321, .ref 320], cl_h g0 g1 g2 g3 (ct_p4 s4) (ct_e5 (.ref 256) (.ref 384) s5) g6 g7 g8 g9 q)) tk_X1_loseDisk (by omega) rfl ⟨h11, trivial⟩ ?_
       refine pm_Wg.callV (m' := 52) (ix := 169) (rr := 85) (pl := 734) (b := 321) (As := [.int l5]) (S := [.ref 320]) (by decide) rfl (pm_dec tk_X1_loseDisk rfl) rfl rfl (by decide) rfl rfl (by decide) (Nat.le_of_ble_eq_true rfl) rfl (e_X3_removeFirst (by omega) q14) ?_
       cases q16 : f_X1_loseOperation s4 s5_13 r12 with
       | none => rw [q16] at H; cases H
       | some s5_15 =>
        rw [q16] at H
        dsimp only at H
        refine pm_Wg.callV (m' := 15) (ix := 160) (rr := 170) (pl := 1223) (b := 320) (As := [.int r12]) (S := []) (by decide) rfl (pm_dec tk_X1_loseDisk rfl) rfl rfl (by decide) rfl rfl (by decide) (Nat.le_of_ble_eq_true rfl) rfl (e_X1_loseOperation (by omega) q16) ?_
        refine pm_Wg.path (k := 3) (ds := []) (f' := (67, [some (.ref 320), some (.int l1), some (.int (l2 + 1)), some (.int l3), some (.int l4), some (.int l5), some (.int (l6 + (-1)))], [], cl_h g0 g1 g2 g3 (ct_p4 s4) (ct_e5 (.ref 256) (.ref 384) s5_15) g6 g7 g8 g9 q)) tk_X1_loseDisk (by omega) rfl trivial ?_
        exact ih _ _ _ _ _ _ _ e H hPe
set_option maxRecDepth 20000 in
set_option maxHeartbeats 40000000 in
theorem ll_X1_loseDisk_35 {d : Nat} (hd : 6 ≤ d) {g0 g1 g2 g3 g6 g7 g8 g9 : List pm_E} {q : Nat × Nat × Nat} {s4 : cs_S} {r : Int32} {z5 : cs_S} (P : Int32 × cs_S → Prop) (K0 : ∀ e : Int32 × cs_S, P (e) → e = (r, z5)) : ∀ (n : Nat) (s5 : cs_S) (l1 : Int32) (l2 : Int32) (l3 : Int32) (l4 : Int32) (e : Int32 × cs_S), pm_loop n (lb_X1_loseDisk_35 s4) (s5, l1, l2, l3, l4) = some e → P e → pm_Wg 14 d (.inl (some (.int r))) (cl_h g0 g1 g2 g3 (ct_p4 s4) (ct_e5 (.ref 256) (.ref 384) z5) g6 g7 g8 g9 q) (35, [some (.ref 320), some (.int l1), some (.int l2), some (.int l3), some (.int l4), none, none], [], cl_h g0 g1 g2 g3 (ct_p4 s4) (ct_e5 (.ref 256) (.ref 384) s5) g6 g7 g8 g9 q) := by
  intro n
  induction n with
  | zero => intro s5 l1 l2 l3 l4 e H; cases H
  | succ n ih =>
    intro s5 l1 l2 l3 l4 e H hPe
    obtain ⟨d, rfl⟩ : ∃ d', d = d' + 1 := ⟨d - 1, by omega⟩
    have H : pm_lst (pm_loop n (lb_X1_loseDisk_35 s4)) (lb_X1_loseDisk_35 s4 (s5, l1, l2, l3, l4)) = some e := H
    generalize pm_loop n (lb_X1_loseDisk_35 s4) = LB at H ih
    unfold lb_X1_loseDisk_35 at H
    try dsimp only at H
    by_cases h5 : (s4.1 0 7) ≤ l4
    · rw [if_pos h5] at H
      cases q7 : f_X1_startStripes s4 s5 with
      | none => rw [q7] at H; cases H
      | some s5_6 =>
       rw [q7] at H
       dsimp only at H
       refine pm_Wg.path (k := 6) (ds := [1]) (f' := (101, [some (.ref 320), some (.int l1), some (.int l2), some (.int l3), some (.int l4), none, none], [.ref 320], cl_h g0 g1 g2 g3 (ct_p4 s4) (ct_e5 (.ref 256) (.ref 384) s5) g6 g7 g8 g9 q)) tk_X1_loseDisk (by omega) rfl ⟨h5, trivial⟩ ?_
       refine pm_Wg.callV (m' := 22) (ix := 172) (rr := 78) (pl := 706) (b := 320) (As := []) (S := []) (by decide) rfl (pm_dec tk_X1_loseDisk rfl) rfl rfl (by decide) rfl rfl (by decide) (Nat.le_of_ble_eq_true rfl) rfl (e_X1_startStripes (by omega) q7) ?_
       have He := Option.some.inj H
       subst He
       have J := K0 _ hPe
       injection J with J0a J0z
       subst J0a
       subst J0z
       refine pm_Wg.path (k := 1) (ds := []) (f' := (105, [some (.ref 320), some (.int l1), some (.int l2), some (.int l3), some (.int l4), none, none], [.int l2], cl_h g0 g1 g2 g3 (ct_p4 s4) (ct_e5 (.ref 256) (.ref 384) s5_6) g6 g7 g8 g9 q)) tk_X1_loseDisk (by omega) rfl trivial ?_
       exact pm_Wg.iret (pm_dec tk_X1_loseDisk rfl) rfl rfl
    · rw [if_neg h5] at H
      cases q9 : f_X3_numberOf l1 l4 with
      | none => rw [q9] at H; cases H
      | some r8 =>
       rw [q9] at H
       dsimp only at H
       refine pm_Wg.path (k := 7) (ds := [0]) (f' := (50, [some (.ref 320), some (.int l1), some (.int l2), some (.int l3), some (.int l4), none, none], [.int l4, .int l1], cl_h g0 g1 g2 g3 (ct_p4 s4) (ct_e5 (.ref 256) (.ref 384) s5) g6 g7 g8 g9 q)) tk_X1_loseDisk (by omega) rfl ⟨h5, trivial⟩ ?_
       refine pm_Wg.callS (m' := 42) (ix := 134) (rr := 48) (pl := 606) (As := [.int l1, .int l4]) (S := []) (by decide) rfl (pm_dec tk_X1_loseDisk rfl) rfl rfl rfl (Nat.le_of_ble_eq_true rfl) rfl (e_X3_numberOf (by omega) q9) ?_
       cases b10 : pm_inb r8 42 with
       | false => rw [b10] at H; cases H
       | true =>
        rw [b10] at H
        dsimp only at H
        cases q17 : pm_loop pm_fu (lb_X1_loseDisk_67 s4) (s5, l1, l2, l3, l4, r8, (s5.2.1 4 (Int32.toNatClampNeg r8))) with
        | none => rw [q17] at H; cases H
        | some e9 =>
         rw [q17] at H
         try dsimp only at H
         refine pm_Wg.path (k := 7) (ds := []) (f' := (67, [some (.ref 320), some (.int l1), some (.int l2), some (.int l3), some (.int l4), some (.int r8), some (.int (s5.2.1 4 (Int32.toNatClampNeg r8)))], [], cl_h g0 g1 g2 g3 (ct_p4 s4) (ct_e5 (.ref 256) (.ref 384) s5) g6 g7 g8 g9 q)) tk_X1_loseDisk (by omega) rfl ⟨pm_inb_vp b10, trivial⟩ ?_
         exact ll_X1_loseDisk_67 (by omega) (fun e9 => pm_lst LB (some (e9)) = some e) (fun _ _ _ _ _ hk => ih _ _ _ _ _ e hk hPe) (fun e0 hk => K0 e0 (Option.some.inj hk ▸ hPe)) pm_fu _ _ _ _ _ _ _ _ q17 H
set_option maxRecDepth 20000 in
set_option maxHeartbeats 20000000 in
theorem e_X1_loseDisk {d : Nat} (hd : 6 ≤ d) {g0 g1 g2 g3 g6 g7 g8 g9 : List pm_E} {q : Nat × Nat × Nat} {s4 : cs_S} {s5 : cs_S} {a0 : Int32} {r : Int32} {z5 : cs_S} (H : f_X1_loseDisk s4 s5 a0 = some (r, z5)) : pm_Mt 14 d [.ref 320, .int a0] (cl_h g0 g1 g2 g3 (ct_p4 s4) (ct_e5 (.ref 256) (.ref 384) s5) g6 g7 g8 g9 q) (.inl (some (.int r))) (cl_h g0 g1 g2 g3 (ct_p4 s4) (ct_e5 (.ref 256) (.ref 384) z5) g6 g7 g8 g9 q) := by
  refine pm_Mt.of (by decide) (by decide +kernel) rfl rfl ?_
  obtain ⟨d, rfl⟩ : ∃ d', d = d' + 1 := ⟨d - 1, by omega⟩
  unfold f_X1_loseDisk at H
  cases q3 : f_X0_release (cs_i s5 31 0 a0) a0 with
  | none => rw [q3] at H; cases H
  | some w =>
   obtain ⟨r1, s5_2⟩ := w
   rw [q3] at H
   dsimp only at H
   refine pm_Wg.path (k := 9) (ds := []) (f' := (15, [some (.ref 320), some (.int a0), some (.int 0), none, none, none, none], [.int a0, .ref 333], cl_h g0 g1 g2 g3 (ct_p4 s4) (ct_e5 (.ref 256) (.ref 384) (cs_i s5 31 0 a0)) g6 g7 g8 g9 q)) tk_X1_loseDisk (by omega) rfl trivial ?_
   refine pm_Wg.callV (m' := 4) (ix := 157) (rr := 38) (pl := 572) (b := 333) (As := [.int a0]) (S := []) (by decide) rfl (pm_dec tk_X1_loseDisk rfl) rfl rfl (by decide) rfl rfl (by decide) (Nat.le_of_ble_eq_true rfl) rfl (e_X0_release (by omega) q3) ?_
   by_cases h4 : r1 = (-1)
   · rw [if_pos h4] at H
     refine pm_Wg.path (k := 6) (ds := [1]) (f' := (35, [some (.ref 320), some (.int a0), some (.int 0), some (.int r1), some (.int 0), none, none], [], cl_h g0 g1 g2 g3 (ct_p4 s4) (ct_e5 (.ref 256) (.ref 384) s5_2) g6 g7 g8 g9 q)) tk_X1_loseDisk (by omega) rfl ⟨h4, trivial⟩ ?_
     exact ll_X1_loseDisk_35 (by omega) (fun e => e = (r, z5)) (fun e he => he) pm_fu _ _ _ _ _ _ H rfl
   · rw [if_neg h4] at H
     cases q20 : f_X1_loseOperation s4 s5_2 r1 with
     | none => rw [q20] at H; cases H
     | some s5_19 =>
      rw [q20] at H
      dsimp only at H
      refine pm_Wg.path (k := 6) (ds := [0]) (f' := (26, [some (.ref 320), some (.int a0), some (.int 0), some (.int r1), none, none, none], [.int r1, .ref 320], cl_h g0 g1 g2 g3 (ct_p4 s4) (ct_e5 (.ref 256) (.ref 384) s5_2) g6 g7 g8 g9 q)) tk_X1_loseDisk (by omega) rfl ⟨h4, trivial⟩ ?_
      refine pm_Wg.callV (m' := 15) (ix := 160) (rr := 170) (pl := 1223) (b := 320) (As := [.int r1]) (S := []) (by decide) rfl (pm_dec tk_X1_loseDisk rfl) rfl rfl (by decide) rfl rfl (by decide) (Nat.le_of_ble_eq_true rfl) rfl (e_X1_loseOperation (by omega) q20) ?_
      refine pm_Wg.path (k := 3) (ds := []) (f' := (35, [some (.ref 320), some (.int a0), some (.int (0 + 1)), some (.int r1), some (.int 0), none, none], [], cl_h g0 g1 g2 g3 (ct_p4 s4) (ct_e5 (.ref 256) (.ref 384) s5_19) g6 g7 g8 g9 q)) tk_X1_loseDisk (by omega) rfl trivial ?_
      exact ll_X1_loseDisk_35 (by omega) (fun e => e = (r, z5)) (fun e he => he) pm_fu _ _ _ _ _ _ H rfl
