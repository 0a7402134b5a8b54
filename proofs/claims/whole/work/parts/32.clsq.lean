/-! The methods of the class's parts, by program (wip/whole/decc.py). -/
def fc_X0_clear_c5 (s5 : cs_S) : Option (cs_S) :=
  some s5
def fc_X0_clear_c4 (s5 : cs_S) : Option (cs_S) :=
  (fc_X0_clear_c5 (cs_c s5 18 (cs_fi (s5.2.1 18) 18 0)))
def fc_X0_clear_c3 (s5 : cs_S) : Option (cs_S) :=
  (fc_X0_clear_c4 (cs_c s5 17 (cs_fi (s5.2.1 17) 7 0)))
def fc_X0_clear_c2 (s5 : cs_S) : Option (cs_S) :=
  (fc_X0_clear_c3 (cs_c s5 16 (cs_fi (s5.2.1 16) 7 0)))
def fc_X0_clear_c1 (s5 : cs_S) : Option (cs_S) :=
  (fc_X0_clear_c2 (cs_c s5 15 (cs_fi (s5.2.1 15) 7 (-1))))
def f_X0_clear (s5 : cs_S) : Option (cs_S) :=
  (fc_X0_clear_c1 (cs_c s5 14 (cs_fi (s5.2.1 14) 7 (-1))))
def tb_X0_clear : List pm_I := [(0, .aload_n 0, 0, 0), (1, .getfield 9, 32, 0), (4, .iconst (-1), 1, 0), (5, .invokestatic 27, 132, 0), (8, .aload_n 0, 0, 0), (9, .getfield 15, 35, 0), (12, .iconst (-1), 1, 0), (13, .invokestatic 27, 132, 0), (16, .aload_n 0, 0, 0), (17, .getfield 18, 38, 0), (20, .iconst 0, 2, 0), (21, .invokestatic 27, 132, 0), (24, .aload_n 0, 0, 0), (25, .getfield 21, 40, 0), (28, .iconst 0, 2, 0), (29, .invokestatic 27, 132, 0), (32, .aload_n 0, 0, 0), (33, .getfield 24, 42, 0), (36, .iconst 0, 2, 0), (37, .invokestatic 27, 132, 0), (40, .return_, 0, 0)]
theorem tk_X0_clear : ∀ e ∈ tb_X0_clear, pm_ck 1 e = true := List.all_eq_true.mp (by decide +kernel)
set_option maxRecDepth 20000 in
set_option maxHeartbeats 20000000 in
theorem ec_X0_clear_c5 {d : Nat} (hd : 2 ≤ d) {g0 g1 g2 g3 g4 g6 g7 g8 g9 : List pm_E} {p5 t5 : Value} {q : Nat × Nat × Nat} {s5 : cs_S} {z5 : cs_S} (H : fc_X0_clear_c5 s5 = some z5) : pm_Wg 1 d (.inl (none)) (cl_h g0 g1 g2 g3 g4 (ct_e5 p5 t5 z5) g6 g7 g8 g9 q) (40, [some (.ref 333)], [], cl_h g0 g1 g2 g3 g4 (ct_e5 p5 t5 s5) g6 g7 g8 g9 q) := by
  obtain ⟨d, rfl⟩ : ∃ d', d = d' + 1 := ⟨d - 1, by omega⟩
  unfold fc_X0_clear_c5 at H
  try dsimp only at H
  have J := Option.some.inj H
  subst J
  exact pm_Wg.vret (pm_dec tk_X0_clear rfl) rfl
set_option maxRecDepth 20000 in
set_option maxHeartbeats 20000000 in
theorem ec_X0_clear_c4 {d : Nat} (hd : 2 ≤ d) {g0 g1 g2 g3 g4 g6 g7 g8 g9 : List pm_E} {p5 t5 : Value} {q : Nat × Nat × Nat} {s5 : cs_S} {z5 : cs_S} (H : fc_X0_clear_c4 s5 = some z5) : pm_Wg 1 d (.inl (none)) (cl_h g0 g1 g2 g3 g4 (ct_e5 p5 t5 z5) g6 g7 g8 g9 q) (32, [some (.ref 333)], [], cl_h g0 g1 g2 g3 g4 (ct_e5 p5 t5 s5) g6 g7 g8 g9 q) := by
  obtain ⟨d, rfl⟩ : ∃ d', d = d' + 1 := ⟨d - 1, by omega⟩
  unfold fc_X0_clear_c4 at H
  try dsimp only at H
  refine pm_Wg.path (k := 3) (ds := []) (f' := (37, [some (.ref 333)], [.int 0, .ref 338], cl_h g0 g1 g2 g3 g4 (ct_e5 p5 t5 s5) g6 g7 g8 g9 q)) tk_X0_clear (by omega) rfl trivial ?_
  refine pm_Wg.callS (m' := 307) (ix := 27) (rr := 132) (pl := 1089) (As := [.ref 338, .int 0]) (S := []) (h1 := cl_h g0 g1 g2 g3 g4 (ct_e5 p5 t5 (cs_c s5 18 (cs_fi (s5.2.1 18) 18 0))) g6 g7 g8 g9 q) (by decide) rfl (pm_dec tk_X0_clear rfl) rfl rfl rfl (Nat.le_of_ble_eq_true rfl) rfl (e_fillI (by omega) (b := 338) (n := 18) (f := s5.2.1 18) (by decide) rfl rfl) ?_
  exact ec_X0_clear_c5 (by omega) H
set_option maxRecDepth 20000 in
set_option maxHeartbeats 20000000 in
theorem ec_X0_clear_c3 {d : Nat} (hd : 2 ≤ d) {g0 g1 g2 g3 g4 g6 g7 g8 g9 : List pm_E} {p5 t5 : Value} {q : Nat × Nat × Nat} {s5 : cs_S} {z5 : cs_S} (H : fc_X0_clear_c3 s5 = some z5) : pm_Wg 1 d (.inl (none)) (cl_h g0 g1 g2 g3 g4 (ct_e5 p5 t5 z5) g6 g7 g8 g9 q) (24, [some (.ref 333)], [], cl_h g0 g1 g2 g3 g4 (ct_e5 p5 t5 s5) g6 g7 g8 g9 q) := by
  obtain ⟨d, rfl⟩ : ∃ d', d = d' + 1 := ⟨d - 1, by omega⟩
  unfold fc_X0_clear_c3 at H
  try dsimp only at H
  refine pm_Wg.path (k := 3) (ds := []) (f' := (29, [some (.ref 333)], [.int 0, .ref 337], cl_h g0 g1 g2 g3 g4 (ct_e5 p5 t5 s5) g6 g7 g8 g9 q)) tk_X0_clear (by omega) rfl trivial ?_
  refine pm_Wg.callS (m' := 307) (ix := 27) (rr := 132) (pl := 1089) (As := [.ref 337, .int 0]) (S := []) (h1 := cl_h g0 g1 g2 g3 g4 (ct_e5 p5 t5 (cs_c s5 17 (cs_fi (s5.2.1 17) 7 0))) g6 g7 g8 g9 q) (by decide) rfl (pm_dec tk_X0_clear rfl) rfl rfl rfl (Nat.le_of_ble_eq_true rfl) rfl (e_fillI (by omega) (b := 337) (n := 7) (f := s5.2.1 17) (by decide) rfl rfl) ?_
  exact ec_X0_clear_c4 (by omega) H
set_option maxRecDepth 20000 in
set_option maxHeartbeats 20000000 in
theorem ec_X0_clear_c2 {d : Nat} (hd : 2 ≤ d) {g0 g1 g2 g3 g4 g6 g7 g8 g9 : List pm_E} {p5 t5 : Value} {q : Nat × Nat × Nat} {s5 : cs_S} {z5 : cs_S} (H : fc_X0_clear_c2 s5 = some z5) : pm_Wg 1 d (.inl (none)) (cl_h g0 g1 g2 g3 g4 (ct_e5 p5 t5 z5) g6 g7 g8 g9 q) (16, [some (.ref 333)], [], cl_h g0 g1 g2 g3 g4 (ct_e5 p5 t5 s5) g6 g7 g8 g9 q) := by
  obtain ⟨d, rfl⟩ : ∃ d', d = d' + 1 := ⟨d - 1, by omega⟩
  unfold fc_X0_clear_c2 at H
  try dsimp only at H
  refine pm_Wg.path (k := 3) (ds := []) (f' := (21, [some (.ref 333)], [.int 0, .ref 336], cl_h g0 g1 g2 g3 g4 (ct_e5 p5 t5 s5) g6 g7 g8 g9 q)) tk_X0_clear (by omega) rfl trivial ?_
  refine pm_Wg.callS (m' := 307) (ix := 27) (rr := 132) (pl := 1089) (As := [.ref 336, .int 0]) (S := []) (h1 := cl_h g0 g1 g2 g3 g4 (ct_e5 p5 t5 (cs_c s5 16 (cs_fi (s5.2.1 16) 7 0))) g6 g7 g8 g9 q) (by decide) rfl (pm_dec tk_X0_clear rfl) rfl rfl rfl (Nat.le_of_ble_eq_true rfl) rfl (e_fillI (by omega) (b := 336) (n := 7) (f := s5.2.1 16) (by decide) rfl rfl) ?_
  exact ec_X0_clear_c3 (by omega) H
set_option maxRecDepth 20000 in
set_option maxHeartbeats 20000000 in
theorem ec_X0_clear_c1 {d : Nat} (hd : 2 ≤ d) {g0 g1 g2 g3 g4 g6 g7 g8 g9 : List pm_E} {p5 t5 : Value} {q : Nat × Nat × Nat} {s5 : cs_S} {z5 : cs_S} (H : fc_X0_clear_c1 s5 = some z5) : pm_Wg 1 d (.inl (none)) (cl_h g0 g1 g2 g3 g4 (ct_e5 p5 t5 z5) g6 g7 g8 g9 q) (8, [some (.ref 333)], [], cl_h g0 g1 g2 g3 g4 (ct_e5 p5 t5 s5) g6 g7 g8 g9 q) := by
  obtain ⟨d, rfl⟩ : ∃ d', d = d' + 1 := ⟨d - 1, by omega⟩
  unfold fc_X0_clear_c1 at H
  try dsimp only at H
  refine pm_Wg.path (k := 3) (ds := []) (f' := (13, [some (.ref 333)], [.int (-1), .ref 335], cl_h g0 g1 g2 g3 g4 (ct_e5 p5 t5 s5) g6 g7 g8 g9 q)) tk_X0_clear (by omega) rfl trivial ?_
  refine pm_Wg.callS (m' := 307) (ix := 27) (rr := 132) (pl := 1089) (As := [.ref 335, .int (-1)]) (S := []) (h1 := cl_h g0 g1 g2 g3 g4 (ct_e5 p5 t5 (cs_c s5 15 (cs_fi (s5.2.1 15) 7 (-1)))) g6 g7 g8 g9 q) (by decide) rfl (pm_dec tk_X0_clear rfl) rfl rfl rfl (Nat.le_of_ble_eq_true rfl) rfl (e_fillI (by omega) (b := 335) (n := 7) (f := s5.2.1 15) (by decide) rfl rfl) ?_
  exact ec_X0_clear_c2 (by omega) H
set_option maxRecDepth 20000 in
set_option maxHeartbeats 20000000 in
theorem e_X0_clear {d : Nat} (hd : 2 ≤ d) {g0 g1 g2 g3 g4 g6 g7 g8 g9 : List pm_E} {p5 t5 : Value} {q : Nat × Nat × Nat} {s5 : cs_S} {z5 : cs_S} (H : f_X0_clear s5 = some z5) : pm_Mt 1 d [.ref 333] (cl_h g0 g1 g2 g3 g4 (ct_e5 p5 t5 s5) g6 g7 g8 g9 q) (.inl (none)) (cl_h g0 g1 g2 g3 g4 (ct_e5 p5 t5 z5) g6 g7 g8 g9 q) := by
  refine pm_Mt.of (by decide) (by decide +kernel) rfl rfl ?_
  obtain ⟨d, rfl⟩ : ∃ d', d = d' + 1 := ⟨d - 1, by omega⟩
  unfold f_X0_clear at H
  refine pm_Wg.path (k := 3) (ds := []) (f' := (5, [some (.ref 333)], [.int (-1), .ref 334], cl_h g0 g1 g2 g3 g4 (ct_e5 p5 t5 s5) g6 g7 g8 g9 q)) tk_X0_clear (by omega) rfl trivial ?_
  refine pm_Wg.callS (m' := 307) (ix := 27) (rr := 132) (pl := 1089) (As := [.ref 334, .int (-1)]) (S := []) (h1 := cl_h g0 g1 g2 g3 g4 (ct_e5 p5 t5 (cs_c s5 14 (cs_fi (s5.2.1 14) 7 (-1)))) g6 g7 g8 g9 q) (by decide) rfl (pm_dec tk_X0_clear rfl) rfl rfl rfl (Nat.le_of_ble_eq_true rfl) rfl (e_fillI (by omega) (b := 334) (n := 7) (f := s5.2.1 14) (by decide) rfl rfl) ?_
  exact ec_X0_clear_c1 (by omega) H

def fc_X0_copyFrom_c4 (s5 : cs_S) (s7 : cs_S) (k0 : Int32) (k1 : Int32) (k3 : Int32) : Option (cs_S) :=
  (match pm_cpo k3 k1 k0 18 18 with
  | false => none
  | true =>
  some (cs_c s7 18 (va_cpy (s5.2.1 18) (s7.2.1 18) (Int32.toNatClampNeg k3) (Int32.toNatClampNeg k1) (Int32.toNatClampNeg k0))))
def fc_X0_copyFrom_c3 (s5 : cs_S) (s7 : cs_S) (k0 : Int32) (k1 : Int32) (k3 : Int32) : Option (cs_S) :=
  (match pm_cpo k3 k1 k0 7 7 with
  | false => none
  | true =>
  (fc_X0_copyFrom_c4 s5 (cs_c s7 17 (va_cpy (s5.2.1 17) (s7.2.1 17) (Int32.toNatClampNeg k3) (Int32.toNatClampNeg k1) (Int32.toNatClampNeg k0))) (Int32.ofNat 18) 0 0))
def fc_X0_copyFrom_c2 (s5 : cs_S) (s7 : cs_S) (k0 : Int32) (k1 : Int32) (k3 : Int32) : Option (cs_S) :=
  (match pm_cpo k3 k1 k0 7 7 with
  | false => none
  | true =>
  (fc_X0_copyFrom_c3 s5 (cs_c s7 16 (va_cpy (s5.2.1 16) (s7.2.1 16) (Int32.toNatClampNeg k3) (Int32.toNatClampNeg k1) (Int32.toNatClampNeg k0))) 7 0 0))
def fc_X0_copyFrom_c1 (s5 : cs_S) (s7 : cs_S) (k0 : Int32) (k1 : Int32) (k3 : Int32) : Option (cs_S) :=
  (match pm_cpo k3 k1 k0 7 7 with
  | false => none
  | true =>
  (fc_X0_copyFrom_c2 s5 (cs_c s7 15 (va_cpy (s5.2.1 15) (s7.2.1 15) (Int32.toNatClampNeg k3) (Int32.toNatClampNeg k1) (Int32.toNatClampNeg k0))) 7 0 0))
def f_X0_copyFrom (s5 : cs_S) (s7 : cs_S) : Option (cs_S) :=
  (match pm_cpo 0 0 7 7 7 with
  | false => none
  | true =>
  (fc_X0_copyFrom_c1 s5 (cs_c s7 14 (va_cpy (s5.2.1 14) (s7.2.1 14) (Int32.toNatClampNeg 0) (Int32.toNatClampNeg 0) (Int32.toNatClampNeg 7))) 7 0 0))
def tb_X0_copyFrom : List pm_I := [(0, .aload_n 1, 0, 0), (1, .getfield 9, 32, 0), (4, .iconst 0, 2, 0), (5, .aload_n 0, 0, 0), (6, .getfield 9, 32, 0), (9, .iconst 0, 2, 0), (10, .bipush 7, 9, 0), (12, .invokestatic 33, 1, 1), (15, .aload_n 1, 0, 0), (16, .getfield 15, 35, 0), (19, .iconst 0, 2, 0), (20, .aload_n 0, 0, 0), (21, .getfield 15, 35, 0), (24, .iconst 0, 2, 0), (25, .bipush 7, 9, 0), (27, .invokestatic 33, 1, 1), (30, .aload_n 1, 0, 0), (31, .getfield 18, 38, 0), (34, .iconst 0, 2, 0), (35, .aload_n 0, 0, 0), (36, .getfield 18, 38, 0), (39, .iconst 0, 2, 0), (40, .bipush 7, 9, 0), (42, .invokestatic 33, 1, 1), (45, .aload_n 1, 0, 0), (46, .getfield 21, 40, 0), (49, .iconst 0, 2, 0), (50, .aload_n 0, 0, 0), (51, .getfield 21, 40, 0), (54, .iconst 0, 2, 0), (55, .bipush 7, 9, 0), (57, .invokestatic 33, 1, 1), (60, .aload_n 1, 0, 0), (61, .getfield 24, 42, 0), (64, .iconst 0, 2, 0), (65, .aload_n 0, 0, 0), (66, .getfield 24, 42, 0), (69, .iconst 0, 2, 0), (70, .aload_n 0, 0, 0), (71, .getfield 24, 42, 0), (74, .arraylength, 0, 0), (75, .invokestatic 33, 1, 1), (78, .return_, 0, 0)]
theorem tk_X0_copyFrom : ∀ e ∈ tb_X0_copyFrom, pm_ck 2 e = true := List.all_eq_true.mp (by decide +kernel)
set_option maxRecDepth 20000 in
set_option maxHeartbeats 20000000 in
theorem ec_X0_copyFrom_c4 {d : Nat} (hd : 1 ≤ d) {g0 g1 g2 g3 g4 g6 g8 g9 : List pm_E} {p5 t5 p7 t7 : Value} {q : Nat × Nat × Nat} {s5 : cs_S} {s7 : cs_S} {k0 : Int32} {k1 : Int32} {k3 : Int32} {z7 : cs_S} (H : fc_X0_copyFrom_c4 s5 s7 k0 k1 k3 = some z7) : pm_Wg 2 d (.inl (none)) (cl_h g0 g1 g2 g3 g4 (ct_e5 p5 t5 s5) g6 (ct_e7 p7 t7 z7) g8 g9 q) (75, [some (.ref 461), some (.ref 333)], [.int k0, .int k1, .ref 466, .int k3, .ref 338], cl_h g0 g1 g2 g3 g4 (ct_e5 p5 t5 s5) g6 (ct_e7 p7 t7 s7) g8 g9 q) := by
  unfold fc_X0_copyFrom_c4 at H
  try dsimp only at H
  cases b5 : pm_cpo k3 k1 k0 18 18 with
  | false => rw [b5] at H; cases H
  | true =>
   rw [b5] at H
   dsimp only at H
   have J := Option.some.inj H
   subst J
   refine pm_Wg.path (k := 1) (ds := []) (f' := (78, [some (.ref 461), some (.ref 333)], [], cl_h g0 g1 g2 g3 g4 (ct_e5 p5 t5 s5) g6 (ct_e7 p7 t7 (cs_c s7 18 (va_cpy (s5.2.1 18) (s7.2.1 18) (Int32.toNatClampNeg k3) (Int32.toNatClampNeg k1) (Int32.toNatClampNeg k0)))) g8 g9 q)) tk_X0_copyFrom (by omega) rfl ⟨pm_cpo_ok b5, trivial⟩ ?_
   exact pm_Wg.vret (pm_dec tk_X0_copyFrom rfl) rfl
set_option maxRecDepth 20000 in
set_option maxHeartbeats 20000000 in
theorem ec_X0_copyFrom_c3 {d : Nat} (hd : 1 ≤ d) {g0 g1 g2 g3 g4 g6 g8 g9 : List pm_E} {p5 t5 p7 t7 : Value} {q : Nat × Nat × Nat} {s5 : cs_S} {s7 : cs_S} {k0 : Int32} {k1 : Int32} {k3 : Int32} {z7 : cs_S} (H : fc_X0_copyFrom_c3 s5 s7 k0 k1 k3 = some z7) : pm_Wg 2 d (.inl (none)) (cl_h g0 g1 g2 g3 g4 (ct_e5 p5 t5 s5) g6 (ct_e7 p7 t7 z7) g8 g9 q) (57, [some (.ref 461), some (.ref 333)], [.int k0, .int k1, .ref 465, .int k3, .ref 337], cl_h g0 g1 g2 g3 g4 (ct_e5 p5 t5 s5) g6 (ct_e7 p7 t7 s7) g8 g9 q) := by
  unfold fc_X0_copyFrom_c3 at H
  try dsimp only at H
  cases b4 : pm_cpo k3 k1 k0 7 7 with
  | false => rw [b4] at H; cases H
  | true =>
   rw [b4] at H
   dsimp only at H
   refine pm_Wg.path (k := 10) (ds := []) (f' := (75, [some (.ref 461), some (.ref 333)], [.int (Int32.ofNat 18), .int 0, .ref 466, .int 0, .ref 338], cl_h g0 g1 g2 g3 g4 (ct_e5 p5 t5 s5) g6 (ct_e7 p7 t7 (cs_c s7 17 (va_cpy (s5.2.1 17) (s7.2.1 17) (Int32.toNatClampNeg k3) (Int32.toNatClampNeg k1) (Int32.toNatClampNeg k0)))) g8 g9 q)) tk_X0_copyFrom (by omega) rfl ⟨pm_cpo_ok b4, trivial⟩ ?_
   exact ec_X0_copyFrom_c4 (by omega) H
set_option maxRecDepth 20000 in
set_option maxHeartbeats 20000000 in
theorem ec_X0_copyFrom_c2 {d : Nat} (hd : 1 ≤ d) {g0 g1 g2 g3 g4 g6 g8 g9 : List pm_E} {p5 t5 p7 t7 : Value} {q : Nat × Nat × Nat} {s5 : cs_S} {s7 : cs_S} {k0 : Int32} {k1 : Int32} {k3 : Int32} {z7 : cs_S} (H : fc_X0_copyFrom_c2 s5 s7 k0 k1 k3 = some z7) : pm_Wg 2 d (.inl (none)) (cl_h g0 g1 g2 g3 g4 (ct_e5 p5 t5 s5) g6 (ct_e7 p7 t7 z7) g8 g9 q) (42, [some (.ref 461), some (.ref 333)], [.int k0, .int k1, .ref 464, .int k3, .ref 336], cl_h g0 g1 g2 g3 g4 (ct_e5 p5 t5 s5) g6 (ct_e7 p7 t7 s7) g8 g9 q) := by
  unfold fc_X0_copyFrom_c2 at H
  try dsimp only at H
  cases b3 : pm_cpo k3 k1 k0 7 7 with
  | false => rw [b3] at H; cases H
  | true =>
   rw [b3] at H
   dsimp only at H
   refine pm_Wg.path (k := 8) (ds := []) (f' := (57, [some (.ref 461), some (.ref 333)], [.int 7, .int 0, .ref 465, .int 0, .ref 337], cl_h g0 g1 g2 g3 g4 (ct_e5 p5 t5 s5) g6 (ct_e7 p7 t7 (cs_c s7 16 (va_cpy (s5.2.1 16) (s7.2.1 16) (Int32.toNatClampNeg k3) (Int32.toNatClampNeg k1) (Int32.toNatClampNeg k0)))) g8 g9 q)) tk_X0_copyFrom (by omega) rfl ⟨pm_cpo_ok b3, trivial⟩ ?_
   exact ec_X0_copyFrom_c3 (by omega) H
set_option maxRecDepth 20000 in
set_option maxHeartbeats 20000000 in
theorem ec_X0_copyFrom_c1 {d : Nat} (hd : 1 ≤ d) {g0 g1 g2 g3 g4 g6 g8 g9 : List pm_E} {p5 t5 p7 t7 : Value} {q : Nat × Nat × Nat} {s5 : cs_S} {s7 : cs_S} {k0 : Int32} {k1 : Int32} {k3 : Int32} {z7 : cs_S} (H : fc_X0_copyFrom_c1 s5 s7 k0 k1 k3 = some z7) : pm_Wg 2 d (.inl (none)) (cl_h g0 g1 g2 g3 g4 (ct_e5 p5 t5 s5) g6 (ct_e7 p7 t7 z7) g8 g9 q) (27, [some (.ref 461), some (.ref 333)], [.int k0, .int k1, .ref 463, .int k3, .ref 335], cl_h g0 g1 g2 g3 g4 (ct_e5 p5 t5 s5) g6 (ct_e7 p7 t7 s7) g8 g9 q) := by
  unfold fc_X0_copyFrom_c1 at H
  try dsimp only at H
  cases b2 : pm_cpo k3 k1 k0 7 7 with
  | false => rw [b2] at H; cases H
  | true =>
   rw [b2] at H
   dsimp only at H
   refine pm_Wg.path (k := 8) (ds := []) (f' := (42, [some (.ref 461), some (.ref 333)], [.int 7, .int 0, .ref 464, .int 0, .ref 336], cl_h g0 g1 g2 g3 g4 (ct_e5 p5 t5 s5) g6 (ct_e7 p7 t7 (cs_c s7 15 (va_cpy (s5.2.1 15) (s7.2.1 15) (Int32.toNatClampNeg k3) (Int32.toNatClampNeg k1) (Int32.toNatClampNeg k0)))) g8 g9 q)) tk_X0_copyFrom (by omega) rfl ⟨pm_cpo_ok b2, trivial⟩ ?_
   exact ec_X0_copyFrom_c2 (by omega) H
set_option maxRecDepth 20000 in
set_option maxHeartbeats 20000000 in
theorem e_X0_copyFrom {d : Nat} (hd : 1 ≤ d) {g0 g1 g2 g3 g4 g6 g8 g9 : List pm_E} {p5 t5 p7 t7 : Value} {q : Nat × Nat × Nat} {s5 : cs_S} {s7 : cs_S} {z7 : cs_S} (H : f_X0_copyFrom s5 s7 = some z7) : pm_Mt 2 d [.ref 461, .ref 333] (cl_h g0 g1 g2 g3 g4 (ct_e5 p5 t5 s5) g6 (ct_e7 p7 t7 s7) g8 g9 q) (.inl (none)) (cl_h g0 g1 g2 g3 g4 (ct_e5 p5 t5 s5) g6 (ct_e7 p7 t7 z7) g8 g9 q) := by
  refine pm_Mt.of (by decide) (by decide +kernel) rfl rfl ?_
  unfold f_X0_copyFrom at H
  cases b1 : pm_cpo 0 0 7 7 7 with
  | false => rw [b1] at H; cases H
  | true =>
   rw [b1] at H
   dsimp only at H
   refine pm_Wg.path (k := 15) (ds := []) (f' := (27, [some (.ref 461), some (.ref 333)], [.int 7, .int 0, .ref 463, .int 0, .ref 335], cl_h g0 g1 g2 g3 g4 (ct_e5 p5 t5 s5) g6 (ct_e7 p7 t7 (cs_c s7 14 (va_cpy (s5.2.1 14) (s7.2.1 14) (Int32.toNatClampNeg 0) (Int32.toNatClampNeg 0) (Int32.toNatClampNeg 7)))) g8 g9 q)) tk_X0_copyFrom (by omega) rfl ⟨pm_cpo_ok b1, trivial⟩ ?_
   exact ec_X0_copyFrom_c1 (by omega) H

def fc_X0_serve_c3 (s4 : cs_S) (s5 : cs_S) (l1 : Int32) (l2 : Int32) (l3 : Int32) (l5 : Int32) (l6 : Int32) (k0 : Int32) (k1 : Int32) : Option (cs_S) :=
  (match pm_inb k1 7 with
  | false => none
  | true =>
  some (cs_a s5 17 k1 k0))
def fc_X0_serve_c2 (s4 : cs_S) (s5 : cs_S) (l1 : Int32) (l2 : Int32) (l3 : Int32) (l5 : Int32) (l6 : Int32) (k0 : Int32) (k1 : Int32) : Option (cs_S) :=
  (match pm_inb k1 7 with
  | false => none
  | true =>
  (match pm_inb l1 7 with
  | false => none
  | true =>
  (fc_X0_serve_c3 s4 (cs_a s5 16 k1 k0) l1 l2 l3 l5 l6 (((cs_a s5 16 k1 k0).2.1 17 (Int32.toNatClampNeg l1)) + l6) l1)))
def fc_X0_serve_c1 (s4 : cs_S) (s5 : cs_S) (l1 : Int32) (l2 : Int32) (l3 : Int32) (l5 : Int32) (l6 : Int32) (k0 : Int32) (k1 : Int32) : Option (cs_S) :=
  (match pm_inb k1 7 with
  | false => none
  | true =>
  (fc_X0_serve_c2 s4 (cs_a s5 15 k1 k0) l1 l2 l3 l5 l6 l3 l1))
def f_X0_serve (s4 : cs_S) (s5 : cs_S) (a0 : Int32) (a1 : Int32) (a2 : Int32) (a4 : Int32) : Option (cs_S) :=
  (match pm_inb a0 7 with
  | false => none
  | true =>
  (fc_X0_serve_c1 s4 (cs_a s5 14 a0 a1) a0 a1 a2 a4 ((s4.1 0 2) + (((if 0 ≤ ((s5.2.1 16 (Int32.toNatClampNeg a0)) - a2) then ((s5.2.1 16 (Int32.toNatClampNeg a0)) - a2) else 0 - ((s5.2.1 16 (Int32.toNatClampNeg a0)) - a2)) * (s4.1 0 3)) / 16)) (a4 + ((s4.1 0 2) + (((if 0 ≤ ((s5.2.1 16 (Int32.toNatClampNeg a0)) - a2) then ((s5.2.1 16 (Int32.toNatClampNeg a0)) - a2) else 0 - ((s5.2.1 16 (Int32.toNatClampNeg a0)) - a2)) * (s4.1 0 3)) / 16))) a0))
def tb_X0_serve : List pm_I := [(0, .aload 4, 0, 0), (2, .getfield 39, 122, 0), (5, .aload_n 0, 0, 0), (6, .getfield 18, 38, 0), (9, .iload_n 1, 0, 0), (10, .iaload, 0, 0), (11, .iload_n 3, 0, 0), (12, .isub, 0, 0), (13, .invokestatic 45, 87, 4), (16, .aload 4, 0, 0), (18, .getfield 51, 124, 0), (21, .imul, 0, 0), (22, .bipush 16, 13, 0), (24, .idiv, 0, 0), (25, .iadd, 0, 0), (26, .istore 6, 0, 0), (28, .aload_n 0, 0, 0), (29, .getfield 9, 32, 0), (32, .iload_n 1, 0, 0), (33, .iload_n 2, 0, 0), (34, .iastore, 0, 0), (35, .aload_n 0, 0, 0), (36, .getfield 15, 35, 0), (39, .iload_n 1, 0, 0), (40, .iload 5, 0, 0), (42, .iload 6, 0, 0), (44, .iadd, 0, 0), (45, .iastore, 0, 0), (46, .aload_n 0, 0, 0), (47, .getfield 18, 38, 0), (50, .iload_n 1, 0, 0), (51, .iload_n 3, 0, 0), (52, .iastore, 0, 0), (53, .aload_n 0, 0, 0), (54, .getfield 21, 40, 0), (57, .iload_n 1, 0, 0), (58, .dup2, 0, 0), (59, .iaload, 0, 0), (60, .iload 6, 0, 0), (62, .iadd, 0, 0), (63, .iastore, 0, 0), (64, .return_, 0, 0)]
theorem tk_X0_serve : ∀ e ∈ tb_X0_serve, pm_ck 3 e = true := List.all_eq_true.mp (by decide +kernel)
set_option maxRecDepth 20000 in
set_option maxHeartbeats 20000000 in
theorem ec_X0_serve_c3 {d : Nat} (hd : 1 ≤ d) {g0 g1 g2 g3 g6 g7 g8 g9 : List pm_E} {p5 t5 : Value} {q : Nat × Nat × Nat} {s4 : cs_S} {s5 : cs_S} {l1 : Int32} {l2 : Int32} {l3 : Int32} {l5 : Int32} {l6 : Int32} {k0 : Int32} {k1 : Int32} {z5 : cs_S} (H : fc_X0_serve_c3 s4 s5 l1 l2 l3 l5 l6 k0 k1 = some z5) : pm_Wg 3 d (.inl (none)) (cl_h g0 g1 g2 g3 (ct_p4 s4) (ct_e5 p5 t5 z5) g6 g7 g8 g9 q) (63, [some (.ref 333), some (.int l1), some (.int l2), some (.int l3), some (.ref 256), some (.int l5), some (.int l6)], [.int k0, .int k1, .ref 337], cl_h g0 g1 g2 g3 (ct_p4 s4) (ct_e5 p5 t5 s5) g6 g7 g8 g9 q) := by
  unfold fc_X0_serve_c3 at H
  try dsimp only at H
  cases b6 : pm_inb k1 7 with
  | false => rw [b6] at H; cases H
  | true =>
   rw [b6] at H
   dsimp only at H
   have J := Option.some.inj H
   subst J
   refine pm_Wg.path (k := 1) (ds := []) (f' := (64, [some (.ref 333), some (.int l1), some (.int l2), some (.int l3), some (.ref 256), some (.int l5), some (.int l6)], [], cl_h g0 g1 g2 g3 (ct_p4 s4) (ct_e5 p5 t5 (cs_a s5 17 k1 k0)) g6 g7 g8 g9 q)) tk_X0_serve (by omega) rfl ⟨pm_inb_vp b6, trivial⟩ ?_
   exact pm_Wg.vret (pm_dec tk_X0_serve rfl) rfl
set_option maxRecDepth 20000 in
set_option maxHeartbeats 20000000 in
theorem ec_X0_serve_c2 {d : Nat} (hd : 1 ≤ d) {g0 g1 g2 g3 g6 g7 g8 g9 : List pm_E} {p5 t5 : Value} {q : Nat × Nat × Nat} {s4 : cs_S} {s5 : cs_S} {l1 : Int32} {l2 : Int32} {l3 : Int32} {l5 : Int32} {l6 : Int32} {k0 : Int32} {k1 : Int32} {z5 : cs_S} (H : fc_X0_serve_c2 s4 s5 l1 l2 l3 l5 l6 k0 k1 = some z5) : pm_Wg 3 d (.inl (none)) (cl_h g0 g1 g2 g3 (ct_p4 s4) (ct_e5 p5 t5 z5) g6 g7 g8 g9 q) (52, [some (.ref 333), some (.int l1), some (.int l2), some (.int l3), some (.ref 256), some (.int l5), some (.int l6)], [.int k0, .int k1, .ref 336], cl_h g0 g1 g2 g3 (ct_p4 s4) (ct_e5 p5 t5 s5) g6 g7 g8 g9 q) := by
  unfold fc_X0_serve_c2 at H
  try dsimp only at H
  cases b4 : pm_inb k1 7 with
  | false => rw [b4] at H; cases H
  | true =>
   rw [b4] at H
   dsimp only at H
   cases b5 : pm_inb l1 7 with
   | false => rw [b5] at H; cases H
   | true =>
    rw [b5] at H
    dsimp only at H
    refine pm_Wg.path (k := 8) (ds := []) (f' := (63, [some (.ref 333), some (.int l1), some (.int l2), some (.int l3), some (.ref 256), some (.int l5), some (.int l6)], [.int (((cs_a s5 16 k1 k0).2.1 17 (Int32.toNatClampNeg l1)) + l6), .int l1, .ref 337], cl_h g0 g1 g2 g3 (ct_p4 s4) (ct_e5 p5 t5 (cs_a s5 16 k1 k0)) g6 g7 g8 g9 q)) tk_X0_serve (by omega) rfl ⟨pm_inb_vp b5, pm_inb_vp b4, trivial⟩ ?_
    exact ec_X0_serve_c3 (by omega) H
set_option maxRecDepth 20000 in
set_option maxHeartbeats 20000000 in
theorem ec_X0_serve_c1 {d : Nat} (hd : 1 ≤ d) {g0 g1 g2 g3 g6 g7 g8 g9 : List pm_E} {p5 t5 : Value} {q : Nat × Nat × Nat} {s4 : cs_S} {s5 : cs_S} {l1 : Int32} {l2 : Int32} {l3 : Int32} {l5 : Int32} {l6 : Int32} {k0 : Int32} {k1 : Int32} {z5 : cs_S} (H : fc_X0_serve_c1 s4 s5 l1 l2 l3 l5 l6 k0 k1 = some z5) : pm_Wg 3 d (.inl (none)) (cl_h g0 g1 g2 g3 (ct_p4 s4) (ct_e5 p5 t5 z5) g6 g7 g8 g9 q) (45, [some (.ref 333), some (.int l1), some (.int l2), some (.int l3), some (.ref 256), some (.int l5), some (.int l6)], [.int k0, .int k1, .ref 335], cl_h g0 g1 g2 g3 (ct_p4 s4) (ct_e5 p5 t5 s5) g6 g7 g8 g9 q) := by
  unfold fc_X0_serve_c1 at H
  try dsimp only at H
  cases b3 : pm_inb k1 7 with
  | false => rw [b3] at H; cases H
  | true =>
   rw [b3] at H
   dsimp only at H
   refine pm_Wg.path (k := 5) (ds := []) (f' := (52, [some (.ref 333), some (.int l1), some (.int l2), some (.int l3), some (.ref 256), some (.int l5), some (.int l6)], [.int l3, .int l1, .ref 336], cl_h g0 g1 g2 g3 (ct_p4 s4) (ct_e5 p5 t5 (cs_a s5 15 k1 k0)) g6 g7 g8 g9 q)) tk_X0_serve (by omega) rfl ⟨pm_inb_vp b3, trivial⟩ ?_
   exact ec_X0_serve_c2 (by omega) H
set_option maxRecDepth 20000 in
set_option maxHeartbeats 20000000 in
theorem e_X0_serve {d : Nat} (hd : 1 ≤ d) {g0 g1 g2 g3 g6 g7 g8 g9 : List pm_E} {p5 t5 : Value} {q : Nat × Nat × Nat} {s4 : cs_S} {s5 : cs_S} {a0 : Int32} {a1 : Int32} {a2 : Int32} {a4 : Int32} {z5 : cs_S} (H : f_X0_serve s4 s5 a0 a1 a2 a4 = some z5) : pm_Mt 3 d [.ref 333, .int a0, .int a1, .int a2, .ref 256, .int a4] (cl_h g0 g1 g2 g3 (ct_p4 s4) (ct_e5 p5 t5 s5) g6 g7 g8 g9 q) (.inl (none)) (cl_h g0 g1 g2 g3 (ct_p4 s4) (ct_e5 p5 t5 z5) g6 g7 g8 g9 q) := by
  refine pm_Mt.of (by decide) (by decide +kernel) rfl rfl ?_
  unfold f_X0_serve at H
  cases b1 : pm_inb a0 7 with
  | false => rw [b1] at H; cases H
  | true =>
   rw [b1] at H
   dsimp only at H
   refine pm_Wg.path (k := 27) (ds := []) (f' := (45, [some (.ref 333), some (.int a0), some (.int a1), some (.int a2), some (.ref 256), some (.int a4), some (.int ((s4.1 0 2) + (((if 0 ≤ ((s5.2.1 16 (Int32.toNatClampNeg a0)) - a2) then ((s5.2.1 16 (Int32.toNatClampNeg a0)) - a2) else 0 - ((s5.2.1 16 (Int32.toNatClampNeg a0)) - a2)) * (s4.1 0 3)) / 16)))], [.int (a4 + ((s4.1 0 2) + (((if 0 ≤ ((s5.2.1 16 (Int32.toNatClampNeg a0)) - a2) then ((s5.2.1 16 (Int32.toNatClampNeg a0)) - a2) else 0 - ((s5.2.1 16 (Int32.toNatClampNeg a0)) - a2)) * (s4.1 0 3)) / 16))), .int a0, .ref 335], cl_h g0 g1 g2 g3 (ct_p4 s4) (ct_e5 p5 t5 (cs_a s5 14 a0 a1)) g6 g7 g8 g9 q)) tk_X0_serve (by omega) rfl ⟨pm_inb_vp b1, (by decide), pm_inb_vp b1, trivial⟩ ?_
   exact ec_X0_serve_c1 (by omega) H

def fc_X0_release_c1 (s5 : cs_S) (l1 : Int32) (l2 : Int32) (k0 : Int32) (k1 : Int32) : Option (Int32 × cs_S) :=
  (match pm_inb k1 7 with
  | false => none
  | true =>
  some (l2, (cs_a s5 15 k1 k0)))
def f_X0_release (s5 : cs_S) (a0 : Int32) : Option (Int32 × cs_S) :=
  (match pm_inb a0 7 with
  | false => none
  | true =>
  (fc_X0_release_c1 (cs_a s5 14 a0 (-1)) a0 (s5.2.1 14 (Int32.toNatClampNeg a0)) (-1) a0))
def tb_X0_release : List pm_I := [(0, .aload_n 0, 0, 0), (1, .getfield 9, 32, 0), (4, .iload_n 1, 0, 0), (5, .iaload, 0, 0), (6, .istore_n 2, 0, 0), (7, .aload_n 0, 0, 0), (8, .getfield 9, 32, 0), (11, .iload_n 1, 0, 0), (12, .iconst (-1), 1, 0), (13, .iastore, 0, 0), (14, .aload_n 0, 0, 0), (15, .getfield 15, 35, 0), (18, .iload_n 1, 0, 0), (19, .iconst (-1), 1, 0), (20, .iastore, 0, 0), (21, .iload_n 2, 0, 0), (22, .ireturn, 0, 0)]
theorem tk_X0_release : ∀ e ∈ tb_X0_release, pm_ck 4 e = true := List.all_eq_true.mp (by decide +kernel)
set_option maxRecDepth 20000 in
set_option maxHeartbeats 20000000 in
theorem ec_X0_release_c1 {d : Nat} (hd : 1 ≤ d) {g0 g1 g2 g3 g4 g6 g7 g8 g9 : List pm_E} {p5 t5 : Value} {q : Nat × Nat × Nat} {s5 : cs_S} {l1 : Int32} {l2 : Int32} {k0 : Int32} {k1 : Int32} {r : Int32} {z5 : cs_S} (H : fc_X0_release_c1 s5 l1 l2 k0 k1 = some (r, z5)) : pm_Wg 4 d (.inl (some (.int r))) (cl_h g0 g1 g2 g3 g4 (ct_e5 p5 t5 z5) g6 g7 g8 g9 q) (20, [some (.ref 333), some (.int l1), some (.int l2)], [.int k0, .int k1, .ref 335], cl_h g0 g1 g2 g3 g4 (ct_e5 p5 t5 s5) g6 g7 g8 g9 q) := by
  unfold fc_X0_release_c1 at H
  try dsimp only at H
  cases b3 : pm_inb k1 7 with
  | false => rw [b3] at H; cases H
  | true =>
   rw [b3] at H
   dsimp only at H
   have J := Option.some.inj H
   injection J with J0a J0z
   subst J0a
   subst J0z
   refine pm_Wg.path (k := 2) (ds := []) (f' := (22, [some (.ref 333), some (.int l1), some (.int l2)], [.int l2], cl_h g0 g1 g2 g3 g4 (ct_e5 p5 t5 (cs_a s5 15 k1 k0)) g6 g7 g8 g9 q)) tk_X0_release (by omega) rfl ⟨pm_inb_vp b3, trivial⟩ ?_
   exact pm_Wg.iret (pm_dec tk_X0_release rfl) rfl rfl
set_option maxRecDepth 20000 in
set_option maxHeartbeats 20000000 in
theorem e_X0_release {d : Nat} (hd : 1 ≤ d) {g0 g1 g2 g3 g4 g6 g7 g8 g9 : List pm_E} {p5 t5 : Value} {q : Nat × Nat × Nat} {s5 : cs_S} {a0 : Int32} {r : Int32} {z5 : cs_S} (H : f_X0_release s5 a0 = some (r, z5)) : pm_Mt 4 d [.ref 333, .int a0] (cl_h g0 g1 g2 g3 g4 (ct_e5 p5 t5 s5) g6 g7 g8 g9 q) (.inl (some (.int r))) (cl_h g0 g1 g2 g3 g4 (ct_e5 p5 t5 z5) g6 g7 g8 g9 q) := by
  refine pm_Mt.of (by decide) (by decide +kernel) rfl rfl ?_
  unfold f_X0_release at H
  cases b1 : pm_inb a0 7 with
  | false => rw [b1] at H; cases H
  | true =>
   rw [b1] at H
   dsimp only at H
   refine pm_Wg.path (k := 14) (ds := []) (f' := (20, [some (.ref 333), some (.int a0), some (.int (s5.2.1 14 (Int32.toNatClampNeg a0)))], [.int (-1), .int a0, .ref 335], cl_h g0 g1 g2 g3 g4 (ct_e5 p5 t5 (cs_a s5 14 a0 (-1))) g6 g7 g8 g9 q)) tk_X0_release (by omega) rfl ⟨pm_inb_vp b1, pm_inb_vp b1, trivial⟩ ?_
   exact ec_X0_release_c1 (by omega) H

def f_X2_isShare (a0 : Int32) (a1 : Int32) (a2 : Int32) : Option (Int32) :=
  (if a0 < 0 then
   some 0
  else
   (if 1000 < a0 then
    some 0
   else
    (if a1 < 1 then
     some 0
    else
     (if 100 < a1 then
      some 0
     else
      (if a2 = 0 then
       some 1
      else
       (if a2 < a0 then
        some 0
       else
        (if 1000 < a2 then
         some 0
        else
         some 1)))))))
def tb_X2_isShare : List pm_I := [(0, .iload_n 0, 0, 0), (1, .ifCond .lt 41, 42, 0), (4, .iload_n 0, 0, 0), (5, .sipush 1000, 39, 0), (8, .if_icmp .gt 34, 42, 0), (11, .iload_n 1, 0, 0), (12, .iconst 1, 3, 0), (13, .if_icmp .lt 29, 42, 0), (16, .iload_n 1, 0, 0), (17, .bipush 100, 29, 0), (19, .if_icmp .gt 23, 42, 0), (22, .iload_n 2, 0, 0), (23, .ifCond .eq 15, 38, 0), (26, .iload_n 2, 0, 0), (27, .iload_n 0, 0, 0), (28, .if_icmp .lt 14, 42, 0), (31, .iload_n 2, 0, 0), (32, .sipush 1000, 39, 0), (35, .if_icmp .gt 7, 42, 0), (38, .iconst 1, 3, 0), (39, .goto 4, 43, 0), (42, .iconst 0, 2, 0), (43, .ireturn, 0, 0)]
theorem tk_X2_isShare : ∀ e ∈ tb_X2_isShare, pm_ck 31 e = true := List.all_eq_true.mp (by decide +kernel)
set_option maxRecDepth 20000 in
set_option maxHeartbeats 20000000 in
theorem e_X2_isShare {d : Nat} (hd : 1 ≤ d) {g0 g1 g2 g3 g4 g5 g6 g7 g8 g9 : List pm_E} {q : Nat × Nat × Nat} {a0 : Int32} {a1 : Int32} {a2 : Int32} {r : Int32} (H : f_X2_isShare a0 a1 a2 = some r) : pm_Mt 31 d [.int a0, .int a1, .int a2] (cl_h g0 g1 g2 g3 g4 g5 g6 g7 g8 g9 q) (.inl (some (.int r))) (cl_h g0 g1 g2 g3 g4 g5 g6 g7 g8 g9 q) := by
  refine pm_Mt.of (by decide) (by decide +kernel) rfl rfl ?_
  unfold f_X2_isShare at H
  by_cases h1 : a0 < 0
  · rw [if_pos h1] at H
    have J := Option.some.inj H
    subst J
    refine pm_Wg.path (k := 3) (ds := [1]) (f' := (43, [some (.int a0), some (.int a1), some (.int a2)], [.int 0], cl_h g0 g1 g2 g3 g4 g5 g6 g7 g8 g9 q)) tk_X2_isShare (by omega) rfl ⟨h1, trivial⟩ ?_
    exact pm_Wg.iret (pm_dec tk_X2_isShare rfl) rfl rfl
  · rw [if_neg h1] at H
    by_cases h2 : 1000 < a0
    · rw [if_pos h2] at H
      have J := Option.some.inj H
      subst J
      refine pm_Wg.path (k := 6) (ds := [0, 1]) (f' := (43, [some (.int a0), some (.int a1), some (.int a2)], [.int 0], cl_h g0 g1 g2 g3 g4 g5 g6 g7 g8 g9 q)) tk_X2_isShare (by omega) rfl ⟨h2, h1, trivial⟩ ?_
      exact pm_Wg.iret (pm_dec tk_X2_isShare rfl) rfl rfl
    · rw [if_neg h2] at H
      by_cases h3 : a1 < 1
      · rw [if_pos h3] at H
        have J := Option.some.inj H
        subst J
        refine pm_Wg.path (k := 9) (ds := [0, 0, 1]) (f' := (43, [some (.int a0), some (.int a1), some (.int a2)], [.int 0], cl_h g0 g1 g2 g3 g4 g5 g6 g7 g8 g9 q)) tk_X2_isShare (by omega) rfl ⟨h3, h2, h1, trivial⟩ ?_
        exact pm_Wg.iret (pm_dec tk_X2_isShare rfl) rfl rfl
      · rw [if_neg h3] at H
        by_cases h4 : 100 < a1
        · rw [if_pos h4] at H
          have J := Option.some.inj H
          subst J
          refine pm_Wg.path (k := 12) (ds := [0, 0, 0, 1]) (f' := (43, [some (.int a0), some (.int a1), some (.int a2)], [.int 0], cl_h g0 g1 g2 g3 g4 g5 g6 g7 g8 g9 q)) tk_X2_isShare (by omega) rfl ⟨h4, h3, h2, h1, trivial⟩ ?_
          exact pm_Wg.iret (pm_dec tk_X2_isShare rfl) rfl rfl
        · rw [if_neg h4] at H
          by_cases h5 : a2 = 0
          · rw [if_pos h5] at H
            have J := Option.some.inj H
            subst J
            refine pm_Wg.path (k := 15) (ds := [0, 0, 0, 0, 1]) (f' := (43, [some (.int a0), some (.int a1), some (.int a2)], [.int 1], cl_h g0 g1 g2 g3 g4 g5 g6 g7 g8 g9 q)) tk_X2_isShare (by omega) rfl ⟨h5, h4, h3, h2, h1, trivial⟩ ?_
            exact pm_Wg.iret (pm_dec tk_X2_isShare rfl) rfl rfl
          · rw [if_neg h5] at H
            by_cases h6 : a2 < a0
            · rw [if_pos h6] at H
              have J := Option.some.inj H
              subst J
              refine pm_Wg.path (k := 17) (ds := [0, 0, 0, 0, 0, 1]) (f' := (43, [some (.int a0), some (.int a1), some (.int a2)], [.int 0], cl_h g0 g1 g2 g3 g4 g5 g6 g7 g8 g9 q)) tk_X2_isShare (by omega) rfl ⟨h6, h5, h4, h3, h2, h1, trivial⟩ ?_
              exact pm_Wg.iret (pm_dec tk_X2_isShare rfl) rfl rfl
            · rw [if_neg h6] at H
              by_cases h7 : 1000 < a2
              · rw [if_pos h7] at H
                have J := Option.some.inj H
                subst J
                refine pm_Wg.path (k := 20) (ds := [0, 0, 0, 0, 0, 0, 1]) (f' := (43, [some (.int a0), some (.int a1), some (.int a2)], [.int 0], cl_h g0 g1 g2 g3 g4 g5 g6 g7 g8 g9 q)) tk_X2_isShare (by omega) rfl ⟨h7, h6, h5, h4, h3, h2, h1, trivial⟩ ?_
                exact pm_Wg.iret (pm_dec tk_X2_isShare rfl) rfl rfl
              · rw [if_neg h7] at H
                have J := Option.some.inj H
                subst J
                refine pm_Wg.path (k := 21) (ds := [0, 0, 0, 0, 0, 0, 0]) (f' := (43, [some (.int a0), some (.int a1), some (.int a2)], [.int 1], cl_h g0 g1 g2 g3 g4 g5 g6 g7 g8 g9 q)) tk_X2_isShare (by omega) rfl ⟨h7, h6, h5, h4, h3, h2, h1, trivial⟩ ?_
                exact pm_Wg.iret (pm_dec tk_X2_isShare rfl) rfl rfl

def f_X2_hasDiskOrSpare (s4 : cs_S) (a0 : Int32) : Option (Int32) :=
  (if a0 < 0 then
   some 0
  else
   (if (s4.1 0 0) < a0 then
    some 0
   else
    some 1))
def tb_X2_hasDiskOrSpare : List pm_I := [(0, .iload_n 1, 0, 0), (1, .ifCond .lt 15, 16, 0), (4, .iload_n 1, 0, 0), (5, .aload_n 0, 0, 0), (6, .getfield 9, 115, 0), (9, .if_icmp .gt 7, 16, 0), (12, .iconst 1, 3, 0), (13, .goto 4, 17, 0), (16, .iconst 0, 2, 0), (17, .ireturn, 0, 0)]
theorem tk_X2_hasDiskOrSpare : ∀ e ∈ tb_X2_hasDiskOrSpare, pm_ck 32 e = true := List.all_eq_true.mp (by decide +kernel)
set_option maxRecDepth 20000 in
set_option maxHeartbeats 20000000 in
theorem e_X2_hasDiskOrSpare {d : Nat} (hd : 1 ≤ d) {g0 g1 g2 g3 g5 g6 g7 g8 g9 : List pm_E} {q : Nat × Nat × Nat} {s4 : cs_S} {a0 : Int32} {r : Int32} (H : f_X2_hasDiskOrSpare s4 a0 = some r) : pm_Mt 32 d [.ref 256, .int a0] (cl_h g0 g1 g2 g3 (ct_p4 s4) g5 g6 g7 g8 g9 q) (.inl (some (.int r))) (cl_h g0 g1 g2 g3 (ct_p4 s4) g5 g6 g7 g8 g9 q) := by
  refine pm_Mt.of (by decide) (by decide +kernel) rfl rfl ?_
  unfold f_X2_hasDiskOrSpare at H
  by_cases h1 : a0 < 0
  · rw [if_pos h1] at H
    have J := Option.some.inj H
    subst J
    refine pm_Wg.path (k := 3) (ds := [1]) (f' := (17, [some (.ref 256), some (.int a0)], [.int 0], cl_h g0 g1 g2 g3 (ct_p4 s4) g5 g6 g7 g8 g9 q)) tk_X2_hasDiskOrSpare (by omega) rfl ⟨h1, trivial⟩ ?_
    exact pm_Wg.iret (pm_dec tk_X2_hasDiskOrSpare rfl) rfl rfl
  · rw [if_neg h1] at H
    by_cases h2 : (s4.1 0 0) < a0
    · rw [if_pos h2] at H
      have J := Option.some.inj H
      subst J
      refine pm_Wg.path (k := 7) (ds := [0, 1]) (f' := (17, [some (.ref 256), some (.int a0)], [.int 0], cl_h g0 g1 g2 g3 (ct_p4 s4) g5 g6 g7 g8 g9 q)) tk_X2_hasDiskOrSpare (by omega) rfl ⟨h2, h1, trivial⟩ ?_
      exact pm_Wg.iret (pm_dec tk_X2_hasDiskOrSpare rfl) rfl rfl
    · rw [if_neg h2] at H
      have J := Option.some.inj H
      subst J
      refine pm_Wg.path (k := 8) (ds := [0, 0]) (f' := (17, [some (.ref 256), some (.int a0)], [.int 1], cl_h g0 g1 g2 g3 (ct_p4 s4) g5 g6 g7 g8 g9 q)) tk_X2_hasDiskOrSpare (by omega) rfl ⟨h2, h1, trivial⟩ ?_
      exact pm_Wg.iret (pm_dec tk_X2_hasDiskOrSpare rfl) rfl rfl

def f_X2_hasTenant (s4 : cs_S) (a0 : Int32) (a1 : Int32) : Option (Int32) :=
  (if a0 < a1 then
   some 0
  else
   (if (s4.1 0 7) ≤ a0 then
    some 0
   else
    some 1))
def tb_X2_hasTenant : List pm_I := [(0, .iload_n 1, 0, 0), (1, .iload_n 2, 0, 0), (2, .if_icmp .lt 15, 17, 0), (5, .iload_n 1, 0, 0), (6, .aload_n 0, 0, 0), (7, .getfield 33, 131, 0), (10, .if_icmp .ge 7, 17, 0), (13, .iconst 1, 3, 0), (14, .goto 4, 18, 0), (17, .iconst 0, 2, 0), (18, .ireturn, 0, 0)]
theorem tk_X2_hasTenant : ∀ e ∈ tb_X2_hasTenant, pm_ck 33 e = true := List.all_eq_true.mp (by decide +kernel)
set_option maxRecDepth 20000 in
set_option maxHeartbeats 20000000 in
theorem e_X2_hasTenant {d : Nat} (hd : 1 ≤ d) {g0 g1 g2 g3 g5 g6 g7 g8 g9 : List pm_E} {q : Nat × Nat × Nat} {s4 : cs_S} {a0 : Int32} {a1 : Int32} {r : Int32} (H : f_X2_hasTenant s4 a0 a1 = some r) : pm_Mt 33 d [.ref 256, .int a0, .int a1] (cl_h g0 g1 g2 g3 (ct_p4 s4) g5 g6 g7 g8 g9 q) (.inl (some (.int r))) (cl_h g0 g1 g2 g3 (ct_p4 s4) g5 g6 g7 g8 g9 q) := by
  refine pm_Mt.of (by decide) (by decide +kernel) rfl rfl ?_
  unfold f_X2_hasTenant at H
  by_cases h1 : a0 < a1
  · rw [if_pos h1] at H
    have J := Option.some.inj H
    subst J
    refine pm_Wg.path (k := 4) (ds := [1]) (f' := (18, [some (.ref 256), some (.int a0), some (.int a1)], [.int 0], cl_h g0 g1 g2 g3 (ct_p4 s4) g5 g6 g7 g8 g9 q)) tk_X2_hasTenant (by omega) rfl ⟨h1, trivial⟩ ?_
    exact pm_Wg.iret (pm_dec tk_X2_hasTenant rfl) rfl rfl
  · rw [if_neg h1] at H
    by_cases h2 : (s4.1 0 7) ≤ a0
    · rw [if_pos h2] at H
      have J := Option.some.inj H
      subst J
      refine pm_Wg.path (k := 8) (ds := [0, 1]) (f' := (18, [some (.ref 256), some (.int a0), some (.int a1)], [.int 0], cl_h g0 g1 g2 g3 (ct_p4 s4) g5 g6 g7 g8 g9 q)) tk_X2_hasTenant (by omega) rfl ⟨h2, h1, trivial⟩ ?_
      exact pm_Wg.iret (pm_dec tk_X2_hasTenant rfl) rfl rfl
    · rw [if_neg h2] at H
      have J := Option.some.inj H
      subst J
      refine pm_Wg.path (k := 9) (ds := [0, 0]) (f' := (18, [some (.ref 256), some (.int a0), some (.int a1)], [.int 1], cl_h g0 g1 g2 g3 (ct_p4 s4) g5 g6 g7 g8 g9 q)) tk_X2_hasTenant (by omega) rfl ⟨h2, h1, trivial⟩ ?_
      exact pm_Wg.iret (pm_dec tk_X2_hasTenant rfl) rfl rfl

def f_X2_hasQueue (s4 : cs_S) (a0 : Int32) (a1 : Int32) : Option (Int32) :=
  (match f_X2_hasDiskOrSpare s4 a0 with
  | none => none
  | some r1 =>
   (if r1 = 0 then
    some 0
   else
    (match f_X2_hasTenant s4 a1 0 with
    | none => none
    | some r4 =>
     (if r4 = 0 then
      some 0
     else
      some 1))))
def tb_X2_hasQueue : List pm_I := [(0, .aload_n 0, 0, 0), (1, .iload_n 1, 0, 0), (2, .invokevirtual 92, 182, 0), (5, .ifCond .eq 16, 21, 0), (8, .aload_n 0, 0, 0), (9, .iload_n 2, 0, 0), (10, .iconst 0, 2, 0), (11, .invokevirtual 96, 183, 0), (14, .ifCond .eq 7, 21, 0), (17, .iconst 1, 3, 0), (18, .goto 4, 22, 0), (21, .iconst 0, 2, 0), (22, .ireturn, 0, 0)]
theorem tk_X2_hasQueue : ∀ e ∈ tb_X2_hasQueue, pm_ck 34 e = true := List.all_eq_true.mp (by decide +kernel)
set_option maxRecDepth 20000 in
set_option maxHeartbeats 20000000 in
theorem e_X2_hasQueue {d : Nat} (hd : 2 ≤ d) {g0 g1 g2 g3 g5 g6 g7 g8 g9 : List pm_E} {q : Nat × Nat × Nat} {s4 : cs_S} {a0 : Int32} {a1 : Int32} {r : Int32} (H : f_X2_hasQueue s4 a0 a1 = some r) : pm_Mt 34 d [.ref 256, .int a0, .int a1] (cl_h g0 g1 g2 g3 (ct_p4 s4) g5 g6 g7 g8 g9 q) (.inl (some (.int r))) (cl_h g0 g1 g2 g3 (ct_p4 s4) g5 g6 g7 g8 g9 q) := by
  refine pm_Mt.of (by decide) (by decide +kernel) rfl rfl ?_
  obtain ⟨d, rfl⟩ : ∃ d', d = d' + 1 := ⟨d - 1, by omega⟩
  unfold f_X2_hasQueue at H
  cases q2 : f_X2_hasDiskOrSpare s4 a0 with
  | none => rw [q2] at H; cases H
  | some r1 =>
   rw [q2] at H
   dsimp only at H
   refine pm_Wg.path (k := 2) (ds := []) (f' := (2, [some (.ref 256), some (.int a0), some (.int a1)], [.int a0, .ref 256], cl_h g0 g1 g2 g3 (ct_p4 s4) g5 g6 g7 g8 g9 q)) tk_X2_hasQueue (by omega) rfl trivial ?_
   refine pm_Wg.callV (m' := 32) (ix := 92) (rr := 182) (pl := 1266) (b := 256) (As := [.int a0]) (S := []) (by decide) rfl (pm_dec tk_X2_hasQueue rfl) rfl rfl (by decide) rfl rfl (by decide) (Nat.le_of_ble_eq_true rfl) rfl (e_X2_hasDiskOrSpare (by omega) q2) ?_
   by_cases h3 : r1 = 0
   · rw [if_pos h3] at H
     have J := Option.some.inj H
     subst J
     refine pm_Wg.path (k := 2) (ds := [1]) (f' := (22, [some (.ref 256), some (.int a0), some (.int a1)], [.int 0], cl_h g0 g1 g2 g3 (ct_p4 s4) g5 g6 g7 g8 g9 q)) tk_X2_hasQueue (by omega) rfl ⟨h3, trivial⟩ ?_
     exact pm_Wg.iret (pm_dec tk_X2_hasQueue rfl) rfl rfl
   · rw [if_neg h3] at H
     cases q5 : f_X2_hasTenant s4 a1 0 with
     | none => rw [q5] at H; cases H
     | some r4 =>
      rw [q5] at H
      dsimp only at H
      refine pm_Wg.path (k := 4) (ds := [0]) (f' := (11, [some (.ref 256), some (.int a0), some (.int a1)], [.int 0, .int a1, .ref 256], cl_h g0 g1 g2 g3 (ct_p4 s4) g5 g6 g7 g8 g9 q)) tk_X2_hasQueue (by omega) rfl ⟨h3, trivial⟩ ?_
      refine pm_Wg.callV (m' := 33) (ix := 96) (rr := 183) (pl := 1270) (b := 256) (As := [.int a1, .int 0]) (S := []) (by decide) rfl (pm_dec tk_X2_hasQueue rfl) rfl rfl (by decide) rfl rfl (by decide) (Nat.le_of_ble_eq_true rfl) rfl (e_X2_hasTenant (by omega) q5) ?_
      by_cases h6 : r4 = 0
      · rw [if_pos h6] at H
        have J := Option.some.inj H
        subst J
        refine pm_Wg.path (k := 2) (ds := [1]) (f' := (22, [some (.ref 256), some (.int a0), some (.int a1)], [.int 0], cl_h g0 g1 g2 g3 (ct_p4 s4) g5 g6 g7 g8 g9 q)) tk_X2_hasQueue (by omega) rfl ⟨h6, trivial⟩ ?_
        exact pm_Wg.iret (pm_dec tk_X2_hasQueue rfl) rfl rfl
      · rw [if_neg h6] at H
        have J := Option.some.inj H
        subst J
        refine pm_Wg.path (k := 3) (ds := [0]) (f' := (22, [some (.ref 256), some (.int a0), some (.int a1)], [.int 1], cl_h g0 g1 g2 g3 (ct_p4 s4) g5 g6 g7 g8 g9 q)) tk_X2_hasQueue (by omega) rfl ⟨h6, trivial⟩ ?_
        exact pm_Wg.iret (pm_dec tk_X2_hasQueue rfl) rfl rfl

def f_X2_hasStripe (s4 : cs_S) (a0 : Int32) : Option (Int32) :=
  (if a0 < 0 then
   some 0
  else
   (if (s4.1 0 1) ≤ a0 then
    some 0
   else
    some 1))
def tb_X2_hasStripe : List pm_I := [(0, .iload_n 1, 0, 0), (1, .ifCond .lt 15, 16, 0), (4, .iload_n 1, 0, 0), (5, .aload_n 0, 0, 0), (6, .getfield 15, 118, 0), (9, .if_icmp .ge 7, 16, 0), (12, .iconst 1, 3, 0), (13, .goto 4, 17, 0), (16, .iconst 0, 2, 0), (17, .ireturn, 0, 0)]
theorem tk_X2_hasStripe : ∀ e ∈ tb_X2_hasStripe, pm_ck 35 e = true := List.all_eq_true.mp (by decide +kernel)
set_option maxRecDepth 20000 in
set_option maxHeartbeats 20000000 in
theorem e_X2_hasStripe {d : Nat} (hd : 1 ≤ d) {g0 g1 g2 g3 g5 g6 g7 g8 g9 : List pm_E} {q : Nat × Nat × Nat} {s4 : cs_S} {a0 : Int32} {r : Int32} (H : f_X2_hasStripe s4 a0 = some r) : pm_Mt 35 d [.ref 256, .int a0] (cl_h g0 g1 g2 g3 (ct_p4 s4) g5 g6 g7 g8 g9 q) (.inl (some (.int r))) (cl_h g0 g1 g2 g3 (ct_p4 s4) g5 g6 g7 g8 g9 q) := by
  refine pm_Mt.of (by decide) (by decide +kernel) rfl rfl ?_
  unfold f_X2_hasStripe at H
  by_cases h1 : a0 < 0
  · rw [if_pos h1] at H
    have J := Option.some.inj H
    subst J
    refine pm_Wg.path (k := 3) (ds := [1]) (f' := (17, [some (.ref 256), some (.int a0)], [.int 0], cl_h g0 g1 g2 g3 (ct_p4 s4) g5 g6 g7 g8 g9 q)) tk_X2_hasStripe (by omega) rfl ⟨h1, trivial⟩ ?_
    exact pm_Wg.iret (pm_dec tk_X2_hasStripe rfl) rfl rfl
  · rw [if_neg h1] at H
    by_cases h2 : (s4.1 0 1) ≤ a0
    · rw [if_pos h2] at H
      have J := Option.some.inj H
      subst J
      refine pm_Wg.path (k := 7) (ds := [0, 1]) (f' := (17, [some (.ref 256), some (.int a0)], [.int 0], cl_h g0 g1 g2 g3 (ct_p4 s4) g5 g6 g7 g8 g9 q)) tk_X2_hasStripe (by omega) rfl ⟨h2, h1, trivial⟩ ?_
      exact pm_Wg.iret (pm_dec tk_X2_hasStripe rfl) rfl rfl
    · rw [if_neg h2] at H
      have J := Option.some.inj H
      subst J
      refine pm_Wg.path (k := 8) (ds := [0, 0]) (f' := (17, [some (.ref 256), some (.int a0)], [.int 1], cl_h g0 g1 g2 g3 (ct_p4 s4) g5 g6 g7 g8 g9 q)) tk_X2_hasStripe (by omega) rfl ⟨h2, h1, trivial⟩ ?_
      exact pm_Wg.iret (pm_dec tk_X2_hasStripe rfl) rfl rfl

def f_X2_units (s4 : cs_S) : Option (Int32) :=
  some ((s4.1 0 1) * ((s4.1 0 0) - 1))
def tb_X2_units : List pm_I := [(0, .aload_n 0, 0, 0), (1, .getfield 15, 118, 0), (4, .aload_n 0, 0, 0), (5, .getfield 9, 115, 0), (8, .iconst 1, 3, 0), (9, .isub, 0, 0), (10, .imul, 0, 0), (11, .ireturn, 0, 0)]
theorem tk_X2_units : ∀ e ∈ tb_X2_units, pm_ck 36 e = true := List.all_eq_true.mp (by decide +kernel)
set_option maxRecDepth 20000 in
set_option maxHeartbeats 20000000 in
theorem e_X2_units {d : Nat} (hd : 1 ≤ d) {g0 g1 g2 g3 g5 g6 g7 g8 g9 : List pm_E} {q : Nat × Nat × Nat} {s4 : cs_S} {r : Int32} (H : f_X2_units s4 = some r) : pm_Mt 36 d [.ref 256] (cl_h g0 g1 g2 g3 (ct_p4 s4) g5 g6 g7 g8 g9 q) (.inl (some (.int r))) (cl_h g0 g1 g2 g3 (ct_p4 s4) g5 g6 g7 g8 g9 q) := by
  refine pm_Mt.of (by decide) (by decide +kernel) rfl rfl ?_
  unfold f_X2_units at H
  have J := Option.some.inj H
  subst J
  refine pm_Wg.path (k := 7) (ds := []) (f' := (11, [some (.ref 256)], [.int ((s4.1 0 1) * ((s4.1 0 0) - 1))], cl_h g0 g1 g2 g3 (ct_p4 s4) g5 g6 g7 g8 g9 q)) tk_X2_units (by omega) rfl trivial ?_
  exact pm_Wg.iret (pm_dec tk_X2_units rfl) rfl rfl

def f_X2_hasUnit (s4 : cs_S) (a0 : Int32) : Option (Int32) :=
  (if a0 < 0 then
   some 0
  else
   (match f_X2_units s4 with
   | none => none
   | some r2 =>
    (if r2 ≤ a0 then
     some 0
    else
     some 1)))
def tb_X2_hasUnit : List pm_I := [(0, .iload_n 1, 0, 0), (1, .ifCond .lt 15, 16, 0), (4, .iload_n 1, 0, 0), (5, .aload_n 0, 0, 0), (6, .invokevirtual 100, 152, 0), (9, .if_icmp .ge 7, 16, 0), (12, .iconst 1, 3, 0), (13, .goto 4, 17, 0), (16, .iconst 0, 2, 0), (17, .ireturn, 0, 0)]
theorem tk_X2_hasUnit : ∀ e ∈ tb_X2_hasUnit, pm_ck 37 e = true := List.all_eq_true.mp (by decide +kernel)
set_option maxRecDepth 20000 in
set_option maxHeartbeats 20000000 in
theorem e_X2_hasUnit {d : Nat} (hd : 2 ≤ d) {g0 g1 g2 g3 g5 g6 g7 g8 g9 : List pm_E} {q : Nat × Nat × Nat} {s4 : cs_S} {a0 : Int32} {r : Int32} (H : f_X2_hasUnit s4 a0 = some r) : pm_Mt 37 d [.ref 256, .int a0] (cl_h g0 g1 g2 g3 (ct_p4 s4) g5 g6 g7 g8 g9 q) (.inl (some (.int r))) (cl_h g0 g1 g2 g3 (ct_p4 s4) g5 g6 g7 g8 g9 q) := by
  refine pm_Mt.of (by decide) (by decide +kernel) rfl rfl ?_
  obtain ⟨d, rfl⟩ : ∃ d', d = d' + 1 := ⟨d - 1, by omega⟩
  unfold f_X2_hasUnit at H
  by_cases h1 : a0 < 0
  · rw [if_pos h1] at H
    have J := Option.some.inj H
    subst J
    refine pm_Wg.path (k := 3) (ds := [1]) (f' := (17, [some (.ref 256), some (.int a0)], [.int 0], cl_h g0 g1 g2 g3 (ct_p4 s4) g5 g6 g7 g8 g9 q)) tk_X2_hasUnit (by omega) rfl ⟨h1, trivial⟩ ?_
    exact pm_Wg.iret (pm_dec tk_X2_hasUnit rfl) rfl rfl
  · rw [if_neg h1] at H
    cases q3 : f_X2_units s4 with
    | none => rw [q3] at H; cases H
    | some r2 =>
     rw [q3] at H
     dsimp only at H
     refine pm_Wg.path (k := 4) (ds := [0]) (f' := (6, [some (.ref 256), some (.int a0)], [.ref 256, .int a0], cl_h g0 g1 g2 g3 (ct_p4 s4) g5 g6 g7 g8 g9 q)) tk_X2_hasUnit (by omega) rfl ⟨h1, trivial⟩ ?_
     refine pm_Wg.callV (m' := 36) (ix := 100) (rr := 152) (pl := 1147) (b := 256) (As := []) (S := [.int a0]) (by decide) rfl (pm_dec tk_X2_hasUnit rfl) rfl rfl (by decide) rfl rfl (by decide) (Nat.le_of_ble_eq_true rfl) rfl (e_X2_units (by omega) q3) ?_
     by_cases h4 : r2 ≤ a0
     · rw [if_pos h4] at H
       have J := Option.some.inj H
       subst J
       refine pm_Wg.path (k := 2) (ds := [1]) (f' := (17, [some (.ref 256), some (.int a0)], [.int 0], cl_h g0 g1 g2 g3 (ct_p4 s4) g5 g6 g7 g8 g9 q)) tk_X2_hasUnit (by omega) rfl ⟨h4, trivial⟩ ?_
       exact pm_Wg.iret (pm_dec tk_X2_hasUnit rfl) rfl rfl
     · rw [if_neg h4] at H
       have J := Option.some.inj H
       subst J
       refine pm_Wg.path (k := 3) (ds := [0]) (f' := (17, [some (.ref 256), some (.int a0)], [.int 1], cl_h g0 g1 g2 g3 (ct_p4 s4) g5 g6 g7 g8 g9 q)) tk_X2_hasUnit (by omega) rfl ⟨h4, trivial⟩ ?_
       exact pm_Wg.iret (pm_dec tk_X2_hasUnit rfl) rfl rfl

def f_X2_stripeWith (s4 : cs_S) (a0 : Int32) : Option (Int32) :=
  (if (s4.1 0 0) ≤ 1 then
   some 0
  else
   (if ((s4.1 0 0) - 1) = 0 then none else
   some (a0 / ((s4.1 0 0) - 1))))
def tb_X2_stripeWith : List pm_I := [(0, .aload_n 0, 0, 0), (1, .getfield 9, 115, 0), (4, .iconst 1, 3, 0), (5, .if_icmp .le 14, 19, 0), (8, .iload_n 1, 0, 0), (9, .aload_n 0, 0, 0), (10, .getfield 9, 115, 0), (13, .iconst 1, 3, 0), (14, .isub, 0, 0), (15, .idiv, 0, 0), (16, .goto 4, 20, 0), (19, .iconst 0, 2, 0), (20, .ireturn, 0, 0)]
theorem tk_X2_stripeWith : ∀ e ∈ tb_X2_stripeWith, pm_ck 38 e = true := List.all_eq_true.mp (by decide +kernel)
set_option maxRecDepth 20000 in
set_option maxHeartbeats 20000000 in
theorem e_X2_stripeWith {d : Nat} (hd : 1 ≤ d) {g0 g1 g2 g3 g5 g6 g7 g8 g9 : List pm_E} {q : Nat × Nat × Nat} {s4 : cs_S} {a0 : Int32} {r : Int32} (H : f_X2_stripeWith s4 a0 = some r) : pm_Mt 38 d [.ref 256, .int a0] (cl_h g0 g1 g2 g3 (ct_p4 s4) g5 g6 g7 g8 g9 q) (.inl (some (.int r))) (cl_h g0 g1 g2 g3 (ct_p4 s4) g5 g6 g7 g8 g9 q) := by
  refine pm_Mt.of (by decide) (by decide +kernel) rfl rfl ?_
  unfold f_X2_stripeWith at H
  by_cases h1 : (s4.1 0 0) ≤ 1
  · rw [if_pos h1] at H
    have J := Option.some.inj H
    subst J
    refine pm_Wg.path (k := 5) (ds := [1]) (f' := (20, [some (.ref 256), some (.int a0)], [.int 0], cl_h g0 g1 g2 g3 (ct_p4 s4) g5 g6 g7 g8 g9 q)) tk_X2_stripeWith (by omega) rfl ⟨h1, trivial⟩ ?_
    exact pm_Wg.iret (pm_dec tk_X2_stripeWith rfl) rfl rfl
  · rw [if_neg h1] at H
    by_cases b2 : ((s4.1 0 0) - 1) = 0
    · rw [if_pos b2] at H; cases H
    rw [if_neg b2] at H
    have J := Option.some.inj H
    subst J
    refine pm_Wg.path (k := 11) (ds := [0]) (f' := (20, [some (.ref 256), some (.int a0)], [.int (a0 / ((s4.1 0 0) - 1))], cl_h g0 g1 g2 g3 (ct_p4 s4) g5 g6 g7 g8 g9 q)) tk_X2_stripeWith (by omega) rfl ⟨b2, h1, trivial⟩ ?_
    exact pm_Wg.iret (pm_dec tk_X2_stripeWith rfl) rfl rfl

def f_X2_parityOf (s4 : cs_S) (a0 : Int32) : Option (Int32) :=
  (if (s4.1 0 0) ≤ 0 then
   some 0
  else
   (if (s4.1 0 0) = 0 then none else
   some (a0 - a0 / (s4.1 0 0) * (s4.1 0 0))))
def tb_X2_parityOf : List pm_I := [(0, .aload_n 0, 0, 0), (1, .getfield 9, 115, 0), (4, .ifCond .le 12, 16, 0), (7, .iload_n 1, 0, 0), (8, .aload_n 0, 0, 0), (9, .getfield 9, 115, 0), (12, .irem, 0, 0), (13, .goto 4, 17, 0), (16, .iconst 0, 2, 0), (17, .ireturn, 0, 0)]
theorem tk_X2_parityOf : ∀ e ∈ tb_X2_parityOf, pm_ck 40 e = true := List.all_eq_true.mp (by decide +kernel)
set_option maxRecDepth 20000 in
set_option maxHeartbeats 20000000 in
theorem e_X2_parityOf {d : Nat} (hd : 1 ≤ d) {g0 g1 g2 g3 g5 g6 g7 g8 g9 : List pm_E} {q : Nat × Nat × Nat} {s4 : cs_S} {a0 : Int32} {r : Int32} (H : f_X2_parityOf s4 a0 = some r) : pm_Mt 40 d [.ref 256, .int a0] (cl_h g0 g1 g2 g3 (ct_p4 s4) g5 g6 g7 g8 g9 q) (.inl (some (.int r))) (cl_h g0 g1 g2 g3 (ct_p4 s4) g5 g6 g7 g8 g9 q) := by
  refine pm_Mt.of (by decide) (by decide +kernel) rfl rfl ?_
  unfold f_X2_parityOf at H
  by_cases h1 : (s4.1 0 0) ≤ 0
  · rw [if_pos h1] at H
    have J := Option.some.inj H
    subst J
    refine pm_Wg.path (k := 4) (ds := [1]) (f' := (17, [some (.ref 256), some (.int a0)], [.int 0], cl_h g0 g1 g2 g3 (ct_p4 s4) g5 g6 g7 g8 g9 q)) tk_X2_parityOf (by omega) rfl ⟨h1, trivial⟩ ?_
    exact pm_Wg.iret (pm_dec tk_X2_parityOf rfl) rfl rfl
  · rw [if_neg h1] at H
    by_cases b2 : (s4.1 0 0) = 0
    · rw [if_pos b2] at H; cases H
    rw [if_neg b2] at H
    have J := Option.some.inj H
    subst J
    refine pm_Wg.path (k := 8) (ds := [0]) (f' := (17, [some (.ref 256), some (.int a0)], [.int (a0 - a0 / (s4.1 0 0) * (s4.1 0 0))], cl_h g0 g1 g2 g3 (ct_p4 s4) g5 g6 g7 g8 g9 q)) tk_X2_parityOf (by omega) rfl ⟨b2, h1, trivial⟩ ?_
    exact pm_Wg.iret (pm_dec tk_X2_parityOf rfl) rfl rfl

def f_X3_numberOf (a0 : Int32) (a1 : Int32) : Option (Int32) :=
  some ((a0 * 6) + a1)
def tb_X3_numberOf : List pm_I := [(0, .iload_n 0, 0, 0), (1, .bipush 6, 8, 0), (3, .imul, 0, 0), (4, .iload_n 1, 0, 0), (5, .iadd, 0, 0), (6, .ireturn, 0, 0)]
theorem tk_X3_numberOf : ∀ e ∈ tb_X3_numberOf, pm_ck 42 e = true := List.all_eq_true.mp (by decide +kernel)
set_option maxRecDepth 20000 in
set_option maxHeartbeats 20000000 in
theorem e_X3_numberOf {d : Nat} (hd : 1 ≤ d) {g0 g1 g2 g3 g4 g5 g6 g7 g8 g9 : List pm_E} {q : Nat × Nat × Nat} {a0 : Int32} {a1 : Int32} {r : Int32} (H : f_X3_numberOf a0 a1 = some r) : pm_Mt 42 d [.int a0, .int a1] (cl_h g0 g1 g2 g3 g4 g5 g6 g7 g8 g9 q) (.inl (some (.int r))) (cl_h g0 g1 g2 g3 g4 g5 g6 g7 g8 g9 q) := by
  refine pm_Mt.of (by decide) (by decide +kernel) rfl rfl ?_
  unfold f_X3_numberOf at H
  have J := Option.some.inj H
  subst J
  refine pm_Wg.path (k := 5) (ds := []) (f' := (6, [some (.int a0), some (.int a1)], [.int ((a0 * 6) + a1)], cl_h g0 g1 g2 g3 g4 g5 g6 g7 g8 g9 q)) tk_X3_numberOf (by omega) rfl trivial ?_
  exact pm_Wg.iret (pm_dec tk_X3_numberOf rfl) rfl rfl

def f_X3_rebuildOperation (a0 : Int32) (a1 : Int32) : Option (Int32) :=
  some ((a0 * 7) + a1)
def tb_X3_rebuildOperation : List pm_I := [(0, .iload_n 0, 0, 0), (1, .bipush 7, 9, 0), (3, .imul, 0, 0), (4, .iload_n 1, 0, 0), (5, .iadd, 0, 0), (6, .ireturn, 0, 0)]
theorem tk_X3_rebuildOperation : ∀ e ∈ tb_X3_rebuildOperation, pm_ck 43 e = true := List.all_eq_true.mp (by decide +kernel)
set_option maxRecDepth 20000 in
set_option maxHeartbeats 20000000 in
theorem e_X3_rebuildOperation {d : Nat} (hd : 1 ≤ d) {g0 g1 g2 g3 g4 g5 g6 g7 g8 g9 : List pm_E} {q : Nat × Nat × Nat} {a0 : Int32} {a1 : Int32} {r : Int32} (H : f_X3_rebuildOperation a0 a1 = some r) : pm_Mt 43 d [.int a0, .int a1] (cl_h g0 g1 g2 g3 g4 g5 g6 g7 g8 g9 q) (.inl (some (.int r))) (cl_h g0 g1 g2 g3 g4 g5 g6 g7 g8 g9 q) := by
  refine pm_Mt.of (by decide) (by decide +kernel) rfl rfl ?_
  unfold f_X3_rebuildOperation at H
  have J := Option.some.inj H
  subst J
  refine pm_Wg.path (k := 5) (ds := []) (f' := (6, [some (.int a0), some (.int a1)], [.int ((a0 * 7) + a1)], cl_h g0 g1 g2 g3 g4 g5 g6 g7 g8 g9 q)) tk_X3_rebuildOperation (by omega) rfl trivial ?_
  exact pm_Wg.iret (pm_dec tk_X3_rebuildOperation rfl) rfl rfl

def f_X3_requestOperation (a0 : Int32) (a1 : Int32) : Option (Int32) :=
  some (((64 + a0) * 7) + a1)
def tb_X3_requestOperation : List pm_I := [(0, .bipush 64, 26, 0), (2, .iload_n 0, 0, 0), (3, .iadd, 0, 0), (4, .bipush 7, 9, 0), (6, .imul, 0, 0), (7, .iload_n 1, 0, 0), (8, .iadd, 0, 0), (9, .ireturn, 0, 0)]
theorem tk_X3_requestOperation : ∀ e ∈ tb_X3_requestOperation, pm_ck 44 e = true := List.all_eq_true.mp (by decide +kernel)
set_option maxRecDepth 20000 in
set_option maxHeartbeats 20000000 in
theorem e_X3_requestOperation {d : Nat} (hd : 1 ≤ d) {g0 g1 g2 g3 g4 g5 g6 g7 g8 g9 : List pm_E} {q : Nat × Nat × Nat} {a0 : Int32} {a1 : Int32} {r : Int32} (H : f_X3_requestOperation a0 a1 = some r) : pm_Mt 44 d [.int a0, .int a1] (cl_h g0 g1 g2 g3 g4 g5 g6 g7 g8 g9 q) (.inl (some (.int r))) (cl_h g0 g1 g2 g3 g4 g5 g6 g7 g8 g9 q) := by
  refine pm_Mt.of (by decide) (by decide +kernel) rfl rfl ?_
  unfold f_X3_requestOperation at H
  have J := Option.some.inj H
  subst J
  refine pm_Wg.path (k := 7) (ds := []) (f' := (9, [some (.int a0), some (.int a1)], [.int (((64 + a0) * 7) + a1)], cl_h g0 g1 g2 g3 g4 g5 g6 g7 g8 g9 q)) tk_X3_requestOperation (by omega) rfl trivial ?_
  exact pm_Wg.iret (pm_dec tk_X3_requestOperation rfl) rfl rfl

def f_X3_isOfRebuild (a0 : Int32) : Option (Int32) :=
  (if 448 ≤ a0 then
   some 0
  else
   some 1)
def tb_X3_isOfRebuild : List pm_I := [(0, .iload_n 0, 0, 0), (1, .sipush 448, 34, 0), (4, .if_icmp .ge 7, 11, 0), (7, .iconst 1, 3, 0), (8, .goto 4, 12, 0), (11, .iconst 0, 2, 0), (12, .ireturn, 0, 0)]
theorem tk_X3_isOfRebuild : ∀ e ∈ tb_X3_isOfRebuild, pm_ck 45 e = true := List.all_eq_true.mp (by decide +kernel)
set_option maxRecDepth 20000 in
set_option maxHeartbeats 20000000 in
theorem e_X3_isOfRebuild {d : Nat} (hd : 1 ≤ d) {g0 g1 g2 g3 g4 g5 g6 g7 g8 g9 : List pm_E} {q : Nat × Nat × Nat} {a0 : Int32} {r : Int32} (H : f_X3_isOfRebuild a0 = some r) : pm_Mt 45 d [.int a0] (cl_h g0 g1 g2 g3 g4 g5 g6 g7 g8 g9 q) (.inl (some (.int r))) (cl_h g0 g1 g2 g3 g4 g5 g6 g7 g8 g9 q) := by
  refine pm_Mt.of (by decide) (by decide +kernel) rfl rfl ?_
  unfold f_X3_isOfRebuild at H
  by_cases h1 : 448 ≤ a0
  · rw [if_pos h1] at H
    have J := Option.some.inj H
    subst J
    refine pm_Wg.path (k := 4) (ds := [1]) (f' := (12, [some (.int a0)], [.int 0], cl_h g0 g1 g2 g3 g4 g5 g6 g7 g8 g9 q)) tk_X3_isOfRebuild (by omega) rfl ⟨h1, trivial⟩ ?_
    exact pm_Wg.iret (pm_dec tk_X3_isOfRebuild rfl) rfl rfl
  · rw [if_neg h1] at H
    have J := Option.some.inj H
    subst J
    refine pm_Wg.path (k := 5) (ds := [0]) (f' := (12, [some (.int a0)], [.int 1], cl_h g0 g1 g2 g3 g4 g5 g6 g7 g8 g9 q)) tk_X3_isOfRebuild (by omega) rfl ⟨h1, trivial⟩ ?_
    exact pm_Wg.iret (pm_dec tk_X3_isOfRebuild rfl) rfl rfl

def f_X3_rebuiltStripe (a0 : Int32) : Option (Int32) :=
  some (a0 / 7)
def tb_X3_rebuiltStripe : List pm_I := [(0, .iload_n 0, 0, 0), (1, .bipush 7, 9, 0), (3, .idiv, 0, 0), (4, .ireturn, 0, 0)]
theorem tk_X3_rebuiltStripe : ∀ e ∈ tb_X3_rebuiltStripe, pm_ck 46 e = true := List.all_eq_true.mp (by decide +kernel)
set_option maxRecDepth 20000 in
set_option maxHeartbeats 20000000 in
theorem e_X3_rebuiltStripe {d : Nat} (hd : 1 ≤ d) {g0 g1 g2 g3 g4 g5 g6 g7 g8 g9 : List pm_E} {q : Nat × Nat × Nat} {a0 : Int32} {r : Int32} (H : f_X3_rebuiltStripe a0 = some r) : pm_Mt 46 d [.int a0] (cl_h g0 g1 g2 g3 g4 g5 g6 g7 g8 g9 q) (.inl (some (.int r))) (cl_h g0 g1 g2 g3 g4 g5 g6 g7 g8 g9 q) := by
  refine pm_Mt.of (by decide) (by decide +kernel) rfl rfl ?_
  unfold f_X3_rebuiltStripe at H
  have J := Option.some.inj H
  subst J
  refine pm_Wg.path (k := 3) (ds := []) (f' := (4, [some (.int a0)], [.int (a0 / 7)], cl_h g0 g1 g2 g3 g4 g5 g6 g7 g8 g9 q)) tk_X3_rebuiltStripe (by omega) rfl ⟨(by decide), trivial⟩ ?_
  exact pm_Wg.iret (pm_dec tk_X3_rebuiltStripe rfl) rfl rfl

def f_X3_requestBehind (a0 : Int32) : Option (Int32) :=
  some ((a0 / 7) - 64)
def tb_X3_requestBehind : List pm_I := [(0, .iload_n 0, 0, 0), (1, .bipush 7, 9, 0), (3, .idiv, 0, 0), (4, .bipush 64, 26, 0), (6, .isub, 0, 0), (7, .ireturn, 0, 0)]
theorem tk_X3_requestBehind : ∀ e ∈ tb_X3_requestBehind, pm_ck 47 e = true := List.all_eq_true.mp (by decide +kernel)
set_option maxRecDepth 20000 in
set_option maxHeartbeats 20000000 in
theorem e_X3_requestBehind {d : Nat} (hd : 1 ≤ d) {g0 g1 g2 g3 g4 g5 g6 g7 g8 g9 : List pm_E} {q : Nat × Nat × Nat} {a0 : Int32} {r : Int32} (H : f_X3_requestBehind a0 = some r) : pm_Mt 47 d [.int a0] (cl_h g0 g1 g2 g3 g4 g5 g6 g7 g8 g9 q) (.inl (some (.int r))) (cl_h g0 g1 g2 g3 g4 g5 g6 g7 g8 g9 q) := by
  refine pm_Mt.of (by decide) (by decide +kernel) rfl rfl ?_
  unfold f_X3_requestBehind at H
  have J := Option.some.inj H
  subst J
  refine pm_Wg.path (k := 5) (ds := []) (f' := (7, [some (.int a0)], [.int ((a0 / 7) - 64)], cl_h g0 g1 g2 g3 g4 g5 g6 g7 g8 g9 q)) tk_X3_requestBehind (by omega) rfl ⟨(by decide), trivial⟩ ?_
  exact pm_Wg.iret (pm_dec tk_X3_requestBehind rfl) rfl rfl

def fc_X3_clear_c4 (s5 : cs_S) : Option (cs_S) :=
  some s5
def fc_X3_clear_c3 (s5 : cs_S) : Option (cs_S) :=
  (fc_X3_clear_c4 (cs_d s5 7 (cs_fl (s5.2.2 7) 42 (-1152921504606846976))))
def fc_X3_clear_c2 (s5 : cs_S) : Option (cs_S) :=
  (fc_X3_clear_c3 (cs_d s5 6 (cs_fl (s5.2.2 6) 42 (-1152921504606846976))))
def fc_X3_clear_c1 (s5 : cs_S) : Option (cs_S) :=
  (fc_X3_clear_c2 (cs_d s5 5 (cs_fl (s5.2.2 5) 42 (-1152921504606846976))))
def f_X3_clear (s5 : cs_S) : Option (cs_S) :=
  (fc_X3_clear_c1 (cs_c s5 4 (cs_fi (s5.2.1 4) 42 0)))
def tb_X3_clear : List pm_I := [(0, .aload_n 0, 0, 0), (1, .getfield 18, 18, 0), (4, .iconst 0, 2, 0), (5, .invokestatic 46, 129, 0), (8, .aload_n 0, 0, 0), (9, .getfield 21, 21, 0), (12, .ldc2_w 52, 2, 0), (15, .invokestatic 54, 130, 0), (18, .aload_n 0, 0, 0), (19, .getfield 25, 22, 0), (22, .ldc2_w 52, 2, 0), (25, .invokestatic 54, 130, 0), (28, .aload_n 0, 0, 0), (29, .getfield 28, 23, 0), (32, .ldc2_w 52, 2, 0), (35, .invokestatic 54, 130, 0), (38, .return_, 0, 0)]
theorem tk_X3_clear : ∀ e ∈ tb_X3_clear, pm_ck 48 e = true := List.all_eq_true.mp (by decide +kernel)
set_option maxRecDepth 20000 in
set_option maxHeartbeats 20000000 in
theorem ec_X3_clear_c4 {d : Nat} (hd : 2 ≤ d) {g0 g1 g2 g3 g4 g6 g7 g8 g9 : List pm_E} {p5 t5 : Value} {q : Nat × Nat × Nat} {s5 : cs_S} {z5 : cs_S} (H : fc_X3_clear_c4 s5 = some z5) : pm_Wg 48 d (.inl (none)) (cl_h g0 g1 g2 g3 g4 (ct_e5 p5 t5 z5) g6 g7 g8 g9 q) (38, [some (.ref 321)], [], cl_h g0 g1 g2 g3 g4 (ct_e5 p5 t5 s5) g6 g7 g8 g9 q) := by
  obtain ⟨d, rfl⟩ : ∃ d', d = d' + 1 := ⟨d - 1, by omega⟩
  unfold fc_X3_clear_c4 at H
  try dsimp only at H
  have J := Option.some.inj H
  subst J
  exact pm_Wg.vret (pm_dec tk_X3_clear rfl) rfl
set_option maxRecDepth 20000 in
set_option maxHeartbeats 20000000 in
theorem ec_X3_clear_c3 {d : Nat} (hd : 2 ≤ d) {g0 g1 g2 g3 g4 g6 g7 g8 g9 : List pm_E} {p5 t5 : Value} {q : Nat × Nat × Nat} {s5 : cs_S} {z5 : cs_S} (H : fc_X3_clear_c3 s5 = some z5) : pm_Wg 48 d (.inl (none)) (cl_h g0 g1 g2 g3 g4 (ct_e5 p5 t5 z5) g6 g7 g8 g9 q) (28, [some (.ref 321)], [], cl_h g0 g1 g2 g3 g4 (ct_e5 p5 t5 s5) g6 g7 g8 g9 q) := by
  obtain ⟨d, rfl⟩ : ∃ d', d = d' + 1 := ⟨d - 1, by omega⟩
  unfold fc_X3_clear_c3 at H
  try dsimp only at H
  refine pm_Wg.path (k := 3) (ds := []) (f' := (35, [some (.ref 321)], [.long (-1152921504606846976), .ref 327], cl_h g0 g1 g2 g3 g4 (ct_e5 p5 t5 s5) g6 g7 g8 g9 q)) tk_X3_clear (by omega) rfl trivial ?_
  refine pm_Wg.callS (m' := 306) (ix := 54) (rr := 130) (pl := 1082) (As := [.ref 327, .long (-1152921504606846976)]) (S := []) (h1 := cl_h g0 g1 g2 g3 g4 (ct_e5 p5 t5 (cs_d s5 7 (cs_fl (s5.2.2 7) 42 (-1152921504606846976)))) g6 g7 g8 g9 q) (by decide) rfl (pm_dec tk_X3_clear rfl) rfl rfl rfl (Nat.le_of_ble_eq_true rfl) rfl (e_fillL (by omega) (b := 327) (n := 42) (f := s5.2.2 7) (by decide) rfl rfl) ?_
  exact ec_X3_clear_c4 (by omega) H
set_option maxRecDepth 20000 in
set_option maxHeartbeats 20000000 in
theorem ec_X3_clear_c2 {d : Nat} (hd : 2 ≤ d) {g0 g1 g2 g3 g4 g6 g7 g8 g9 : List pm_E} {p5 t5 : Value} {q : Nat × Nat × Nat} {s5 : cs_S} {z5 : cs_S} (H : fc_X3_clear_c2 s5 = some z5) : pm_Wg 48 d (.inl (none)) (cl_h g0 g1 g2 g3 g4 (ct_e5 p5 t5 z5) g6 g7 g8 g9 q) (18, [some (.ref 321)], [], cl_h g0 g1 g2 g3 g4 (ct_e5 p5 t5 s5) g6 g7 g8 g9 q) := by
  obtain ⟨d, rfl⟩ : ∃ d', d = d' + 1 := ⟨d - 1, by omega⟩
  unfold fc_X3_clear_c2 at H
  try dsimp only at H
  refine pm_Wg.path (k := 3) (ds := []) (f' := (25, [some (.ref 321)], [.long (-1152921504606846976), .ref 326], cl_h g0 g1 g2 g3 g4 (ct_e5 p5 t5 s5) g6 g7 g8 g9 q)) tk_X3_clear (by omega) rfl trivial ?_
  refine pm_Wg.callS (m' := 306) (ix := 54) (rr := 130) (pl := 1082) (As := [.ref 326, .long (-1152921504606846976)]) (S := []) (h1 := cl_h g0 g1 g2 g3 g4 (ct_e5 p5 t5 (cs_d s5 6 (cs_fl (s5.2.2 6) 42 (-1152921504606846976)))) g6 g7 g8 g9 q) (by decide) rfl (pm_dec tk_X3_clear rfl) rfl rfl rfl (Nat.le_of_ble_eq_true rfl) rfl (e_fillL (by omega) (b := 326) (n := 42) (f := s5.2.2 6) (by decide) rfl rfl) ?_
  exact ec_X3_clear_c3 (by omega) H
set_option maxRecDepth 20000 in
set_option maxHeartbeats 20000000 in
theorem ec_X3_clear_c1 {d : Nat} (hd : 2 ≤ d) {g0 g1 g2 g3 g4 g6 g7 g8 g9 : List pm_E} {p5 t5 : Value} {q : Nat × Nat × Nat} {s5 : cs_S} {z5 : cs_S} (H : fc_X3_clear_c1 s5 = some z5) : pm_Wg 48 d (.inl (none)) (cl_h g0 g1 g2 g3 g4 (ct_e5 p5 t5 z5) g6 g7 g8 g9 q) (8, [some (.ref 321)], [], cl_h g0 g1 g2 g3 g4 (ct_e5 p5 t5 s5) g6 g7 g8 g9 q) := by
  obtain ⟨d, rfl⟩ : ∃ d', d = d' + 1 := ⟨d - 1, by omega⟩
  unfold fc_X3_clear_c1 at H
  try dsimp only at H
  refine pm_Wg.path (k := 3) (ds := []) (f' := (15, [some (.ref 321)], [.long (-1152921504606846976), .ref 325], cl_h g0 g1 g2 g3 g4 (ct_e5 p5 t5 s5) g6 g7 g8 g9 q)) tk_X3_clear (by omega) rfl trivial ?_
  refine pm_Wg.callS (m' := 306) (ix := 54) (rr := 130) (pl := 1082) (As := [.ref 325, .long (-1152921504606846976)]) (S := []) (h1 := cl_h g0 g1 g2 g3 g4 (ct_e5 p5 t5 (cs_d s5 5 (cs_fl (s5.2.2 5) 42 (-1152921504606846976)))) g6 g7 g8 g9 q) (by decide) rfl (pm_dec tk_X3_clear rfl) rfl rfl rfl (Nat.le_of_ble_eq_true rfl) rfl (e_fillL (by omega) (b := 325) (n := 42) (f := s5.2.2 5) (by decide) rfl rfl) ?_
  exact ec_X3_clear_c2 (by omega) H
set_option maxRecDepth 20000 in
set_option maxHeartbeats 20000000 in
theorem e_X3_clear {d : Nat} (hd : 2 ≤ d) {g0 g1 g2 g3 g4 g6 g7 g8 g9 : List pm_E} {p5 t5 : Value} {q : Nat × Nat × Nat} {s5 : cs_S} {z5 : cs_S} (H : f_X3_clear s5 = some z5) : pm_Mt 48 d [.ref 321] (cl_h g0 g1 g2 g3 g4 (ct_e5 p5 t5 s5) g6 g7 g8 g9 q) (.inl (none)) (cl_h g0 g1 g2 g3 g4 (ct_e5 p5 t5 z5) g6 g7 g8 g9 q) := by
  refine pm_Mt.of (by decide) (by decide +kernel) rfl rfl ?_
  obtain ⟨d, rfl⟩ : ∃ d', d = d' + 1 := ⟨d - 1, by omega⟩
  unfold f_X3_clear at H
  refine pm_Wg.path (k := 3) (ds := []) (f' := (5, [some (.ref 321)], [.int 0, .ref 324], cl_h g0 g1 g2 g3 g4 (ct_e5 p5 t5 s5) g6 g7 g8 g9 q)) tk_X3_clear (by omega) rfl trivial ?_
  refine pm_Wg.callS (m' := 307) (ix := 46) (rr := 129) (pl := 1079) (As := [.ref 324, .int 0]) (S := []) (h1 := cl_h g0 g1 g2 g3 g4 (ct_e5 p5 t5 (cs_c s5 4 (cs_fi (s5.2.1 4) 42 0))) g6 g7 g8 g9 q) (by decide) rfl (pm_dec tk_X3_clear rfl) rfl rfl rfl (Nat.le_of_ble_eq_true rfl) rfl (e_fillI (by omega) (b := 324) (n := 42) (f := s5.2.1 4) (by decide) rfl rfl) ?_
  exact ec_X3_clear_c1 (by omega) H

def fc_X3_copyFrom_c10 (s5 : cs_S) (s7 : cs_S) (l2 : Int32) (l3 : Int32) (k0 : Int32) (k1 : Int32) (k3 : Int32) : Option (cs_S) :=
  (match pm_cpo k3 k1 k0 3248 3248 with
  | false => none
  | true =>
  some (cs_c s7 12 (va_cpy (s5.2.1 12) (s7.2.1 12) (Int32.toNatClampNeg k3) (Int32.toNatClampNeg k1) (Int32.toNatClampNeg k0))))
def fc_X3_copyFrom_c9 (s5 : cs_S) (s7 : cs_S) (l2 : Int32) (l3 : Int32) (k0 : Int32) (k1 : Int32) (k3 : Int32) : Option (cs_S) :=
  (match pm_cpo k3 k1 k0 3248 3248 with
  | false => none
  | true =>
  (fc_X3_copyFrom_c10 s5 (cs_c s7 11 (va_cpy (s5.2.1 11) (s7.2.1 11) (Int32.toNatClampNeg k3) (Int32.toNatClampNeg k1) (Int32.toNatClampNeg k0))) l2 l3 l3 0 0))
def fc_X3_copyFrom_c8 (s5 : cs_S) (s7 : cs_S) (l2 : Int32) (l3 : Int32) (k0 : Int32) (k1 : Int32) (k3 : Int32) : Option (cs_S) :=
  (match pm_cpo k3 k1 k0 3248 3248 with
  | false => none
  | true =>
  (fc_X3_copyFrom_c9 s5 (cs_d s7 10 (va_cpy (s5.2.2 10) (s7.2.2 10) (Int32.toNatClampNeg k3) (Int32.toNatClampNeg k1) (Int32.toNatClampNeg k0))) l2 l3 l3 0 0))
def fc_X3_copyFrom_c7 (s5 : cs_S) (s7 : cs_S) (l2 : Int32) (l3 : Int32) (k0 : Int32) (k1 : Int32) (k3 : Int32) : Option (cs_S) :=
  (match pm_cpo k3 k1 k0 3248 3248 with
  | false => none
  | true =>
  (fc_X3_copyFrom_c8 s5 (cs_d s7 9 (va_cpy (s5.2.2 9) (s7.2.2 9) (Int32.toNatClampNeg k3) (Int32.toNatClampNeg k1) (Int32.toNatClampNeg k0))) l2 l3 l3 0 0))
def fc_X3_copyFrom_c6 (s5 : cs_S) (s7 : cs_S) (l2 : Int32) (l3 : Int32) (k0 : Int32) (k1 : Int32) (k3 : Int32) : Option (cs_S) :=
  (match pm_cpo k3 k1 k0 3248 3248 with
  | false => none
  | true =>
  (fc_X3_copyFrom_c7 s5 (cs_d s7 8 (va_cpy (s5.2.2 8) (s7.2.2 8) (Int32.toNatClampNeg k3) (Int32.toNatClampNeg k1) (Int32.toNatClampNeg k0))) l2 l3 l3 0 0))
def fc_X3_copyFrom_c5 (s5 : cs_S) (s7 : cs_S) (l2 : Int32) (k0 : Int32) (k1 : Int32) (k3 : Int32) : Option (cs_S) :=
  (match pm_cpo k3 k1 k0 42 42 with
  | false => none
  | true =>
  (match f_X3_requestOperation l2 0 with
  | none => none
  | some r7 =>
   (fc_X3_copyFrom_c6 s5 (cs_d s7 7 (va_cpy (s5.2.2 7) (s7.2.2 7) (Int32.toNatClampNeg k3) (Int32.toNatClampNeg k1) (Int32.toNatClampNeg k0))) l2 (if 3248 < r7 then 3248 else r7) (if 3248 < r7 then 3248 else r7) 0 0)))
def fc_X3_copyFrom_c4 (s5 : cs_S) (s7 : cs_S) (l2 : Int32) (k0 : Int32) (k1 : Int32) (k3 : Int32) : Option (cs_S) :=
  (match pm_cpo k3 k1 k0 42 42 with
  | false => none
  | true =>
  (fc_X3_copyFrom_c5 s5 (cs_d s7 6 (va_cpy (s5.2.2 6) (s7.2.2 6) (Int32.toNatClampNeg k3) (Int32.toNatClampNeg k1) (Int32.toNatClampNeg k0))) l2 42 0 0))
def fc_X3_copyFrom_c3 (s5 : cs_S) (s7 : cs_S) (l2 : Int32) (k0 : Int32) (k1 : Int32) (k3 : Int32) : Option (cs_S) :=
  (match pm_cpo k3 k1 k0 42 42 with
  | false => none
  | true =>
  (fc_X3_copyFrom_c4 s5 (cs_d s7 5 (va_cpy (s5.2.2 5) (s7.2.2 5) (Int32.toNatClampNeg k3) (Int32.toNatClampNeg k1) (Int32.toNatClampNeg k0))) l2 42 0 0))
def fc_X3_copyFrom_c2 (s5 : cs_S) (s7 : cs_S) (l2 : Int32) (k0 : Int32) (k1 : Int32) (k3 : Int32) : Option (cs_S) :=
  (match pm_cpo k3 k1 k0 42 42 with
  | false => none
  | true =>
  (fc_X3_copyFrom_c3 s5 (cs_c s7 4 (va_cpy (s5.2.1 4) (s7.2.1 4) (Int32.toNatClampNeg k3) (Int32.toNatClampNeg k1) (Int32.toNatClampNeg k0))) l2 42 0 0))
def fc_X3_copyFrom_c1 (s5 : cs_S) (s7 : cs_S) (l2 : Int32) (k0 : Int32) (k1 : Int32) (k3 : Int32) : Option (cs_S) :=
  (match pm_cpo k3 k1 k0 42 42 with
  | false => none
  | true =>
  (fc_X3_copyFrom_c2 s5 (cs_c s7 3 (va_cpy (s5.2.1 3) (s7.2.1 3) (Int32.toNatClampNeg k3) (Int32.toNatClampNeg k1) (Int32.toNatClampNeg k0))) l2 42 0 0))
def f_X3_copyFrom (s5 : cs_S) (s7 : cs_S) (a1 : Int32) : Option (cs_S) :=
  (match pm_cpo 0 0 42 42 42 with
  | false => none
  | true =>
  (fc_X3_copyFrom_c1 s5 (cs_c s7 2 (va_cpy (s5.2.1 2) (s7.2.1 2) (Int32.toNatClampNeg 0) (Int32.toNatClampNeg 0) (Int32.toNatClampNeg 42))) a1 42 0 0))
def tb_X3_copyFrom : List pm_I := [(0, .aload_n 1, 0, 0), (1, .getfield 11, 15, 0), (4, .iconst 0, 2, 0), (5, .aload_n 0, 0, 0), (6, .getfield 11, 15, 0), (9, .iconst 0, 2, 0), (10, .bipush 42, 19, 0), (12, .invokestatic 57, 0, 1), (15, .aload_n 1, 0, 0), (16, .getfield 15, 17, 0), (19, .iconst 0, 2, 0), (20, .aload_n 0, 0, 0), (21, .getfield 15, 17, 0), (24, .iconst 0, 2, 0), (25, .bipush 42, 19, 0), (27, .invokestatic 57, 0, 1), (30, .aload_n 1, 0, 0), (31, .getfield 18, 18, 0), (34, .iconst 0, 2, 0), (35, .aload_n 0, 0, 0), (36, .getfield 18, 18, 0), (39, .iconst 0, 2, 0), (40, .bipush 42, 19, 0), (42, .invokestatic 57, 0, 1), (45, .aload_n 1, 0, 0), (46, .getfield 21, 21, 0), (49, .iconst 0, 2, 0), (50, .aload_n 0, 0, 0), (51, .getfield 21, 21, 0), (54, .iconst 0, 2, 0), (55, .bipush 42, 19, 0), (57, .invokestatic 57, 0, 1), (60, .aload_n 1, 0, 0), (61, .getfield 25, 22, 0), (64, .iconst 0, 2, 0), (65, .aload_n 0, 0, 0), (66, .getfield 25, 22, 0), (69, .iconst 0, 2, 0), (70, .bipush 42, 19, 0), (72, .invokestatic 57, 0, 1), (75, .aload_n 1, 0, 0), (76, .getfield 28, 23, 0), (79, .iconst 0, 2, 0), (80, .aload_n 0, 0, 0), (81, .getfield 28, 23, 0), (84, .iconst 0, 2, 0), (85, .bipush 42, 19, 0), (87, .invokestatic 57, 0, 1), (90, .iload_n 2, 0, 0), (91, .iconst 0, 2, 0), (92, .invokestatic 63, 20, 0), (95, .sipush 3248, 44, 0), (98, .invokestatic 67, 21, 3), (101, .istore_n 3, 0, 0), (102, .aload_n 1, 0, 0), (103, .getfield 31, 24, 0), (106, .iconst 0, 2, 0), (107, .aload_n 0, 0, 0), (108, .getfield 31, 24, 0), (111, .iconst 0, 2, 0), (112, .iload_n 3, 0, 0), (113, .invokestatic 57, 0, 1), (116, .aload_n 1, 0, 0), (117, .getfield 34, 26, 0), (120, .iconst 0, 2, 0), (121, .aload_n 0, 0, 0), (122, .getfield 34, 26, 0), (125, .iconst 0, 2, 0), (126, .iload_n 3, 0, 0), (127, .invokestatic 57, 0, 1), (130, .aload_n 1, 0, 0), (131, .getfield 37, 28, 0), (134, .iconst 0, 2, 0), (135, .aload_n 0, 0, 0), (136, .getfield 37, 28, 0), (139, .iconst 0, 2, 0), (140, .iload_n 3, 0, 0), (141, .invokestatic 57, 0, 1), (144, .aload_n 1, 0, 0), (145, .getfield 40, 30, 0), (148, .iconst 0, 2, 0), (149, .aload_n 0, 0, 0), (150, .getfield 40, 30, 0), (153, .iconst 0, 2, 0), (154, .iload_n 3, 0, 0), (155, .invokestatic 57, 0, 1), (158, .aload_n 1, 0, 0), (159, .getfield 43, 31, 0), (162, .iconst 0, 2, 0), (163, .aload_n 0, 0, 0), (164, .getfield 43, 31, 0), (167, .iconst 0, 2, 0), (168, .iload_n 3, 0, 0), (169, .invokestatic 57, 0, 1), (172, .return_, 0, 0)]
theorem tk_X3_copyFrom : ∀ e ∈ tb_X3_copyFrom, pm_ck 49 e = true := List.all_eq_true.mp (by decide +kernel)
set_option maxRecDepth 20000 in
set_option maxHeartbeats 20000000 in
theorem ec_X3_copyFrom_c10 {d : Nat} (hd : 2 ≤ d) {g0 g1 g2 g3 g4 g6 g8 g9 : List pm_E} {p5 t5 p7 t7 : Value} {q : Nat × Nat × Nat} {s5 : cs_S} {s7 : cs_S} {l2 : Int32} {l3 : Int32} {k0 : Int32} {k1 : Int32} {k3 : Int32} {z7 : cs_S} (H : fc_X3_copyFrom_c10 s5 s7 l2 l3 k0 k1 k3 = some z7) : pm_Wg 49 d (.inl (none)) (cl_h g0 g1 g2 g3 g4 (ct_e5 p5 t5 s5) g6 (ct_e7 p7 t7 z7) g8 g9 q) (169, [some (.ref 449), some (.ref 321), some (.int l2), some (.int l3)], [.int k0, .int k1, .ref 460, .int k3, .ref 332], cl_h g0 g1 g2 g3 g4 (ct_e5 p5 t5 s5) g6 (ct_e7 p7 t7 s7) g8 g9 q) := by
  obtain ⟨d, rfl⟩ : ∃ d', d = d' + 1 := ⟨d - 1, by omega⟩
  unfold fc_X3_copyFrom_c10 at H
  try dsimp only at H
  cases b13 : pm_cpo k3 k1 k0 3248 3248 with
  | false => rw [b13] at H; cases H
  | true =>
   rw [b13] at H
   dsimp only at H
   have J := Option.some.inj H
   subst J
   refine pm_Wg.path (k := 1) (ds := []) (f' := (172, [some (.ref 449), some (.ref 321), some (.int l2), some (.int l3)], [], cl_h g0 g1 g2 g3 g4 (ct_e5 p5 t5 s5) g6 (ct_e7 p7 t7 (cs_c s7 12 (va_cpy (s5.2.1 12) (s7.2.1 12) (Int32.toNatClampNeg k3) (Int32.toNatClampNeg k1) (Int32.toNatClampNeg k0)))) g8 g9 q)) tk_X3_copyFrom (by omega) rfl ⟨pm_cpo_ok b13, trivial⟩ ?_
   exact pm_Wg.vret (pm_dec tk_X3_copyFrom rfl) rfl
set_option maxRecDepth 20000 in
set_option maxHeartbeats 20000000 in
theorem ec_X3_copyFrom_c9 {d : Nat} (hd : 2 ≤ d) {g0 g1 g2 g3 g4 g6 g8 g9 : List pm_E} {p5 t5 p7 t7 : Value} {q : Nat × Nat × Nat} {s5 : cs_S} {s7 : cs_S} {l2 : Int32} {l3 : Int32} {k0 : Int32} {k1 : Int32} {k3 : Int32} {z7 : cs_S} (H : fc_X3_copyFrom_c9 s5 s7 l2 l3 k0 k1 k3 = some z7) : pm_Wg 49 d (.inl (none)) (cl_h g0 g1 g2 g3 g4 (ct_e5 p5 t5 s5) g6 (ct_e7 p7 t7 z7) g8 g9 q) (155, [some (.ref 449), some (.ref 321), some (.int l2), some (.int l3)], [.int k0, .int k1, .ref 459, .int k3, .ref 331], cl_h g0 g1 g2 g3 g4 (ct_e5 p5 t5 s5) g6 (ct_e7 p7 t7 s7) g8 g9 q) := by
  obtain ⟨d, rfl⟩ : ∃ d', d = d' + 1 := ⟨d - 1, by omega⟩
  unfold fc_X3_copyFrom_c9 at H
  try dsimp only at H
  cases b12 : pm_cpo k3 k1 k0 3248 3248 with
  | false => rw [b12] at H; cases H
  | true =>
   rw [b12] at H
   dsimp only at H
   refine pm_Wg.path (k := 8) (ds := []) (f' := (169, [some (.ref 449), some (.ref 321), some (.int l2), some (.int l3)], [.int l3, .int 0, .ref 460, .int 0, .ref 332], cl_h g0 g1 g2 g3 g4 (ct_e5 p5 t5 s5) g6 (ct_e7 p7 t7 (cs_c s7 11 (va_cpy (s5.2.1 11) (s7.2.1 11) (Int32.toNatClampNeg k3) (Int32.toNatClampNeg k1) (Int32.toNatClampNeg k0)))) g8 g9 q)) tk_X3_copyFrom (by omega) rfl ⟨pm_cpo_ok b12, trivial⟩ ?_
   exact ec_X3_copyFrom_c10 (by omega) H
set_option maxRecDepth 20000 in
set_option maxHeartbeats 20000000 in
theorem ec_X3_copyFrom_c8 {d : Nat} (hd : 2 ≤ d) {g0 g1 g2 g3 g4 g6 g8 g9 : List pm_E} {p5 t5 p7 t7 : Value} {q : Nat × Nat × Nat} {s5 : cs_S} {s7 : cs_S} {l2 : Int32} {l3 : Int32} {k0 : Int32} {k1 : Int32} {k3 : Int32} {z7 : cs_S} (H : fc_X3_copyFrom_c8 s5 s7 l2 l3 k0 k1 k3 = some z7) : pm_Wg 49 d (.inl (none)) (cl_h g0 g1 g2 g3 g4 (ct_e5 p5 t5 s5) g6 (ct_e7 p7 t7 z7) g8 g9 q) (141, [some (.ref 449), some (.ref 321), some (.int l2), some (.int l3)], [.int k0, .int k1, .ref 458, .int k3, .ref 330], cl_h g0 g1 g2 g3 g4 (ct_e5 p5 t5 s5) g6 (ct_e7 p7 t7 s7) g8 g9 q) := by
  obtain ⟨d, rfl⟩ : ∃ d', d = d' + 1 := ⟨d - 1, by omega⟩
  unfold fc_X3_copyFrom_c8 at H
  try dsimp only at H
  cases b11 : pm_cpo k3 k1 k0 3248 3248 with
  | false => rw [b11] at H; cases H
  | true =>
   rw [b11] at H
   dsimp only at H
   refine pm_Wg.path (k := 8) (ds := []) (f' := (155, [some (.ref 449), some (.ref 321), some (.int l2), some (.int l3)], [.int l3, .int 0, .ref 459, .int 0, .ref 331], cl_h g0 g1 g2 g3 g4 (ct_e5 p5 t5 s5) g6 (ct_e7 p7 t7 (cs_d s7 10 (va_cpy (s5.2.2 10) (s7.2.2 10) (Int32.toNatClampNeg k3) (Int32.toNatClampNeg k1) (Int32.toNatClampNeg k0)))) g8 g9 q)) tk_X3_copyFrom (by omega) rfl ⟨pm_cpo_ok b11, trivial⟩ ?_
   exact ec_X3_copyFrom_c9 (by omega) H
set_option maxRecDepth 20000 in
set_option maxHeartbeats 20000000 in
theorem ec_X3_copyFrom_c7 {d : Nat} (hd : 2 ≤ d) {g0 g1 g2 g3 g4 g6 g8 g9 : List pm_E} {p5 t5 p7 t7 : Value} {q : Nat × Nat × Nat} {s5 : cs_S} {s7 : cs_S} {l2 : Int32} {l3 : Int32} {k0 : Int32} {k1 : Int32} {k3 : Int32} {z7 : cs_S} (H : fc_X3_copyFrom_c7 s5 s7 l2 l3 k0 k1 k3 = some z7) : pm_Wg 49 d (.inl (none)) (cl_h g0 g1 g2 g3 g4 (ct_e5 p5 t5 s5) g6 (ct_e7 p7 t7 z7) g8 g9 q) (127, [some (.ref 449), some (.ref 321), some (.int l2), some (.int l3)], [.int k0, .int k1, .ref 457, .int k3, .ref 329], cl_h g0 g1 g2 g3 g4 (ct_e5 p5 t5 s5) g6 (ct_e7 p7 t7 s7) g8 g9 q) := by
  obtain ⟨d, rfl⟩ : ∃ d', d = d' + 1 := ⟨d - 1, by omega⟩
  unfold fc_X3_copyFrom_c7 at H
  try dsimp only at H
  cases b10 : pm_cpo k3 k1 k0 3248 3248 with
  | false => rw [b10] at H; cases H
  | true =>
   rw [b10] at H
   dsimp only at H
   refine pm_Wg.path (k := 8) (ds := []) (f' := (141, [some (.ref 449), some (.ref 321), some (.int l2), some (.int l3)], [.int l3, .int 0, .ref 458, .int 0, .ref 330], cl_h g0 g1 g2 g3 g4 (ct_e5 p5 t5 s5) g6 (ct_e7 p7 t7 (cs_d s7 9 (va_cpy (s5.2.2 9) (s7.2.2 9) (Int32.toNatClampNeg k3) (Int32.toNatClampNeg k1) (Int32.toNatClampNeg k0)))) g8 g9 q)) tk_X3_copyFrom (by omega) rfl ⟨pm_cpo_ok b10, trivial⟩ ?_
   exact ec_X3_copyFrom_c8 (by omega) H
set_option maxRecDepth 20000 in
set_option maxHeartbeats 20000000 in
theorem ec_X3_copyFrom_c6 {d : Nat} (hd : 2 ≤ d) {g0 g1 g2 g3 g4 g6 g8 g9 : List pm_E} {p5 t5 p7 t7 : Value} {q : Nat × Nat × Nat} {s5 : cs_S} {s7 : cs_S} {l2 : Int32} {l3 : Int32} {k0 : Int32} {k1 : Int32} {k3 : Int32} {z7 : cs_S} (H : fc_X3_copyFrom_c6 s5 s7 l2 l3 k0 k1 k3 = some z7) : pm_Wg 49 d (.inl (none)) (cl_h g0 g1 g2 g3 g4 (ct_e5 p5 t5 s5) g6 (ct_e7 p7 t7 z7) g8 g9 q) (113, [some (.ref 449), some (.ref 321), some (.int l2), some (.int l3)], [.int k0, .int k1, .ref 456, .int k3, .ref 328], cl_h g0 g1 g2 g3 g4 (ct_e5 p5 t5 s5) g6 (ct_e7 p7 t7 s7) g8 g9 q) := by
  obtain ⟨d, rfl⟩ : ∃ d', d = d' + 1 := ⟨d - 1, by omega⟩
  unfold fc_X3_copyFrom_c6 at H
  try dsimp only at H
  cases b9 : pm_cpo k3 k1 k0 3248 3248 with
  | false => rw [b9] at H; cases H
  | true =>
   rw [b9] at H
   dsimp only at H
   refine pm_Wg.path (k := 8) (ds := []) (f' := (127, [some (.ref 449), some (.ref 321), some (.int l2), some (.int l3)], [.int l3, .int 0, .ref 457, .int 0, .ref 329], cl_h g0 g1 g2 g3 g4 (ct_e5 p5 t5 s5) g6 (ct_e7 p7 t7 (cs_d s7 8 (va_cpy (s5.2.2 8) (s7.2.2 8) (Int32.toNatClampNeg k3) (Int32.toNatClampNeg k1) (Int32.toNatClampNeg k0)))) g8 g9 q)) tk_X3_copyFrom (by omega) rfl ⟨pm_cpo_ok b9, trivial⟩ ?_
   exact ec_X3_copyFrom_c7 (by omega) H
set_option maxRecDepth 20000 in
set_option maxHeartbeats 20000000 in
theorem ec_X3_copyFrom_c5 {d : Nat} (hd : 2 ≤ d) {g0 g1 g2 g3 g4 g6 g8 g9 : List pm_E} {p5 t5 p7 t7 : Value} {q : Nat × Nat × Nat} {s5 : cs_S} {s7 : cs_S} {l2 : Int32} {k0 : Int32} {k1 : Int32} {k3 : Int32} {z7 : cs_S} (H : fc_X3_copyFrom_c5 s5 s7 l2 k0 k1 k3 = some z7) : pm_Wg 49 d (.inl (none)) (cl_h g0 g1 g2 g3 g4 (ct_e5 p5 t5 s5) g6 (ct_e7 p7 t7 z7) g8 g9 q) (87, [some (.ref 449), some (.ref 321), some (.int l2), none], [.int k0, .int k1, .ref 455, .int k3, .ref 327], cl_h g0 g1 g2 g3 g4 (ct_e5 p5 t5 s5) g6 (ct_e7 p7 t7 s7) g8 g9 q) := by
  obtain ⟨d, rfl⟩ : ∃ d', d = d' + 1 := ⟨d - 1, by omega⟩
  unfold fc_X3_copyFrom_c5 at H
  try dsimp only at H
  cases b6 : pm_cpo k3 k1 k0 42 42 with
  | false => rw [b6] at H; cases H
  | true =>
   rw [b6] at H
   dsimp only at H
   cases q8 : f_X3_requestOperation l2 0 with
   | none => rw [q8] at H; cases H
   | some r7 =>
    rw [q8] at H
    dsimp only at H
    refine pm_Wg.path (k := 3) (ds := []) (f' := (92, [some (.ref 449), some (.ref 321), some (.int l2), none], [.int 0, .int l2], cl_h g0 g1 g2 g3 g4 (ct_e5 p5 t5 s5) g6 (ct_e7 p7 t7 (cs_d s7 7 (va_cpy (s5.2.2 7) (s7.2.2 7) (Int32.toNatClampNeg k3) (Int32.toNatClampNeg k1) (Int32.toNatClampNeg k0)))) g8 g9 q)) tk_X3_copyFrom (by omega) rfl ⟨pm_cpo_ok b6, trivial⟩ ?_
    refine pm_Wg.callS (m' := 44) (ix := 63) (rr := 20) (pl := 505) (As := [.int l2, .int 0]) (S := []) (by decide) rfl (pm_dec tk_X3_copyFrom rfl) rfl rfl rfl (Nat.le_of_ble_eq_true rfl) rfl (e_X3_requestOperation (by omega) q8) ?_
    refine pm_Wg.path (k := 10) (ds := []) (f' := (113, [some (.ref 449), some (.ref 321), some (.int l2), some (.int (if 3248 < r7 then 3248 else r7))], [.int (if 3248 < r7 then 3248 else r7), .int 0, .ref 456, .int 0, .ref 328], cl_h g0 g1 g2 g3 g4 (ct_e5 p5 t5 s5) g6 (ct_e7 p7 t7 (cs_d s7 7 (va_cpy (s5.2.2 7) (s7.2.2 7) (Int32.toNatClampNeg k3) (Int32.toNatClampNeg k1) (Int32.toNatClampNeg k0)))) g8 g9 q)) tk_X3_copyFrom (by omega) rfl trivial ?_
    exact ec_X3_copyFrom_c6 (by omega) H
set_option maxRecDepth 20000 in
set_option maxHeartbeats 20000000 in
theorem ec_X3_copyFrom_c4 {d : Nat} (hd : 2 ≤ d) {g0 g1 g2 g3 g4 g6 g8 g9 : List pm_E} {p5 t5 p7 t7 : Value} {q : Nat × Nat × Nat} {s5 : cs_S} {s7 : cs_S} {l2 : Int32} {k0 : Int32} {k1 : Int32} {k3 : Int32} {z7 : cs_S} (H : fc_X3_copyFrom_c4 s5 s7 l2 k0 k1 k3 = some z7) : pm_Wg 49 d (.inl (none)) (cl_h g0 g1 g2 g3 g4 (ct_e5 p5 t5 s5) g6 (ct_e7 p7 t7 z7) g8 g9 q) (72, [some (.ref 449), some (.ref 321), some (.int l2), none], [.int k0, .int k1, .ref 454, .int k3, .ref 326], cl_h g0 g1 g2 g3 g4 (ct_e5 p5 t5 s5) g6 (ct_e7 p7 t7 s7) g8 g9 q) := by
  obtain ⟨d, rfl⟩ : ∃ d', d = d' + 1 := ⟨d - 1, by omega⟩
  unfold fc_X3_copyFrom_c4 at H
  try dsimp only at H
  cases b5 : pm_cpo k3 k1 k0 42 42 with
  | false => rw [b5] at H; cases H
  | true =>
   rw [b5] at H
   dsimp only at H
   refine pm_Wg.path (k := 8) (ds := []) (f' := (87, [some (.ref 449), some (.ref 321), some (.int l2), none], [.int 42, .int 0, .ref 455, .int 0, .ref 327], cl_h g0 g1 g2 g3 g4 (ct_e5 p5 t5 s5) g6 (ct_e7 p7 t7 (cs_d s7 6 (va_cpy (s5.2.2 6) (s7.2.2 6) (Int32.toNatClampNeg k3) (Int32.toNatClampNeg k1) (Int32.toNatClampNeg k0)))) g8 g9 q)) tk_X3_copyFrom (by omega) rfl ⟨pm_cpo_ok b5, trivial⟩ ?_
   exact ec_X3_copyFrom_c5 (by omega) H
set_option maxRecDepth 20000 in
set_option maxHeartbeats 20000000 in
theorem ec_X3_copyFrom_c3 {d : Nat} (hd : 2 ≤ d) {g0 g1 g2 g3 g4 g6 g8 g9 : List pm_E} {p5 t5 p7 t7 : Value} {q : Nat × Nat × Nat} {s5 : cs_S} {s7 : cs_S} {l2 : Int32} {k0 : Int32} {k1 : Int32} {k3 : Int32} {z7 : cs_S} (H : fc_X3_copyFrom_c3 s5 s7 l2 k0 k1 k3 = some z7) : pm_Wg 49 d (.inl (none)) (cl_h g0 g1 g2 g3 g4 (ct_e5 p5 t5 s5) g6 (ct_e7 p7 t7 z7) g8 g9 q) (57, [some (.ref 449), some (.ref 321), some (.int l2), none], [.int k0, .int k1, .ref 453, .int k3, .ref 325], cl_h g0 g1 g2 g3 g4 (ct_e5 p5 t5 s5) g6 (ct_e7 p7 t7 s7) g8 g9 q) := by
  obtain ⟨d, rfl⟩ : ∃ d', d = d' + 1 := ⟨d - 1, by omega⟩
  unfold fc_X3_copyFrom_c3 at H
  try dsimp only at H
  cases b4 : pm_cpo k3 k1 k0 42 42 with
  | false => rw [b4] at H; cases H
  | true =>
   rw [b4] at H
   dsimp only at H
   refine pm_Wg.path (k := 8) (ds := []) (f' := (72, [some (.ref 449), some (.ref 321), some (.int l2), none], [.int 42, .int 0, .ref 454, .int 0, .ref 326], cl_h g0 g1 g2 g3 g4 (ct_e5 p5 t5 s5) g6 (ct_e7 p7 t7 (cs_d s7 5 (va_cpy (s5.2.2 5) (s7.2.2 5) (Int32.toNatClampNeg k3) (Int32.toNatClampNeg k1) (Int32.toNatClampNeg k0)))) g8 g9 q)) tk_X3_copyFrom (by omega) rfl ⟨pm_cpo_ok b4, trivial⟩ ?_
   exact ec_X3_copyFrom_c4 (by omega) H
set_option maxRecDepth 20000 in
set_option maxHeartbeats 20000000 in
theorem ec_X3_copyFrom_c2 {d : Nat} (hd : 2 ≤ d) {g0 g1 g2 g3 g4 g6 g8 g9 : List pm_E} {p5 t5 p7 t7 : Value} {q : Nat × Nat × Nat} {s5 : cs_S} {s7 : cs_S} {l2 : Int32} {k0 : Int32} {k1 : Int32} {k3 : Int32} {z7 : cs_S} (H : fc_X3_copyFrom_c2 s5 s7 l2 k0 k1 k3 = some z7) : pm_Wg 49 d (.inl (none)) (cl_h g0 g1 g2 g3 g4 (ct_e5 p5 t5 s5) g6 (ct_e7 p7 t7 z7) g8 g9 q) (42, [some (.ref 449), some (.ref 321), some (.int l2), none], [.int k0, .int k1, .ref 452, .int k3, .ref 324], cl_h g0 g1 g2 g3 g4 (ct_e5 p5 t5 s5) g6 (ct_e7 p7 t7 s7) g8 g9 q) := by
  obtain ⟨d, rfl⟩ : ∃ d', d = d' + 1 := ⟨d - 1, by omega⟩
  unfold fc_X3_copyFrom_c2 at H
  try dsimp only at H
  cases b3 : pm_cpo k3 k1 k0 42 42 with
  | false => rw [b3] at H; cases H
  | true =>
   rw [b3] at H
   dsimp only at H
   refine pm_Wg.path (k := 8) (ds := []) (f' := (57, [some (.ref 449), some (.ref 321), some (.int l2), none], [.int 42, .int 0, .ref 453, .int 0, .ref 325], cl_h g0 g1 g2 g3 g4 (ct_e5 p5 t5 s5) g6 (ct_e7 p7 t7 (cs_c s7 4 (va_cpy (s5.2.1 4) (s7.2.1 4) (Int32.toNatClampNeg k3) (Int32.toNatClampNeg k1) (Int32.toNatClampNeg k0)))) g8 g9 q)) tk_X3_copyFrom (by omega) rfl ⟨pm_cpo_ok b3, trivial⟩ ?_
   exact ec_X3_copyFrom_c3 (by omega) H
set_option maxRecDepth 20000 in
set_option maxHeartbeats 20000000 in
theorem ec_X3_copyFrom_c1 {d : Nat} (hd : 2 ≤ d) {g0 g1 g2 g3 g4 g6 g8 g9 : List pm_E} {p5 t5 p7 t7 : Value} {q : Nat × Nat × Nat} {s5 : cs_S} {s7 : cs_S} {l2 : Int32} {k0 : Int32} {k1 : Int32} {k3 : Int32} {z7 : cs_S} (H : fc_X3_copyFrom_c1 s5 s7 l2 k0 k1 k3 = some z7) : pm_Wg 49 d (.inl (none)) (cl_h g0 g1 g2 g3 g4 (ct_e5 p5 t5 s5) g6 (ct_e7 p7 t7 z7) g8 g9 q) (27, [some (.ref 449), some (.ref 321), some (.int l2), none], [.int k0, .int k1, .ref 451, .int k3, .ref 323], cl_h g0 g1 g2 g3 g4 (ct_e5 p5 t5 s5) g6 (ct_e7 p7 t7 s7) g8 g9 q) := by
  obtain ⟨d, rfl⟩ : ∃ d', d = d' + 1 := ⟨d - 1, by omega⟩
  unfold fc_X3_copyFrom_c1 at H
  try dsimp only at H
  cases b2 : pm_cpo k3 k1 k0 42 42 with
  | false => rw [b2] at H; cases H
  | true =>
   rw [b2] at H
   dsimp only at H
   refine pm_Wg.path (k := 8) (ds := []) (f' := (42, [some (.ref 449), some (.ref 321), some (.int l2), none], [.int 42, .int 0, .ref 452, .int 0, .ref 324], cl_h g0 g1 g2 g3 g4 (ct_e5 p5 t5 s5) g6 (ct_e7 p7 t7 (cs_c s7 3 (va_cpy (s5.2.1 3) (s7.2.1 3) (Int32.toNatClampNeg k3) (Int32.toNatClampNeg k1) (Int32.toNatClampNeg k0)))) g8 g9 q)) tk_X3_copyFrom (by omega) rfl ⟨pm_cpo_ok b2, trivial⟩ ?_
   exact ec_X3_copyFrom_c2 (by omega) H
set_option maxRecDepth 20000 in
set_option maxHeartbeats 20000000 in
theorem e_X3_copyFrom {d : Nat} (hd : 2 ≤ d) {g0 g1 g2 g3 g4 g6 g8 g9 : List pm_E} {p5 t5 p7 t7 : Value} {q : Nat × Nat × Nat} {s5 : cs_S} {s7 : cs_S} {a1 : Int32} {z7 : cs_S} (H : f_X3_copyFrom s5 s7 a1 = some z7) : pm_Mt 49 d [.ref 449, .ref 321, .int a1] (cl_h g0 g1 g2 g3 g4 (ct_e5 p5 t5 s5) g6 (ct_e7 p7 t7 s7) g8 g9 q) (.inl (none)) (cl_h g0 g1 g2 g3 g4 (ct_e5 p5 t5 s5) g6 (ct_e7 p7 t7 z7) g8 g9 q) := by
  refine pm_Mt.of (by decide) (by decide +kernel) rfl rfl ?_
  obtain ⟨d, rfl⟩ : ∃ d', d = d' + 1 := ⟨d - 1, by omega⟩
  unfold f_X3_copyFrom at H
  cases b1 : pm_cpo 0 0 42 42 42 with
  | false => rw [b1] at H; cases H
  | true =>
   rw [b1] at H
   dsimp only at H
   refine pm_Wg.path (k := 15) (ds := []) (f' := (27, [some (.ref 449), some (.ref 321), some (.int a1), none], [.int 42, .int 0, .ref 451, .int 0, .ref 323], cl_h g0 g1 g2 g3 g4 (ct_e5 p5 t5 s5) g6 (ct_e7 p7 t7 (cs_c s7 2 (va_cpy (s5.2.1 2) (s7.2.1 2) (Int32.toNatClampNeg 0) (Int32.toNatClampNeg 0) (Int32.toNatClampNeg 42)))) g8 g9 q)) tk_X3_copyFrom (by omega) rfl ⟨pm_cpo_ok b1, trivial⟩ ?_
   exact ec_X3_copyFrom_c1 (by omega) H

def f_X3_hasTagR (s5 : cs_S) (a0 : Int32) : Option (Int32) :=
  (match pm_inb a0 3248 with
  | false => none
  | true =>
  (if (lg_cmp (s5.2.2 8 (Int32.toNatClampNeg a0)) (-1152921504606846976)) = 0 then
   some 0
  else
   some 1))
def tb_X3_hasTagR : List pm_I := [(0, .aload_n 0, 0, 0), (1, .getfield 31, 24, 0), (4, .iload_n 1, 0, 0), (5, .laload, 0, 0), (6, .ldc2_w 52, 2, 0), (9, .lcmp, 0, 0), (10, .ifCond .eq 7, 17, 0), (13, .iconst 1, 3, 0), (14, .goto 4, 18, 0), (17, .iconst 0, 2, 0), (18, .ireturn, 0, 0)]
theorem tk_X3_hasTagR : ∀ e ∈ tb_X3_hasTagR, pm_ck 50 e = true := List.all_eq_true.mp (by decide +kernel)
set_option maxRecDepth 20000 in
set_option maxHeartbeats 20000000 in
theorem e_X3_hasTagR {d : Nat} (hd : 1 ≤ d) {g0 g1 g2 g3 g4 g6 g7 g8 g9 : List pm_E} {p5 t5 : Value} {q : Nat × Nat × Nat} {s5 : cs_S} {a0 : Int32} {r : Int32} (H : f_X3_hasTagR s5 a0 = some r) : pm_Mt 50 d [.ref 321, .int a0] (cl_h g0 g1 g2 g3 g4 (ct_e5 p5 t5 s5) g6 g7 g8 g9 q) (.inl (some (.int r))) (cl_h g0 g1 g2 g3 g4 (ct_e5 p5 t5 s5) g6 g7 g8 g9 q) := by
  refine pm_Mt.of (by decide) (by decide +kernel) rfl rfl ?_
  unfold f_X3_hasTagR at H
  cases b1 : pm_inb a0 3248 with
  | false => rw [b1] at H; cases H
  | true =>
   rw [b1] at H
   dsimp only at H
   by_cases h2 : (lg_cmp (s5.2.2 8 (Int32.toNatClampNeg a0)) (-1152921504606846976)) = 0
   · rw [if_pos h2] at H
     have J := Option.some.inj H
     subst J
     refine pm_Wg.path (k := 8) (ds := [1]) (f' := (18, [some (.ref 321), some (.int a0)], [.int 0], cl_h g0 g1 g2 g3 g4 (ct_e5 p5 t5 s5) g6 g7 g8 g9 q)) tk_X3_hasTagR (by omega) rfl ⟨h2, pm_inb_vp b1, trivial⟩ ?_
     exact pm_Wg.iret (pm_dec tk_X3_hasTagR rfl) rfl rfl
   · rw [if_neg h2] at H
     have J := Option.some.inj H
     subst J
     refine pm_Wg.path (k := 9) (ds := [0]) (f' := (18, [some (.ref 321), some (.int a0)], [.int 1], cl_h g0 g1 g2 g3 g4 (ct_e5 p5 t5 s5) g6 g7 g8 g9 q)) tk_X3_hasTagR (by omega) rfl ⟨h2, pm_inb_vp b1, trivial⟩ ?_
     exact pm_Wg.iret (pm_dec tk_X3_hasTagR rfl) rfl rfl

def fc_X3_append_c7 (s4 : cs_S) (s5 : cs_S) (l1 : Int32) (l2 : Int32) (l3 : Int32) (l5 : Int32) (l6 : Int32) (l7 : Int64) (k0 : Int32) (k1 : Int32) : Option (cs_S) :=
  (match pm_inb k1 42 with
  | false => none
  | true =>
  some (cs_a s5 4 k1 k0))
def fc_X3_append_c6 (s4 : cs_S) (s5 : cs_S) (l1 : Int32) (l2 : Int32) (l3 : Int32) (l5 : Int32) (l6 : Int32) (l7 : Int64) (k0 : Int32) (k1 : Int32) : Option (cs_S) :=
  (match pm_inb k1 42 with
  | false => none
  | true =>
  (match pm_inb l1 42 with
  | false => none
  | true =>
  (fc_X3_append_c7 s4 (cs_a s5 3 k1 k0) l1 l2 l3 l5 l6 l7 (((cs_a s5 3 k1 k0).2.1 4 (Int32.toNatClampNeg l1)) + 1) l1)))
def fc_X3_append_c5 (s4 : cs_S) (s5 : cs_S) (l1 : Int32) (l2 : Int32) (l3 : Int32) (l5 : Int32) (l6 : Int32) (l7 : Int64) (k0 : Int32) (k1 : Int32) : Option (cs_S) :=
  (match pm_inb k1 42 with
  | false => none
  | true =>
  (fc_X3_append_c6 s4 (cs_a s5 2 k1 k0) l1 l2 l3 l5 l6 l7 l2 l1))
def fc_X3_append_c8 (s4 : cs_S) (s5 : cs_S) (l1 : Int32) (l2 : Int32) (l3 : Int32) (l5 : Int32) (l6 : Int32) (l7 : Int64) (k0 : Int32) (k1 : Int32) : Option (cs_S) :=
  (match pm_inb k1 3248 with
  | false => none
  | true =>
  (fc_X3_append_c6 s4 (cs_a s5 12 k1 k0) l1 l2 l3 l5 l6 l7 l2 l1))
def fc_X3_append_c4 (s4 : cs_S) (s5 : cs_S) (l1 : Int32) (l2 : Int32) (l3 : Int32) (l5 : Int32) (l6 : Int32) (l7 : Int64) (k0 : Int32) (k1 : Int32) : Option (cs_S) :=
  (match pm_inb k1 3248 with
  | false => none
  | true =>
  (match pm_inb l1 42 with
  | false => none
  | true =>
  (if ((cs_a s5 12 k1 k0).2.1 4 (Int32.toNatClampNeg l1)) = 0 then
   (fc_X3_append_c5 s4 (cs_a s5 12 k1 k0) l1 l2 l3 l5 l6 l7 l2 l1)
  else
   (fc_X3_append_c8 s4 (cs_a s5 12 k1 k0) l1 l2 l3 l5 l6 l7 l2 ((cs_a s5 12 k1 k0).2.1 3 (Int32.toNatClampNeg l1))))))
def fc_X3_append_c3 (s4 : cs_S) (s5 : cs_S) (l1 : Int32) (l2 : Int32) (l3 : Int32) (l5 : Int32) (l6 : Int32) (l7 : Int64) (k0 : Int32) (k1 : Int32) : Option (cs_S) :=
  (match pm_inb k1 3248 with
  | false => none
  | true =>
  (fc_X3_append_c4 s4 (cs_a s5 11 k1 k0) l1 l2 l3 l5 l6 l7 (-1) l2))
def fc_X3_append_c10 (s4 : cs_S) (s5 : cs_S) (l1 : Int32) (l2 : Int32) (l3 : Int32) (l5 : Int32) (l6 : Int32) (l7 : Int64) (k0 : Int64) (k1 : Int32) : Option (cs_S) :=
  (match pm_inb k1 3248 with
  | false => none
  | true =>
  (fc_X3_append_c3 s4 (cs_l s5 10 k1 k0) l1 l2 l3 l5 l6 l7 l3 l2))
def fc_X3_append_c9 (s4 : cs_S) (s5 : cs_S) (l1 : Int32) (l2 : Int32) (l3 : Int32) (l5 : Int32) (l6 : Int32) (l7 : Int64) (k0 : Int64) (k1 : Int32) : Option (cs_S) :=
  (match pm_inb k1 42 with
  | false => none
  | true =>
  (match pm_inb l1 42 with
  | false => none
  | true =>
  (fc_X3_append_c10 s4 (cs_l s5 7 k1 k0) l1 l2 l3 l5 l6 l7 ((cs_l s5 7 k1 k0).2.2 7 (Int32.toNatClampNeg l1)) l2)))
def fc_X3_append_c2 (s4 : cs_S) (s5 : cs_S) (l1 : Int32) (l2 : Int32) (l3 : Int32) (l5 : Int32) (l6 : Int32) (l7 : Int64) (k0 : Int64) (k1 : Int32) : Option (cs_S) :=
  (match pm_inb k1 3248 with
  | false => none
  | true =>
  (match pm_inb l6 6 with
  | false => none
  | true =>
  (if (s4.2.1 3 (Int32.toNatClampNeg l6)) ≤ 0 then
   (fc_X3_append_c3 s4 (cs_l s5 10 k1 k0) l1 l2 l3 l5 l6 l7 l3 l2)
  else
   (match pm_inb l1 42 with
   | false => none
   | true =>
   (if (s4.2.1 3 (Int32.toNatClampNeg l6)) = 0 then none else
   (fc_X3_append_c9 s4 (cs_l s5 10 k1 k0) l1 l2 l3 l5 l6 l7 (if (((cs_l s5 10 k1 k0).2.2 7 (Int32.toNatClampNeg l1)) + (Int32.toInt64 (1000000 / (s4.2.1 3 (Int32.toNatClampNeg l6))))) < l7 then l7 else (((cs_l s5 10 k1 k0).2.2 7 (Int32.toNatClampNeg l1)) + (Int32.toInt64 (1000000 / (s4.2.1 3 (Int32.toNatClampNeg l6)))))) l1))))))
def fc_X3_append_c1 (s4 : cs_S) (s5 : cs_S) (l1 : Int32) (l2 : Int32) (l3 : Int32) (l5 : Int32) (l6 : Int32) (l7 : Int64) (k0 : Int64) (k1 : Int32) : Option (cs_S) :=
  (match pm_inb k1 3248 with
  | false => none
  | true =>
  (fc_X3_append_c2 s4 (cs_l s5 9 k1 k0) l1 l2 l3 l5 l6 l7 0 l2))
def fc_X3_append_c11 (s4 : cs_S) (s5 : cs_S) (l1 : Int32) (l2 : Int32) (l3 : Int32) (l5 : Int32) (l6 : Int32) (l7 : Int64) (k0 : Int64) (k1 : Int32) : Option (cs_S) :=
  (match pm_inb k1 42 with
  | false => none
  | true =>
  (match pm_inb l1 42 with
  | false => none
  | true =>
  (fc_X3_append_c1 s4 (cs_l s5 6 k1 k0) l1 l2 l3 l5 l6 l7 ((cs_l s5 6 k1 k0).2.2 6 (Int32.toNatClampNeg l1)) l2)))
def fc_X3_append_c13 (s4 : cs_S) (s5 : cs_S) (l1 : Int32) (l2 : Int32) (l3 : Int32) (l5 : Int32) (l6 : Int32) (l7 : Int64) (k0 : Int64) (k1 : Int32) : Option (cs_S) :=
  (match pm_inb k1 3248 with
  | false => none
  | true =>
  (match pm_inb l6 6 with
  | false => none
  | true =>
  (if (s4.2.1 2 (Int32.toNatClampNeg l6)) ≤ 0 then
   (match pm_inb l1 42 with
   | false => none
   | true =>
   (fc_X3_append_c1 s4 (cs_l s5 8 k1 k0) l1 l2 l3 l5 l6 l7 ((cs_l s5 8 k1 k0).2.2 6 (Int32.toNatClampNeg l1)) l2))
  else
   (match pm_inb l1 42 with
   | false => none
   | true =>
   (if (s4.2.1 2 (Int32.toNatClampNeg l6)) = 0 then none else
   (fc_X3_append_c11 s4 (cs_l s5 8 k1 k0) l1 l2 l3 l5 l6 l7 (if (((cs_l s5 8 k1 k0).2.2 6 (Int32.toNatClampNeg l1)) + (Int32.toInt64 (1000000 / (s4.2.1 2 (Int32.toNatClampNeg l6))))) < l7 then l7 else (((cs_l s5 8 k1 k0).2.2 6 (Int32.toNatClampNeg l1)) + (Int32.toInt64 (1000000 / (s4.2.1 2 (Int32.toNatClampNeg l6)))))) l1))))))
def fc_X3_append_c12 (s4 : cs_S) (s5 : cs_S) (l1 : Int32) (l2 : Int32) (l3 : Int32) (l5 : Int32) (l6 : Int32) (l7 : Int64) (k0 : Int64) (k1 : Int32) : Option (cs_S) :=
  (match pm_inb k1 42 with
  | false => none
  | true =>
  (match pm_inb l1 42 with
  | false => none
  | true =>
  (fc_X3_append_c13 s4 (cs_l s5 5 k1 k0) l1 l2 l3 l5 l6 l7 ((cs_l s5 5 k1 k0).2.2 5 (Int32.toNatClampNeg l1)) l2)))
def f_X3_append (s4 : cs_S) (s5 : cs_S) (a0 : Int32) (a1 : Int32) (a2 : Int32) (a4 : Int32) : Option (cs_S) :=
  (match pm_inb a1 3248 with
  | false => none
  | true =>
  (match pm_inb (a0 - a0 / 6 * 6) 6 with
  | false => none
  | true =>
  (if (s4.2.1 1 (Int32.toNatClampNeg (a0 - a0 / 6 * 6))) ≤ 0 then
   (if (s4.2.1 2 (Int32.toNatClampNeg (a0 - a0 / 6 * 6))) ≤ 0 then
    (match pm_inb a0 42 with
    | false => none
    | true =>
    (fc_X3_append_c1 s4 (cs_l s5 8 a1 (-1152921504606846976)) a0 a1 a2 a4 (a0 - a0 / 6 * 6) (1000 * (Int32.toInt64 a4)) ((cs_l s5 8 a1 (-1152921504606846976)).2.2 6 (Int32.toNatClampNeg a0)) a1))
   else
    (match pm_inb a0 42 with
    | false => none
    | true =>
    (if (s4.2.1 2 (Int32.toNatClampNeg (a0 - a0 / 6 * 6))) = 0 then none else
    (fc_X3_append_c11 s4 (cs_l s5 8 a1 (-1152921504606846976)) a0 a1 a2 a4 (a0 - a0 / 6 * 6) (1000 * (Int32.toInt64 a4)) (if (((cs_l s5 8 a1 (-1152921504606846976)).2.2 6 (Int32.toNatClampNeg a0)) + (Int32.toInt64 (1000000 / (s4.2.1 2 (Int32.toNatClampNeg (a0 - a0 / 6 * 6)))))) < (1000 * (Int32.toInt64 a4)) then (1000 * (Int32.toInt64 a4)) else (((cs_l s5 8 a1 (-1152921504606846976)).2.2 6 (Int32.toNatClampNeg a0)) + (Int32.toInt64 (1000000 / (s4.2.1 2 (Int32.toNatClampNeg (a0 - a0 / 6 * 6))))))) a0))))
  else
   (match pm_inb a0 42 with
   | false => none
   | true =>
   (if (s4.2.1 1 (Int32.toNatClampNeg (a0 - a0 / 6 * 6))) = 0 then none else
   (fc_X3_append_c12 s4 (cs_l s5 8 a1 (-1152921504606846976)) a0 a1 a2 a4 (a0 - a0 / 6 * 6) (1000 * (Int32.toInt64 a4)) (if (((cs_l s5 8 a1 (-1152921504606846976)).2.2 5 (Int32.toNatClampNeg a0)) + (Int32.toInt64 (1000000 / (s4.2.1 1 (Int32.toNatClampNeg (a0 - a0 / 6 * 6)))))) < (1000 * (Int32.toInt64 a4)) then (1000 * (Int32.toInt64 a4)) else (((cs_l s5 8 a1 (-1152921504606846976)).2.2 5 (Int32.toNatClampNeg a0)) + (Int32.toInt64 (1000000 / (s4.2.1 1 (Int32.toNatClampNeg (a0 - a0 / 6 * 6))))))) a0))))))
def tb_X3_append : List pm_I := [(0, .iload_n 1, 0, 0), (1, .bipush 6, 8, 0), (3, .irem, 0, 0), (4, .istore 6, 0, 0), (6, .ldc2_w 72, 1, 0), (9, .iload 5, 0, 0), (11, .i2l, 0, 0), (12, .lmul, 0, 0), (13, .lstore 7, 0, 0), (15, .aload_n 0, 0, 0), (16, .getfield 31, 24, 0), (19, .iload_n 2, 0, 0), (20, .ldc2_w 52, 2, 0), (23, .lastore, 0, 0), (24, .aload 4, 0, 0), (26, .getfield 74, 137, 0), (29, .iload 6, 0, 0), (31, .iaload, 0, 0), (32, .ifCond .le 45, 77, 0), (35, .aload_n 0, 0, 0), (36, .getfield 21, 21, 0), (39, .iload_n 1, 0, 0), (40, .lload 7, 0, 0), (42, .aload_n 0, 0, 0), (43, .getfield 21, 21, 0), (46, .iload_n 1, 0, 0), (47, .laload, 0, 0), (48, .ldc 79, 5, 0), (50, .aload 4, 0, 0), (52, .getfield 74, 137, 0), (55, .iload 6, 0, 0), (57, .iaload, 0, 0), (58, .idiv, 0, 0), (59, .i2l, 0, 0), (60, .ladd, 0, 0), (61, .invokestatic 80, 58, 5), (64, .lastore, 0, 0), (65, .aload_n 0, 0, 0), (66, .getfield 31, 24, 0), (69, .iload_n 2, 0, 0), (70, .aload_n 0, 0, 0), (71, .getfield 21, 21, 0), (74, .iload_n 1, 0, 0), (75, .laload, 0, 0), (76, .lastore, 0, 0), (77, .aload 4, 0, 0), (79, .getfield 84, 141, 0), (82, .iload 6, 0, 0), (84, .iaload, 0, 0), (85, .ifCond .le 33, 118, 0), (88, .aload_n 0, 0, 0), (89, .getfield 25, 22, 0), (92, .iload_n 1, 0, 0), (93, .lload 7, 0, 0), (95, .aload_n 0, 0, 0), (96, .getfield 25, 22, 0), (99, .iload_n 1, 0, 0), (100, .laload, 0, 0), (101, .ldc 79, 5, 0), (103, .aload 4, 0, 0), (105, .getfield 84, 141, 0), (108, .iload 6, 0, 0), (110, .iaload, 0, 0), (111, .idiv, 0, 0), (112, .i2l, 0, 0), (113, .ladd, 0, 0), (114, .invokestatic 80, 58, 5), (117, .lastore, 0, 0), (118, .aload_n 0, 0, 0), (119, .getfield 34, 26, 0), (122, .iload_n 2, 0, 0), (123, .aload_n 0, 0, 0), (124, .getfield 25, 22, 0), (127, .iload_n 1, 0, 0), (128, .laload, 0, 0), (129, .lastore, 0, 0), (130, .aload_n 0, 0, 0), (131, .getfield 37, 28, 0), (134, .iload_n 2, 0, 0), (135, .lconst 0, 0, 0), (136, .lastore, 0, 0), (137, .aload 4, 0, 0), (139, .getfield 87, 144, 0), (142, .iload 6, 0, 0), (144, .iaload, 0, 0), (145, .ifCond .le 45, 190, 0), (148, .aload_n 0, 0, 0), (149, .getfield 28, 23, 0), (152, .iload_n 1, 0, 0), (153, .lload 7, 0, 0), (155, .aload_n 0, 0, 0), (156, .getfield 28, 23, 0), (159, .iload_n 1, 0, 0), (160, .laload, 0, 0), (161, .ldc 79, 5, 0), (163, .aload 4, 0, 0), (165, .getfield 87, 144, 0), (168, .iload 6, 0, 0), (170, .iaload, 0, 0), (171, .idiv, 0, 0), (172, .i2l, 0, 0), (173, .ladd, 0, 0), (174, .invokestatic 80, 58, 5), (177, .lastore, 0, 0), (178, .aload_n 0, 0, 0), (179, .getfield 37, 28, 0), (182, .iload_n 2, 0, 0), (183, .aload_n 0, 0, 0), (184, .getfield 28, 23, 0), (187, .iload_n 1, 0, 0), (188, .laload, 0, 0), (189, .lastore, 0, 0), (190, .aload_n 0, 0, 0), (191, .getfield 40, 30, 0), (194, .iload_n 2, 0, 0), (195, .iload_n 3, 0, 0), (196, .iastore, 0, 0), (197, .aload_n 0, 0, 0), (198, .getfield 43, 31, 0), (201, .iload_n 2, 0, 0), (202, .iconst (-1), 1, 0), (203, .iastore, 0, 0), (204, .aload_n 0, 0, 0), (205, .getfield 18, 18, 0), (208, .iload_n 1, 0, 0), (209, .iaload, 0, 0), (210, .ifCond .ne 13, 223, 0), (213, .aload_n 0, 0, 0), (214, .getfield 11, 15, 0), (217, .iload_n 1, 0, 0), (218, .iload_n 2, 0, 0), (219, .iastore, 0, 0), (220, .goto 15, 235, 0), (223, .aload_n 0, 0, 0), (224, .getfield 43, 31, 0), (227, .aload_n 0, 0, 0), (228, .getfield 15, 17, 0), (231, .iload_n 1, 0, 0), (232, .iaload, 0, 0), (233, .iload_n 2, 0, 0), (234, .iastore, 0, 0), (235, .aload_n 0, 0, 0), (236, .getfield 15, 17, 0), (239, .iload_n 1, 0, 0), (240, .iload_n 2, 0, 0), (241, .iastore, 0, 0), (242, .aload_n 0, 0, 0), (243, .getfield 18, 18, 0), (246, .iload_n 1, 0, 0), (247, .dup2, 0, 0), (248, .iaload, 0, 0), (249, .iconst 1, 3, 0), (250, .iadd, 0, 0), (251, .iastore, 0, 0), (252, .return_, 0, 0)]
theorem tk_X3_append : ∀ e ∈ tb_X3_append, pm_ck 51 e = true := List.all_eq_true.mp (by decide +kernel)
set_option maxRecDepth 20000 in
set_option maxHeartbeats 20000000 in
theorem ec_X3_append_c7 {d : Nat} (hd : 1 ≤ d) {g0 g1 g2 g3 g6 g7 g8 g9 : List pm_E} {p5 t5 : Value} {q : Nat × Nat × Nat} {s4 : cs_S} {s5 : cs_S} {l1 : Int32} {l2 : Int32} {l3 : Int32} {l5 : Int32} {l6 : Int32} {l7 : Int64} {k0 : Int32} {k1 : Int32} {z5 : cs_S} (H : fc_X3_append_c7 s4 s5 l1 l2 l3 l5 l6 l7 k0 k1 = some z5) : pm_Wg 51 d (.inl (none)) (cl_h g0 g1 g2 g3 (ct_p4 s4) (ct_e5 p5 t5 z5) g6 g7 g8 g9 q) (251, [some (.ref 321), some (.int l1), some (.int l2), some (.int l3), some (.ref 256), some (.int l5), some (.int l6), some (.long l7), none], [.int k0, .int k1, .ref 324], cl_h g0 g1 g2 g3 (ct_p4 s4) (ct_e5 p5 t5 s5) g6 g7 g8 g9 q) := by
  unfold fc_X3_append_c7 at H
  try dsimp only at H
  cases b28 : pm_inb k1 42 with
  | false => rw [b28] at H; cases H
  | true =>
   rw [b28] at H
   dsimp only at H
   have J := Option.some.inj H
   subst J
   refine pm_Wg.path (k := 1) (ds := []) (f' := (252, [some (.ref 321), some (.int l1), some (.int l2), some (.int l3), some (.ref 256), some (.int l5), some (.int l6), some (.long l7), none], [], cl_h g0 g1 g2 g3 (ct_p4 s4) (ct_e5 p5 t5 (cs_a s5 4 k1 k0)) g6 g7 g8 g9 q)) tk_X3_append (by omega) rfl ⟨pm_inb_vp b28, trivial⟩ ?_
   exact pm_Wg.vret (pm_dec tk_X3_append rfl) rfl
set_option maxRecDepth 20000 in
set_option maxHeartbeats 20000000 in
theorem ec_X3_append_c6 {d : Nat} (hd : 1 ≤ d) {g0 g1 g2 g3 g6 g7 g8 g9 : List pm_E} {p5 t5 : Value} {q : Nat × Nat × Nat} {s4 : cs_S} {s5 : cs_S} {l1 : Int32} {l2 : Int32} {l3 : Int32} {l5 : Int32} {l6 : Int32} {l7 : Int64} {k0 : Int32} {k1 : Int32} {z5 : cs_S} (H : fc_X3_append_c6 s4 s5 l1 l2 l3 l5 l6 l7 k0 k1 = some z5) : pm_Wg 51 d (.inl (none)) (cl_h g0 g1 g2 g3 (ct_p4 s4) (ct_e5 p5 t5 z5) g6 g7 g8 g9 q) (241, [some (.ref 321), some (.int l1), some (.int l2), some (.int l3), some (.ref 256), some (.int l5), some (.int l6), some (.long l7), none], [.int k0, .int k1, .ref 323], cl_h g0 g1 g2 g3 (ct_p4 s4) (ct_e5 p5 t5 s5) g6 g7 g8 g9 q) := by
  unfold fc_X3_append_c6 at H
  try dsimp only at H
  cases b26 : pm_inb k1 42 with
  | false => rw [b26] at H; cases H
  | true =>
   rw [b26] at H
   dsimp only at H
   cases b27 : pm_inb l1 42 with
   | false => rw [b27] at H; cases H
   | true =>
    rw [b27] at H
    dsimp only at H
    refine pm_Wg.path (k := 8) (ds := []) (f' := (251, [some (.ref 321), some (.int l1), some (.int l2), some (.int l3), some (.ref 256), some (.int l5), some (.int l6), some (.long l7), none], [.int (((cs_a s5 3 k1 k0).2.1 4 (Int32.toNatClampNeg l1)) + 1), .int l1, .ref 324], cl_h g0 g1 g2 g3 (ct_p4 s4) (ct_e5 p5 t5 (cs_a s5 3 k1 k0)) g6 g7 g8 g9 q)) tk_X3_append (by omega) rfl ⟨pm_inb_vp b27, pm_inb_vp b26, trivial⟩ ?_
    exact ec_X3_append_c7 (by omega) H
set_option maxRecDepth 20000 in
set_option maxHeartbeats 20000000 in
theorem ec_X3_append_c5 {d : Nat} (hd : 1 ≤ d) {g0 g1 g2 g3 g6 g7 g8 g9 : List pm_E} {p5 t5 : Value} {q : Nat × Nat × Nat} {s4 : cs_S} {s5 : cs_S} {l1 : Int32} {l2 : Int32} {l3 : Int32} {l5 : Int32} {l6 : Int32} {l7 : Int64} {k0 : Int32} {k1 : Int32} {z5 : cs_S} (H : fc_X3_append_c5 s4 s5 l1 l2 l3 l5 l6 l7 k0 k1 = some z5) : pm_Wg 51 d (.inl (none)) (cl_h g0 g1 g2 g3 (ct_p4 s4) (ct_e5 p5 t5 z5) g6 g7 g8 g9 q) (219, [some (.ref 321), some (.int l1), some (.int l2), some (.int l3), some (.ref 256), some (.int l5), some (.int l6), some (.long l7), none], [.int k0, .int k1, .ref 322], cl_h g0 g1 g2 g3 (ct_p4 s4) (ct_e5 p5 t5 s5) g6 g7 g8 g9 q) := by
  unfold fc_X3_append_c5 at H
  try dsimp only at H
  cases b25 : pm_inb k1 42 with
  | false => rw [b25] at H; cases H
  | true =>
   rw [b25] at H
   dsimp only at H
   refine pm_Wg.path (k := 6) (ds := []) (f' := (241, [some (.ref 321), some (.int l1), some (.int l2), some (.int l3), some (.ref 256), some (.int l5), some (.int l6), some (.long l7), none], [.int l2, .int l1, .ref 323], cl_h g0 g1 g2 g3 (ct_p4 s4) (ct_e5 p5 t5 (cs_a s5 2 k1 k0)) g6 g7 g8 g9 q)) tk_X3_append (by omega) rfl ⟨pm_inb_vp b25, trivial⟩ ?_
   exact ec_X3_append_c6 (by omega) H
set_option maxRecDepth 20000 in
set_option maxHeartbeats 20000000 in
theorem ec_X3_append_c8 {d : Nat} (hd : 1 ≤ d) {g0 g1 g2 g3 g6 g7 g8 g9 : List pm_E} {p5 t5 : Value} {q : Nat × Nat × Nat} {s4 : cs_S} {s5 : cs_S} {l1 : Int32} {l2 : Int32} {l3 : Int32} {l5 : Int32} {l6 : Int32} {l7 : Int64} {k0 : Int32} {k1 : Int32} {z5 : cs_S} (H : fc_X3_append_c8 s4 s5 l1 l2 l3 l5 l6 l7 k0 k1 = some z5) : pm_Wg 51 d (.inl (none)) (cl_h g0 g1 g2 g3 (ct_p4 s4) (ct_e5 p5 t5 z5) g6 g7 g8 g9 q) (234, [some (.ref 321), some (.int l1), some (.int l2), some (.int l3), some (.ref 256), some (.int l5), some (.int l6), some (.long l7), none], [.int k0, .int k1, .ref 332], cl_h g0 g1 g2 g3 (ct_p4 s4) (ct_e5 p5 t5 s5) g6 g7 g8 g9 q) := by
  unfold fc_X3_append_c8 at H
  try dsimp only at H
  cases b29 : pm_inb k1 3248 with
  | false => rw [b29] at H; cases H
  | true =>
   rw [b29] at H
   dsimp only at H
   refine pm_Wg.path (k := 5) (ds := []) (f' := (241, [some (.ref 321), some (.int l1), some (.int l2), some (.int l3), some (.ref 256), some (.int l5), some (.int l6), some (.long l7), none], [.int l2, .int l1, .ref 323], cl_h g0 g1 g2 g3 (ct_p4 s4) (ct_e5 p5 t5 (cs_a s5 12 k1 k0)) g6 g7 g8 g9 q)) tk_X3_append (by omega) rfl ⟨pm_inb_vp b29, trivial⟩ ?_
   exact ec_X3_append_c6 (by omega) H
set_option maxRecDepth 20000 in
set_option maxHeartbeats 20000000 in
theorem ec_X3_append_c4 {d : Nat} (hd : 1 ≤ d) {g0 g1 g2 g3 g6 g7 g8 g9 : List pm_E} {p5 t5 : Value} {q : Nat × Nat × Nat} {s4 : cs_S} {s5 : cs_S} {l1 : Int32} {l2 : Int32} {l3 : Int32} {l5 : Int32} {l6 : Int32} {l7 : Int64} {k0 : Int32} {k1 : Int32} {z5 : cs_S} (H : fc_X3_append_c4 s4 s5 l1 l2 l3 l5 l6 l7 k0 k1 = some z5) : pm_Wg 51 d (.inl (none)) (cl_h g0 g1 g2 g3 (ct_p4 s4) (ct_e5 p5 t5 z5) g6 g7 g8 g9 q) (203, [some (.ref 321), some (.int l1), some (.int l2), some (.int l3), some (.ref 256), some (.int l5), some (.int l6), some (.long l7), none], [.int k0, .int k1, .ref 332], cl_h g0 g1 g2 g3 (ct_p4 s4) (ct_e5 p5 t5 s5) g6 g7 g8 g9 q) := by
  unfold fc_X3_append_c4 at H
  try dsimp only at H
  cases b21 : pm_inb k1 3248 with
  | false => rw [b21] at H; cases H
  | true =>
   rw [b21] at H
   dsimp only at H
   cases b22 : pm_inb l1 42 with
   | false => rw [b22] at H; cases H
   | true =>
    rw [b22] at H
    dsimp only at H
    by_cases h23 : ((cs_a s5 12 k1 k0).2.1 4 (Int32.toNatClampNeg l1)) = 0
    · rw [if_pos h23] at H
      refine pm_Wg.path (k := 10) (ds := [0]) (f' := (219, [some (.ref 321), some (.int l1), some (.int l2), some (.int l3), some (.ref 256), some (.int l5), some (.int l6), some (.long l7), none], [.int l2, .int l1, .ref 322], cl_h g0 g1 g2 g3 (ct_p4 s4) (ct_e5 p5 t5 (cs_a s5 12 k1 k0)) g6 g7 g8 g9 q)) tk_X3_append (by omega) rfl ⟨h23, pm_inb_vp b22, pm_inb_vp b21, trivial⟩ ?_
      exact ec_X3_append_c5 (by omega) H
    · rw [if_neg h23] at H
      refine pm_Wg.path (k := 13) (ds := [1]) (f' := (234, [some (.ref 321), some (.int l1), some (.int l2), some (.int l3), some (.ref 256), some (.int l5), some (.int l6), some (.long l7), none], [.int l2, .int ((cs_a s5 12 k1 k0).2.1 3 (Int32.toNatClampNeg l1)), .ref 332], cl_h g0 g1 g2 g3 (ct_p4 s4) (ct_e5 p5 t5 (cs_a s5 12 k1 k0)) g6 g7 g8 g9 q)) tk_X3_append (by omega) rfl ⟨pm_inb_vp b22, h23, pm_inb_vp b22, pm_inb_vp b21, trivial⟩ ?_
      exact ec_X3_append_c8 (by omega) H
set_option maxRecDepth 20000 in
set_option maxHeartbeats 20000000 in
theorem ec_X3_append_c3 {d : Nat} (hd : 1 ≤ d) {g0 g1 g2 g3 g6 g7 g8 g9 : List pm_E} {p5 t5 : Value} {q : Nat × Nat × Nat} {s4 : cs_S} {s5 : cs_S} {l1 : Int32} {l2 : Int32} {l3 : Int32} {l5 : Int32} {l6 : Int32} {l7 : Int64} {k0 : Int32} {k1 : Int32} {z5 : cs_S} (H : fc_X3_append_c3 s4 s5 l1 l2 l3 l5 l6 l7 k0 k1 = some z5) : pm_Wg 51 d (.inl (none)) (cl_h g0 g1 g2 g3 (ct_p4 s4) (ct_e5 p5 t5 z5) g6 g7 g8 g9 q) (196, [some (.ref 321), some (.int l1), some (.int l2), some (.int l3), some (.ref 256), some (.int l5), some (.int l6), some (.long l7), none], [.int k0, .int k1, .ref 331], cl_h g0 g1 g2 g3 (ct_p4 s4) (ct_e5 p5 t5 s5) g6 g7 g8 g9 q) := by
  unfold fc_X3_append_c3 at H
  try dsimp only at H
  cases b20 : pm_inb k1 3248 with
  | false => rw [b20] at H; cases H
  | true =>
   rw [b20] at H
   dsimp only at H
   refine pm_Wg.path (k := 5) (ds := []) (f' := (203, [some (.ref 321), some (.int l1), some (.int l2), some (.int l3), some (.ref 256), some (.int l5), some (.int l6), some (.long l7), none], [.int (-1), .int l2, .ref 332], cl_h g0 g1 g2 g3 (ct_p4 s4) (ct_e5 p5 t5 (cs_a s5 11 k1 k0)) g6 g7 g8 g9 q)) tk_X3_append (by omega) rfl ⟨pm_inb_vp b20, trivial⟩ ?_
   exact ec_X3_append_c4 (by omega) H
set_option maxRecDepth 20000 in
set_option maxHeartbeats 20000000 in
theorem ec_X3_append_c10 {d : Nat} (hd : 1 ≤ d) {g0 g1 g2 g3 g6 g7 g8 g9 : List pm_E} {p5 t5 : Value} {q : Nat × Nat × Nat} {s4 : cs_S} {s5 : cs_S} {l1 : Int32} {l2 : Int32} {l3 : Int32} {l5 : Int32} {l6 : Int32} {l7 : Int64} {k0 : Int64} {k1 : Int32} {z5 : cs_S} (H : fc_X3_append_c10 s4 s5 l1 l2 l3 l5 l6 l7 k0 k1 = some z5) : pm_Wg 51 d (.inl (none)) (cl_h g0 g1 g2 g3 (ct_p4 s4) (ct_e5 p5 t5 z5) g6 g7 g8 g9 q) (189, [some (.ref 321), some (.int l1), some (.int l2), some (.int l3), some (.ref 256), some (.int l5), some (.int l6), some (.long l7), none], [.long k0, .int k1, .ref 330], cl_h g0 g1 g2 g3 (ct_p4 s4) (ct_e5 p5 t5 s5) g6 g7 g8 g9 q) := by
  unfold fc_X3_append_c10 at H
  try dsimp only at H
  cases b32 : pm_inb k1 3248 with
  | false => rw [b32] at H; cases H
  | true =>
   rw [b32] at H
   dsimp only at H
   refine pm_Wg.path (k := 5) (ds := []) (f' := (196, [some (.ref 321), some (.int l1), some (.int l2), some (.int l3), some (.ref 256), some (.int l5), some (.int l6), some (.long l7), none], [.int l3, .int l2, .ref 331], cl_h g0 g1 g2 g3 (ct_p4 s4) (ct_e5 p5 t5 (cs_l s5 10 k1 k0)) g6 g7 g8 g9 q)) tk_X3_append (by omega) rfl ⟨pm_inb_vp b32, trivial⟩ ?_
   exact ec_X3_append_c3 (by omega) H
set_option maxRecDepth 20000 in
set_option maxHeartbeats 20000000 in
theorem ec_X3_append_c9 {d : Nat} (hd : 1 ≤ d) {g0 g1 g2 g3 g6 g7 g8 g9 : List pm_E} {p5 t5 : Value} {q : Nat × Nat × Nat} {s4 : cs_S} {s5 : cs_S} {l1 : Int32} {l2 : Int32} {l3 : Int32} {l5 : Int32} {l6 : Int32} {l7 : Int64} {k0 : Int64} {k1 : Int32} {z5 : cs_S} (H : fc_X3_append_c9 s4 s5 l1 l2 l3 l5 l6 l7 k0 k1 = some z5) : pm_Wg 51 d (.inl (none)) (cl_h g0 g1 g2 g3 (ct_p4 s4) (ct_e5 p5 t5 z5) g6 g7 g8 g9 q) (177, [some (.ref 321), some (.int l1), some (.int l2), some (.int l3), some (.ref 256), some (.int l5), some (.int l6), some (.long l7), none], [.long k0, .int k1, .ref 327], cl_h g0 g1 g2 g3 (ct_p4 s4) (ct_e5 p5 t5 s5) g6 g7 g8 g9 q) := by
  unfold fc_X3_append_c9 at H
  try dsimp only at H
  cases b30 : pm_inb k1 42 with
  | false => rw [b30] at H; cases H
  | true =>
   rw [b30] at H
   dsimp only at H
   cases b31 : pm_inb l1 42 with
   | false => rw [b31] at H; cases H
   | true =>
    rw [b31] at H
    dsimp only at H
    refine pm_Wg.path (k := 8) (ds := []) (f' := (189, [some (.ref 321), some (.int l1), some (.int l2), some (.int l3), some (.ref 256), some (.int l5), some (.int l6), some (.long l7), none], [.long ((cs_l s5 7 k1 k0).2.2 7 (Int32.toNatClampNeg l1)), .int l2, .ref 330], cl_h g0 g1 g2 g3 (ct_p4 s4) (ct_e5 p5 t5 (cs_l s5 7 k1 k0)) g6 g7 g8 g9 q)) tk_X3_append (by omega) rfl ⟨pm_inb_vp b31, pm_inb_vp b30, trivial⟩ ?_
    exact ec_X3_append_c10 (by omega) H
set_option maxRecDepth 20000 in
set_option maxHeartbeats 20000000 in
theorem ec_X3_append_c2 {d : Nat} (hd : 1 ≤ d) {g0 g1 g2 g3 g6 g7 g8 g9 : List pm_E} {p5 t5 : Value} {q : Nat × Nat × Nat} {s4 : cs_S} {s5 : cs_S} {l1 : Int32} {l2 : Int32} {l3 : Int32} {l5 : Int32} {l6 : Int32} {l7 : Int64} {k0 : Int64} {k1 : Int32} {z5 : cs_S} (H : fc_X3_append_c2 s4 s5 l1 l2 l3 l5 l6 l7 k0 k1 = some z5) : pm_Wg 51 d (.inl (none)) (cl_h g0 g1 g2 g3 (ct_p4 s4) (ct_e5 p5 t5 z5) g6 g7 g8 g9 q) (136, [some (.ref 321), some (.int l1), some (.int l2), some (.int l3), some (.ref 256), some (.int l5), some (.int l6), some (.long l7), none], [.long k0, .int k1, .ref 330], cl_h g0 g1 g2 g3 (ct_p4 s4) (ct_e5 p5 t5 s5) g6 g7 g8 g9 q) := by
  unfold fc_X3_append_c2 at H
  try dsimp only at H
  cases b14 : pm_inb k1 3248 with
  | false => rw [b14] at H; cases H
  | true =>
   rw [b14] at H
   dsimp only at H
   cases b15 : pm_inb l6 6 with
   | false => rw [b15] at H; cases H
   | true =>
    rw [b15] at H
    dsimp only at H
    by_cases h16 : (s4.2.1 3 (Int32.toNatClampNeg l6)) ≤ 0
    · rw [if_pos h16] at H
      refine pm_Wg.path (k := 10) (ds := [1]) (f' := (196, [some (.ref 321), some (.int l1), some (.int l2), some (.int l3), some (.ref 256), some (.int l5), some (.int l6), some (.long l7), none], [.int l3, .int l2, .ref 331], cl_h g0 g1 g2 g3 (ct_p4 s4) (ct_e5 p5 t5 (cs_l s5 10 k1 k0)) g6 g7 g8 g9 q)) tk_X3_append (by omega) rfl ⟨h16, pm_inb_vp b15, pm_inb_vp b14, trivial⟩ ?_
      exact ec_X3_append_c3 (by omega) H
    · rw [if_neg h16] at H
      cases b17 : pm_inb l1 42 with
      | false => rw [b17] at H; cases H
      | true =>
       rw [b17] at H
       dsimp only at H
       by_cases b19 : (s4.2.1 3 (Int32.toNatClampNeg l6)) = 0
       · rw [if_pos b19] at H; cases H
       rw [if_neg b19] at H
       refine pm_Wg.path (k := 23) (ds := [0]) (f' := (177, [some (.ref 321), some (.int l1), some (.int l2), some (.int l3), some (.ref 256), some (.int l5), some (.int l6), some (.long l7), none], [.long (if (((cs_l s5 10 k1 k0).2.2 7 (Int32.toNatClampNeg l1)) + (Int32.toInt64 (1000000 / (s4.2.1 3 (Int32.toNatClampNeg l6))))) < l7 then l7 else (((cs_l s5 10 k1 k0).2.2 7 (Int32.toNatClampNeg l1)) + (Int32.toInt64 (1000000 / (s4.2.1 3 (Int32.toNatClampNeg l6)))))), .int l1, .ref 327], cl_h g0 g1 g2 g3 (ct_p4 s4) (ct_e5 p5 t5 (cs_l s5 10 k1 k0)) g6 g7 g8 g9 q)) tk_X3_append (by omega) rfl ⟨b19, pm_inb_vp b15, pm_inb_vp b17, h16, pm_inb_vp b15, pm_inb_vp b14, trivial⟩ ?_
       exact ec_X3_append_c9 (by omega) H
set_option maxRecDepth 20000 in
set_option maxHeartbeats 20000000 in
theorem ec_X3_append_c1 {d : Nat} (hd : 1 ≤ d) {g0 g1 g2 g3 g6 g7 g8 g9 : List pm_E} {p5 t5 : Value} {q : Nat × Nat × Nat} {s4 : cs_S} {s5 : cs_S} {l1 : Int32} {l2 : Int32} {l3 : Int32} {l5 : Int32} {l6 : Int32} {l7 : Int64} {k0 : Int64} {k1 : Int32} {z5 : cs_S} (H : fc_X3_append_c1 s4 s5 l1 l2 l3 l5 l6 l7 k0 k1 = some z5) : pm_Wg 51 d (.inl (none)) (cl_h g0 g1 g2 g3 (ct_p4 s4) (ct_e5 p5 t5 z5) g6 g7 g8 g9 q) (129, [some (.ref 321), some (.int l1), some (.int l2), some (.int l3), some (.ref 256), some (.int l5), some (.int l6), some (.long l7), none], [.long k0, .int k1, .ref 329], cl_h g0 g1 g2 g3 (ct_p4 s4) (ct_e5 p5 t5 s5) g6 g7 g8 g9 q) := by
  unfold fc_X3_append_c1 at H
  try dsimp only at H
  cases b13 : pm_inb k1 3248 with
  | false => rw [b13] at H; cases H
  | true =>
   rw [b13] at H
   dsimp only at H
   refine pm_Wg.path (k := 5) (ds := []) (f' := (136, [some (.ref 321), some (.int l1), some (.int l2), some (.int l3), some (.ref 256), some (.int l5), some (.int l6), some (.long l7), none], [.long 0, .int l2, .ref 330], cl_h g0 g1 g2 g3 (ct_p4 s4) (ct_e5 p5 t5 (cs_l s5 9 k1 k0)) g6 g7 g8 g9 q)) tk_X3_append (by omega) rfl ⟨pm_inb_vp b13, trivial⟩ ?_
   exact ec_X3_append_c2 (by omega) H
set_option maxRecDepth 20000 in
set_option maxHeartbeats 20000000 in
theorem ec_X3_append_c11 {d : Nat} (hd : 1 ≤ d) {g0 g1 g2 g3 g6 g7 g8 g9 : List pm_E} {p5 t5 : Value} {q : Nat × Nat × Nat} {s4 : cs_S} {s5 : cs_S} {l1 : Int32} {l2 : Int32} {l3 : Int32} {l5 : Int32} {l6 : Int32} {l7 : Int64} {k0 : Int64} {k1 : Int32} {z5 : cs_S} (H : fc_X3_append_c11 s4 s5 l1 l2 l3 l5 l6 l7 k0 k1 = some z5) : pm_Wg 51 d (.inl (none)) (cl_h g0 g1 g2 g3 (ct_p4 s4) (ct_e5 p5 t5 z5) g6 g7 g8 g9 q) (117, [some (.ref 321), some (.int l1), some (.int l2), some (.int l3), some (.ref 256), some (.int l5), some (.int l6), some (.long l7), none], [.long k0, .int k1, .ref 326], cl_h g0 g1 g2 g3 (ct_p4 s4) (ct_e5 p5 t5 s5) g6 g7 g8 g9 q) := by
  unfold fc_X3_append_c11 at H
  try dsimp only at H
  cases b33 : pm_inb k1 42 with
  | false => rw [b33] at H; cases H
  | true =>
   rw [b33] at H
   dsimp only at H
   cases b34 : pm_inb l1 42 with
   | false => rw [b34] at H; cases H
   | true =>
    rw [b34] at H
    dsimp only at H
    refine pm_Wg.path (k := 8) (ds := []) (f' := (129, [some (.ref 321), some (.int l1), some (.int l2), some (.int l3), some (.ref 256), some (.int l5), some (.int l6), some (.long l7), none], [.long ((cs_l s5 6 k1 k0).2.2 6 (Int32.toNatClampNeg l1)), .int l2, .ref 329], cl_h g0 g1 g2 g3 (ct_p4 s4) (ct_e5 p5 t5 (cs_l s5 6 k1 k0)) g6 g7 g8 g9 q)) tk_X3_append (by omega) rfl ⟨pm_inb_vp b34, pm_inb_vp b33, trivial⟩ ?_
    exact ec_X3_append_c1 (by omega) H
set_option maxRecDepth 20000 in
set_option maxHeartbeats 20000000 in
theorem ec_X3_append_c13 {d : Nat} (hd : 1 ≤ d) {g0 g1 g2 g3 g6 g7 g8 g9 : List pm_E} {p5 t5 : Value} {q : Nat × Nat × Nat} {s4 : cs_S} {s5 : cs_S} {l1 : Int32} {l2 : Int32} {l3 : Int32} {l5 : Int32} {l6 : Int32} {l7 : Int64} {k0 : Int64} {k1 : Int32} {z5 : cs_S} (H : fc_X3_append_c13 s4 s5 l1 l2 l3 l5 l6 l7 k0 k1 = some z5) : pm_Wg 51 d (.inl (none)) (cl_h g0 g1 g2 g3 (ct_p4 s4) (ct_e5 p5 t5 z5) g6 g7 g8 g9 q) (76, [some (.ref 321), some (.int l1), some (.int l2), some (.int l3), some (.ref 256), some (.int l5), some (.int l6), some (.long l7), none], [.long k0, .int k1, .ref 328], cl_h g0 g1 g2 g3 (ct_p4 s4) (ct_e5 p5 t5 s5) g6 g7 g8 g9 q) := by
  unfold fc_X3_append_c13 at H
  try dsimp only at H
  cases b37 : pm_inb k1 3248 with
  | false => rw [b37] at H; cases H
  | true =>
   rw [b37] at H
   dsimp only at H
   cases b38 : pm_inb l6 6 with
   | false => rw [b38] at H; cases H
   | true =>
    rw [b38] at H
    dsimp only at H
    by_cases h39 : (s4.2.1 2 (Int32.toNatClampNeg l6)) ≤ 0
    · rw [if_pos h39] at H
      cases b40 : pm_inb l1 42 with
      | false => rw [b40] at H; cases H
      | true =>
       rw [b40] at H
       dsimp only at H
       refine pm_Wg.path (k := 13) (ds := [1]) (f' := (129, [some (.ref 321), some (.int l1), some (.int l2), some (.int l3), some (.ref 256), some (.int l5), some (.int l6), some (.long l7), none], [.long ((cs_l s5 8 k1 k0).2.2 6 (Int32.toNatClampNeg l1)), .int l2, .ref 329], cl_h g0 g1 g2 g3 (ct_p4 s4) (ct_e5 p5 t5 (cs_l s5 8 k1 k0)) g6 g7 g8 g9 q)) tk_X3_append (by omega) rfl ⟨pm_inb_vp b40, h39, pm_inb_vp b38, pm_inb_vp b37, trivial⟩ ?_
       exact ec_X3_append_c1 (by omega) H
    · rw [if_neg h39] at H
      cases b41 : pm_inb l1 42 with
      | false => rw [b41] at H; cases H
      | true =>
       rw [b41] at H
       dsimp only at H
       by_cases b43 : (s4.2.1 2 (Int32.toNatClampNeg l6)) = 0
       · rw [if_pos b43] at H; cases H
       rw [if_neg b43] at H
       refine pm_Wg.path (k := 23) (ds := [0]) (f' := (117, [some (.ref 321), some (.int l1), some (.int l2), some (.int l3), some (.ref 256), some (.int l5), some (.int l6), some (.long l7), none], [.long (if (((cs_l s5 8 k1 k0).2.2 6 (Int32.toNatClampNeg l1)) + (Int32.toInt64 (1000000 / (s4.2.1 2 (Int32.toNatClampNeg l6))))) < l7 then l7 else (((cs_l s5 8 k1 k0).2.2 6 (Int32.toNatClampNeg l1)) + (Int32.toInt64 (1000000 / (s4.2.1 2 (Int32.toNatClampNeg l6)))))), .int l1, .ref 326], cl_h g0 g1 g2 g3 (ct_p4 s4) (ct_e5 p5 t5 (cs_l s5 8 k1 k0)) g6 g7 g8 g9 q)) tk_X3_append (by omega) rfl ⟨b43, pm_inb_vp b38, pm_inb_vp b41, h39, pm_inb_vp b38, pm_inb_vp b37, trivial⟩ ?_
       exact ec_X3_append_c11 (by omega) H
set_option maxRecDepth 20000 in
set_option maxHeartbeats 20000000 in
theorem ec_X3_append_c12 {d : Nat} (hd : 1 ≤ d) {g0 g1 g2 g3 g6 g7 g8 g9 : List pm_E} {p5 t5 : Value} {q : Nat × Nat × Nat} {s4 : cs_S} {s5 : cs_S} {l1 : Int32} {l2 : Int32} {l3 : Int32} {l5 : Int32} {l6 : Int32} {l7 : Int64} {k0 : Int64} {k1 : Int32} {z5 : cs_S} (H : fc_X3_append_c12 s4 s5 l1 l2 l3 l5 l6 l7 k0 k1 = some z5) : pm_Wg 51 d (.inl (none)) (cl_h g0 g1 g2 g3 (ct_p4 s4) (ct_e5 p5 t5 z5) g6 g7 g8 g9 q) (64, [some (.ref 321), some (.int l1), some (.int l2), some (.int l3), some (.ref 256), some (.int l5), some (.int l6), some (.long l7), none], [.long k0, .int k1, .ref 325], cl_h g0 g1 g2 g3 (ct_p4 s4) (ct_e5 p5 t5 s5) g6 g7 g8 g9 q) := by
  unfold fc_X3_append_c12 at H
  try dsimp only at H
  cases b35 : pm_inb k1 42 with
  | false => rw [b35] at H; cases H
  | true =>
   rw [b35] at H
   dsimp only at H
   cases b36 : pm_inb l1 42 with
   | false => rw [b36] at H; cases H
   | true =>
    rw [b36] at H
    dsimp only at H
    refine pm_Wg.path (k := 8) (ds := []) (f' := (76, [some (.ref 321), some (.int l1), some (.int l2), some (.int l3), some (.ref 256), some (.int l5), some (.int l6), some (.long l7), none], [.long ((cs_l s5 5 k1 k0).2.2 5 (Int32.toNatClampNeg l1)), .int l2, .ref 328], cl_h g0 g1 g2 g3 (ct_p4 s4) (ct_e5 p5 t5 (cs_l s5 5 k1 k0)) g6 g7 g8 g9 q)) tk_X3_append (by omega) rfl ⟨pm_inb_vp b36, pm_inb_vp b35, trivial⟩ ?_
    exact ec_X3_append_c13 (by omega) H
set_option maxRecDepth 20000 in
set_option maxHeartbeats 20000000 in
theorem e_X3_append {d : Nat} (hd : 1 ≤ d) {g0 g1 g2 g3 g6 g7 g8 g9 : List pm_E} {p5 t5 : Value} {q : Nat × Nat × Nat} {s4 : cs_S} {s5 : cs_S} {a0 : Int32} {a1 : Int32} {a2 : Int32} {a4 : Int32} {z5 : cs_S} (H : f_X3_append s4 s5 a0 a1 a2 a4 = some z5) : pm_Mt 51 d [.ref 321, .int a0, .int a1, .int a2, .ref 256, .int a4] (cl_h g0 g1 g2 g3 (ct_p4 s4) (ct_e5 p5 t5 s5) g6 g7 g8 g9 q) (.inl (none)) (cl_h g0 g1 g2 g3 (ct_p4 s4) (ct_e5 p5 t5 z5) g6 g7 g8 g9 q) := by
  refine pm_Mt.of (by decide) (by decide +kernel) rfl rfl ?_
  unfold f_X3_append at H
  cases b1 : pm_inb a1 3248 with
  | false => rw [b1] at H; cases H
  | true =>
   rw [b1] at H
   dsimp only at H
   cases b2 : pm_inb (a0 - a0 / 6 * 6) 6 with
   | false => rw [b2] at H; cases H
   | true =>
    rw [b2] at H
    dsimp only at H
    by_cases h3 : (s4.2.1 1 (Int32.toNatClampNeg (a0 - a0 / 6 * 6))) ≤ 0
    · rw [if_pos h3] at H
      by_cases h5 : (s4.2.1 2 (Int32.toNatClampNeg (a0 - a0 / 6 * 6))) ≤ 0
      · rw [if_pos h5] at H
        cases b6 : pm_inb a0 42 with
        | false => rw [b6] at H; cases H
        | true =>
         rw [b6] at H
         dsimp only at H
         refine pm_Wg.path (k := 31) (ds := [1, 1]) (f' := (129, [some (.ref 321), some (.int a0), some (.int a1), some (.int a2), some (.ref 256), some (.int a4), some (.int (a0 - a0 / 6 * 6)), some (.long (1000 * (Int32.toInt64 a4))), none], [.long ((cs_l s5 8 a1 (-1152921504606846976)).2.2 6 (Int32.toNatClampNeg a0)), .int a1, .ref 329], cl_h g0 g1 g2 g3 (ct_p4 s4) (ct_e5 p5 t5 (cs_l s5 8 a1 (-1152921504606846976))) g6 g7 g8 g9 q)) tk_X3_append (by omega) rfl ⟨pm_inb_vp b6, h5, pm_inb_vp b2, h3, pm_inb_vp b2, pm_inb_vp b1, (by decide), trivial⟩ ?_
         exact ec_X3_append_c1 (by omega) H
      · rw [if_neg h5] at H
        cases b7 : pm_inb a0 42 with
        | false => rw [b7] at H; cases H
        | true =>
         rw [b7] at H
         dsimp only at H
         by_cases b9 : (s4.2.1 2 (Int32.toNatClampNeg (a0 - a0 / 6 * 6))) = 0
         · rw [if_pos b9] at H; cases H
         rw [if_neg b9] at H
         refine pm_Wg.path (k := 41) (ds := [1, 0]) (f' := (117, [some (.ref 321), some (.int a0), some (.int a1), some (.int a2), some (.ref 256), some (.int a4), some (.int (a0 - a0 / 6 * 6)), some (.long (1000 * (Int32.toInt64 a4))), none], [.long (if (((cs_l s5 8 a1 (-1152921504606846976)).2.2 6 (Int32.toNatClampNeg a0)) + (Int32.toInt64 (1000000 / (s4.2.1 2 (Int32.toNatClampNeg (a0 - a0 / 6 * 6)))))) < (1000 * (Int32.toInt64 a4)) then (1000 * (Int32.toInt64 a4)) else (((cs_l s5 8 a1 (-1152921504606846976)).2.2 6 (Int32.toNatClampNeg a0)) + (Int32.toInt64 (1000000 / (s4.2.1 2 (Int32.toNatClampNeg (a0 - a0 / 6 * 6))))))), .int a0, .ref 326], cl_h g0 g1 g2 g3 (ct_p4 s4) (ct_e5 p5 t5 (cs_l s5 8 a1 (-1152921504606846976))) g6 g7 g8 g9 q)) tk_X3_append (by omega) rfl ⟨b9, pm_inb_vp b2, pm_inb_vp b7, h5, pm_inb_vp b2, h3, pm_inb_vp b2, pm_inb_vp b1, (by decide), trivial⟩ ?_
         exact ec_X3_append_c11 (by omega) H
    · rw [if_neg h3] at H
      cases b10 : pm_inb a0 42 with
      | false => rw [b10] at H; cases H
      | true =>
       rw [b10] at H
       dsimp only at H
       by_cases b12 : (s4.2.1 1 (Int32.toNatClampNeg (a0 - a0 / 6 * 6))) = 0
       · rw [if_pos b12] at H; cases H
       rw [if_neg b12] at H
       refine pm_Wg.path (k := 36) (ds := [0]) (f' := (64, [some (.ref 321), some (.int a0), some (.int a1), some (.int a2), some (.ref 256), some (.int a4), some (.int (a0 - a0 / 6 * 6)), some (.long (1000 * (Int32.toInt64 a4))), none], [.long (if (((cs_l s5 8 a1 (-1152921504606846976)).2.2 5 (Int32.toNatClampNeg a0)) + (Int32.toInt64 (1000000 / (s4.2.1 1 (Int32.toNatClampNeg (a0 - a0 / 6 * 6)))))) < (1000 * (Int32.toInt64 a4)) then (1000 * (Int32.toInt64 a4)) else (((cs_l s5 8 a1 (-1152921504606846976)).2.2 5 (Int32.toNatClampNeg a0)) + (Int32.toInt64 (1000000 / (s4.2.1 1 (Int32.toNatClampNeg (a0 - a0 / 6 * 6))))))), .int a0, .ref 325], cl_h g0 g1 g2 g3 (ct_p4 s4) (ct_e5 p5 t5 (cs_l s5 8 a1 (-1152921504606846976))) g6 g7 g8 g9 q)) tk_X3_append (by omega) rfl ⟨b12, pm_inb_vp b2, pm_inb_vp b10, h3, pm_inb_vp b2, pm_inb_vp b1, (by decide), trivial⟩ ?_
       exact ec_X3_append_c12 (by omega) H

def fc_X3_removeFirst_c1 (s5 : cs_S) (l1 : Int32) (l2 : Int32) (k0 : Int32) (k1 : Int32) : Option (Int32 × cs_S) :=
  (match pm_inb k1 42 with
  | false => none
  | true =>
  some (l2, (cs_a s5 4 k1 k0)))
def f_X3_removeFirst (s5 : cs_S) (a0 : Int32) : Option (Int32 × cs_S) :=
  (match pm_inb a0 42 with
  | false => none
  | true =>
  (if (s5.2.1 4 (Int32.toNatClampNeg a0)) = 0 then
   some ((-1), s5)
  else
   (match pm_inb (s5.2.1 2 (Int32.toNatClampNeg a0)) 3248 with
   | false => none
   | true =>
   (fc_X3_removeFirst_c1 (cs_a s5 2 a0 (s5.2.1 12 (Int32.toNatClampNeg (s5.2.1 2 (Int32.toNatClampNeg a0))))) a0 (s5.2.1 2 (Int32.toNatClampNeg a0)) (((cs_a s5 2 a0 (s5.2.1 12 (Int32.toNatClampNeg (s5.2.1 2 (Int32.toNatClampNeg a0))))).2.1 4 (Int32.toNatClampNeg a0)) - 1) a0))))
def tb_X3_removeFirst : List pm_I := [(0, .aload_n 0, 0, 0), (1, .getfield 18, 18, 0), (4, .iload_n 1, 0, 0), (5, .iaload, 0, 0), (6, .ifCond .ne 5, 11, 0), (9, .iconst (-1), 1, 0), (10, .ireturn, 0, 0), (11, .aload_n 0, 0, 0), (12, .getfield 11, 15, 0), (15, .iload_n 1, 0, 0), (16, .iaload, 0, 0), (17, .istore_n 2, 0, 0), (18, .aload_n 0, 0, 0), (19, .getfield 11, 15, 0), (22, .iload_n 1, 0, 0), (23, .aload_n 0, 0, 0), (24, .getfield 43, 31, 0), (27, .iload_n 2, 0, 0), (28, .iaload, 0, 0), (29, .iastore, 0, 0), (30, .aload_n 0, 0, 0), (31, .getfield 18, 18, 0), (34, .iload_n 1, 0, 0), (35, .dup2, 0, 0), (36, .iaload, 0, 0), (37, .iconst 1, 3, 0), (38, .isub, 0, 0), (39, .iastore, 0, 0), (40, .iload_n 2, 0, 0), (41, .ireturn, 0, 0)]
theorem tk_X3_removeFirst : ∀ e ∈ tb_X3_removeFirst, pm_ck 52 e = true := List.all_eq_true.mp (by decide +kernel)
set_option maxRecDepth 20000 in
set_option maxHeartbeats 20000000 in
theorem ec_X3_removeFirst_c1 {d : Nat} (hd : 1 ≤ d) {g0 g1 g2 g3 g4 g6 g7 g8 g9 : List pm_E} {p5 t5 : Value} {q : Nat × Nat × Nat} {s5 : cs_S} {l1 : Int32} {l2 : Int32} {k0 : Int32} {k1 : Int32} {r : Int32} {z5 : cs_S} (H : fc_X3_removeFirst_c1 s5 l1 l2 k0 k1 = some (r, z5)) : pm_Wg 52 d (.inl (some (.int r))) (cl_h g0 g1 g2 g3 g4 (ct_e5 p5 t5 z5) g6 g7 g8 g9 q) (39, [some (.ref 321), some (.int l1), some (.int l2)], [.int k0, .int k1, .ref 324], cl_h g0 g1 g2 g3 g4 (ct_e5 p5 t5 s5) g6 g7 g8 g9 q) := by
  unfold fc_X3_removeFirst_c1 at H
  try dsimp only at H
  cases b7 : pm_inb k1 42 with
  | false => rw [b7] at H; cases H
  | true =>
   rw [b7] at H
   dsimp only at H
   have J := Option.some.inj H
   injection J with J0a J0z
   subst J0a
   subst J0z
   refine pm_Wg.path (k := 2) (ds := []) (f' := (41, [some (.ref 321), some (.int l1), some (.int l2)], [.int l2], cl_h g0 g1 g2 g3 g4 (ct_e5 p5 t5 (cs_a s5 4 k1 k0)) g6 g7 g8 g9 q)) tk_X3_removeFirst (by omega) rfl ⟨pm_inb_vp b7, trivial⟩ ?_
   exact pm_Wg.iret (pm_dec tk_X3_removeFirst rfl) rfl rfl
set_option maxRecDepth 20000 in
set_option maxHeartbeats 20000000 in
theorem e_X3_removeFirst {d : Nat} (hd : 1 ≤ d) {g0 g1 g2 g3 g4 g6 g7 g8 g9 : List pm_E} {p5 t5 : Value} {q : Nat × Nat × Nat} {s5 : cs_S} {a0 : Int32} {r : Int32} {z5 : cs_S} (H : f_X3_removeFirst s5 a0 = some (r, z5)) : pm_Mt 52 d [.ref 321, .int a0] (cl_h g0 g1 g2 g3 g4 (ct_e5 p5 t5 s5) g6 g7 g8 g9 q) (.inl (some (.int r))) (cl_h g0 g1 g2 g3 g4 (ct_e5 p5 t5 z5) g6 g7 g8 g9 q) := by
  refine pm_Mt.of (by decide) (by decide +kernel) rfl rfl ?_
  unfold f_X3_removeFirst at H
  cases b1 : pm_inb a0 42 with
  | false => rw [b1] at H; cases H
  | true =>
   rw [b1] at H
   dsimp only at H
   by_cases h2 : (s5.2.1 4 (Int32.toNatClampNeg a0)) = 0
   · rw [if_pos h2] at H
     have J := Option.some.inj H
     injection J with J0a J0z
     subst J0a
     subst J0z
     refine pm_Wg.path (k := 6) (ds := [0]) (f' := (10, [some (.ref 321), some (.int a0), none], [.int (-1)], cl_h g0 g1 g2 g3 g4 (ct_e5 p5 t5 s5) g6 g7 g8 g9 q)) tk_X3_removeFirst (by omega) rfl ⟨h2, pm_inb_vp b1, trivial⟩ ?_
     exact pm_Wg.iret (pm_dec tk_X3_removeFirst rfl) rfl rfl
   · rw [if_neg h2] at H
     cases b4 : pm_inb (s5.2.1 2 (Int32.toNatClampNeg a0)) 3248 with
     | false => rw [b4] at H; cases H
     | true =>
      rw [b4] at H
      dsimp only at H
      refine pm_Wg.path (k := 25) (ds := [1]) (f' := (39, [some (.ref 321), some (.int a0), some (.int (s5.2.1 2 (Int32.toNatClampNeg a0)))], [.int (((cs_a s5 2 a0 (s5.2.1 12 (Int32.toNatClampNeg (s5.2.1 2 (Int32.toNatClampNeg a0))))).2.1 4 (Int32.toNatClampNeg a0)) - 1), .int a0, .ref 324], cl_h g0 g1 g2 g3 g4 (ct_e5 p5 t5 (cs_a s5 2 a0 (s5.2.1 12 (Int32.toNatClampNeg (s5.2.1 2 (Int32.toNatClampNeg a0)))))) g6 g7 g8 g9 q)) tk_X3_removeFirst (by omega) rfl ⟨pm_inb_vp b1, pm_inb_vp b1, pm_inb_vp b4, pm_inb_vp b1, h2, pm_inb_vp b1, trivial⟩ ?_
      exact ec_X3_removeFirst_c1 (by omega) H

def fc_X3_unlink_c2 (s5 : cs_S) (l1 : Int32) (l2 : Int32) (l3 : Int32) (k0 : Int32) (k1 : Int32) : Option (cs_S) :=
  (match pm_inb k1 42 with
  | false => none
  | true =>
  some (cs_a s5 4 k1 k0))
def fc_X3_unlink_c1 (s5 : cs_S) (l1 : Int32) (l2 : Int32) (l3 : Int32) (k0 : Int32) (k1 : Int32) : Option (cs_S) :=
  (match pm_inb k1 42 with
  | false => none
  | true =>
  (match pm_inb l1 42 with
  | false => none
  | true =>
  (fc_X3_unlink_c2 (cs_a s5 3 k1 k0) l1 l2 l3 (((cs_a s5 3 k1 k0).2.1 4 (Int32.toNatClampNeg l1)) - 1) l1)))
def f_X3_unlink (s5 : cs_S) (a0 : Int32) (a1 : Int32) (a2 : Int32) : Option (cs_S) :=
  (if a1 = (-1) then
   (match pm_inb a2 3248 with
   | false => none
   | true =>
   (match pm_inb a0 42 with
   | false => none
   | true =>
   (if ((cs_a s5 2 a0 (s5.2.1 12 (Int32.toNatClampNeg a2))).2.1 3 (Int32.toNatClampNeg a0)) = a2 then
    (fc_X3_unlink_c1 (cs_a s5 2 a0 (s5.2.1 12 (Int32.toNatClampNeg a2))) a0 a1 a2 a1 a0)
   else
    (fc_X3_unlink_c2 (cs_a s5 2 a0 (s5.2.1 12 (Int32.toNatClampNeg a2))) a0 a1 a2 (((cs_a s5 2 a0 (s5.2.1 12 (Int32.toNatClampNeg a2))).2.1 4 (Int32.toNatClampNeg a0)) - 1) a0))))
  else
   (match pm_inb a2 3248 with
   | false => none
   | true =>
   (match pm_inb a1 3248 with
   | false => none
   | true =>
   (match pm_inb a0 42 with
   | false => none
   | true =>
   (if ((cs_a s5 12 a1 (s5.2.1 12 (Int32.toNatClampNeg a2))).2.1 3 (Int32.toNatClampNeg a0)) = a2 then
    (fc_X3_unlink_c1 (cs_a s5 12 a1 (s5.2.1 12 (Int32.toNatClampNeg a2))) a0 a1 a2 a1 a0)
   else
    (fc_X3_unlink_c2 (cs_a s5 12 a1 (s5.2.1 12 (Int32.toNatClampNeg a2))) a0 a1 a2 (((cs_a s5 12 a1 (s5.2.1 12 (Int32.toNatClampNeg a2))).2.1 4 (Int32.toNatClampNeg a0)) - 1) a0))))))
def tb_X3_unlink : List pm_I := [(0, .iload_n 2, 0, 0), (1, .iconst (-1), 1, 0), (2, .if_icmp .ne 18, 20, 0), (5, .aload_n 0, 0, 0), (6, .getfield 11, 15, 0), (9, .iload_n 1, 0, 0), (10, .aload_n 0, 0, 0), (11, .getfield 43, 31, 0), (14, .iload_n 3, 0, 0), (15, .iaload, 0, 0), (16, .iastore, 0, 0), (17, .goto 15, 32, 0), (20, .aload_n 0, 0, 0), (21, .getfield 43, 31, 0), (24, .iload_n 2, 0, 0), (25, .aload_n 0, 0, 0), (26, .getfield 43, 31, 0), (29, .iload_n 3, 0, 0), (30, .iaload, 0, 0), (31, .iastore, 0, 0), (32, .aload_n 0, 0, 0), (33, .getfield 15, 17, 0), (36, .iload_n 1, 0, 0), (37, .iaload, 0, 0), (38, .iload_n 3, 0, 0), (39, .if_icmp .ne 10, 49, 0), (42, .aload_n 0, 0, 0), (43, .getfield 15, 17, 0), (46, .iload_n 1, 0, 0), (47, .iload_n 2, 0, 0), (48, .iastore, 0, 0), (49, .aload_n 0, 0, 0), (50, .getfield 18, 18, 0), (53, .iload_n 1, 0, 0), (54, .dup2, 0, 0), (55, .iaload, 0, 0), (56, .iconst 1, 3, 0), (57, .isub, 0, 0), (58, .iastore, 0, 0), (59, .return_, 0, 0)]
theorem tk_X3_unlink : ∀ e ∈ tb_X3_unlink, pm_ck 54 e = true := List.all_eq_true.mp (by decide +kernel)
set_option maxRecDepth 20000 in
set_option maxHeartbeats 20000000 in
theorem ec_X3_unlink_c2 {d : Nat} (hd : 1 ≤ d) {g0 g1 g2 g3 g4 g6 g7 g8 g9 : List pm_E} {p5 t5 : Value} {q : Nat × Nat × Nat} {s5 : cs_S} {l1 : Int32} {l2 : Int32} {l3 : Int32} {k0 : Int32} {k1 : Int32} {z5 : cs_S} (H : fc_X3_unlink_c2 s5 l1 l2 l3 k0 k1 = some z5) : pm_Wg 54 d (.inl (none)) (cl_h g0 g1 g2 g3 g4 (ct_e5 p5 t5 z5) g6 g7 g8 g9 q) (58, [some (.ref 321), some (.int l1), some (.int l2), some (.int l3)], [.int k0, .int k1, .ref 324], cl_h g0 g1 g2 g3 g4 (ct_e5 p5 t5 s5) g6 g7 g8 g9 q) := by
  unfold fc_X3_unlink_c2 at H
  try dsimp only at H
  cases b14 : pm_inb k1 42 with
  | false => rw [b14] at H; cases H
  | true =>
   rw [b14] at H
   dsimp only at H
   have J := Option.some.inj H
   subst J
   refine pm_Wg.path (k := 1) (ds := []) (f' := (59, [some (.ref 321), some (.int l1), some (.int l2), some (.int l3)], [], cl_h g0 g1 g2 g3 g4 (ct_e5 p5 t5 (cs_a s5 4 k1 k0)) g6 g7 g8 g9 q)) tk_X3_unlink (by omega) rfl ⟨pm_inb_vp b14, trivial⟩ ?_
   exact pm_Wg.vret (pm_dec tk_X3_unlink rfl) rfl
set_option maxRecDepth 20000 in
set_option maxHeartbeats 20000000 in
theorem ec_X3_unlink_c1 {d : Nat} (hd : 1 ≤ d) {g0 g1 g2 g3 g4 g6 g7 g8 g9 : List pm_E} {p5 t5 : Value} {q : Nat × Nat × Nat} {s5 : cs_S} {l1 : Int32} {l2 : Int32} {l3 : Int32} {k0 : Int32} {k1 : Int32} {z5 : cs_S} (H : fc_X3_unlink_c1 s5 l1 l2 l3 k0 k1 = some z5) : pm_Wg 54 d (.inl (none)) (cl_h g0 g1 g2 g3 g4 (ct_e5 p5 t5 z5) g6 g7 g8 g9 q) (48, [some (.ref 321), some (.int l1), some (.int l2), some (.int l3)], [.int k0, .int k1, .ref 323], cl_h g0 g1 g2 g3 g4 (ct_e5 p5 t5 s5) g6 g7 g8 g9 q) := by
  unfold fc_X3_unlink_c1 at H
  try dsimp only at H
  cases b12 : pm_inb k1 42 with
  | false => rw [b12] at H; cases H
  | true =>
   rw [b12] at H
   dsimp only at H
   cases b13 : pm_inb l1 42 with
   | false => rw [b13] at H; cases H
   | true =>
    rw [b13] at H
    dsimp only at H
    refine pm_Wg.path (k := 8) (ds := []) (f' := (58, [some (.ref 321), some (.int l1), some (.int l2), some (.int l3)], [.int (((cs_a s5 3 k1 k0).2.1 4 (Int32.toNatClampNeg l1)) - 1), .int l1, .ref 324], cl_h g0 g1 g2 g3 g4 (ct_e5 p5 t5 (cs_a s5 3 k1 k0)) g6 g7 g8 g9 q)) tk_X3_unlink (by omega) rfl ⟨pm_inb_vp b13, pm_inb_vp b12, trivial⟩ ?_
    exact ec_X3_unlink_c2 (by omega) H
set_option maxRecDepth 20000 in
set_option maxHeartbeats 20000000 in
theorem e_X3_unlink {d : Nat} (hd : 1 ≤ d) {g0 g1 g2 g3 g4 g6 g7 g8 g9 : List pm_E} {p5 t5 : Value} {q : Nat × Nat × Nat} {s5 : cs_S} {a0 : Int32} {a1 : Int32} {a2 : Int32} {z5 : cs_S} (H : f_X3_unlink s5 a0 a1 a2 = some z5) : pm_Mt 54 d [.ref 321, .int a0, .int a1, .int a2] (cl_h g0 g1 g2 g3 g4 (ct_e5 p5 t5 s5) g6 g7 g8 g9 q) (.inl (none)) (cl_h g0 g1 g2 g3 g4 (ct_e5 p5 t5 z5) g6 g7 g8 g9 q) := by
  refine pm_Mt.of (by decide) (by decide +kernel) rfl rfl ?_
  unfold f_X3_unlink at H
  by_cases h1 : a1 = (-1)
  · rw [if_pos h1] at H
    cases b2 : pm_inb a2 3248 with
    | false => rw [b2] at H; cases H
    | true =>
     rw [b2] at H
     dsimp only at H
     cases b3 : pm_inb a0 42 with
     | false => rw [b3] at H; cases H
     | true =>
      rw [b3] at H
      dsimp only at H
      by_cases h5 : ((cs_a s5 2 a0 (s5.2.1 12 (Int32.toNatClampNeg a2))).2.1 3 (Int32.toNatClampNeg a0)) = a2
      · rw [if_pos h5] at H
        refine pm_Wg.path (k := 22) (ds := [0, 0]) (f' := (48, [some (.ref 321), some (.int a0), some (.int a1), some (.int a2)], [.int a1, .int a0, .ref 323], cl_h g0 g1 g2 g3 g4 (ct_e5 p5 t5 (cs_a s5 2 a0 (s5.2.1 12 (Int32.toNatClampNeg a2)))) g6 g7 g8 g9 q)) tk_X3_unlink (by omega) rfl ⟨h5, pm_inb_vp b3, pm_inb_vp b3, pm_inb_vp b2, h1, trivial⟩ ?_
        exact ec_X3_unlink_c1 (by omega) H
      · rw [if_neg h5] at H
        refine pm_Wg.path (k := 25) (ds := [0, 1]) (f' := (58, [some (.ref 321), some (.int a0), some (.int a1), some (.int a2)], [.int (((cs_a s5 2 a0 (s5.2.1 12 (Int32.toNatClampNeg a2))).2.1 4 (Int32.toNatClampNeg a0)) - 1), .int a0, .ref 324], cl_h g0 g1 g2 g3 g4 (ct_e5 p5 t5 (cs_a s5 2 a0 (s5.2.1 12 (Int32.toNatClampNeg a2)))) g6 g7 g8 g9 q)) tk_X3_unlink (by omega) rfl ⟨pm_inb_vp b3, h5, pm_inb_vp b3, pm_inb_vp b3, pm_inb_vp b2, h1, trivial⟩ ?_
        exact ec_X3_unlink_c2 (by omega) H
  · rw [if_neg h1] at H
    cases b7 : pm_inb a2 3248 with
    | false => rw [b7] at H; cases H
    | true =>
     rw [b7] at H
     dsimp only at H
     cases b8 : pm_inb a1 3248 with
     | false => rw [b8] at H; cases H
     | true =>
      rw [b8] at H
      dsimp only at H
      cases b9 : pm_inb a0 42 with
      | false => rw [b9] at H; cases H
      | true =>
       rw [b9] at H
       dsimp only at H
       by_cases h10 : ((cs_a s5 12 a1 (s5.2.1 12 (Int32.toNatClampNeg a2))).2.1 3 (Int32.toNatClampNeg a0)) = a2
       · rw [if_pos h10] at H
         refine pm_Wg.path (k := 21) (ds := [1, 0]) (f' := (48, [some (.ref 321), some (.int a0), some (.int a1), some (.int a2)], [.int a1, .int a0, .ref 323], cl_h g0 g1 g2 g3 g4 (ct_e5 p5 t5 (cs_a s5 12 a1 (s5.2.1 12 (Int32.toNatClampNeg a2)))) g6 g7 g8 g9 q)) tk_X3_unlink (by omega) rfl ⟨h10, pm_inb_vp b9, pm_inb_vp b8, pm_inb_vp b7, h1, trivial⟩ ?_
         exact ec_X3_unlink_c1 (by omega) H
       · rw [if_neg h10] at H
         refine pm_Wg.path (k := 24) (ds := [1, 1]) (f' := (58, [some (.ref 321), some (.int a0), some (.int a1), some (.int a2)], [.int (((cs_a s5 12 a1 (s5.2.1 12 (Int32.toNatClampNeg a2))).2.1 4 (Int32.toNatClampNeg a0)) - 1), .int a0, .ref 324], cl_h g0 g1 g2 g3 g4 (ct_e5 p5 t5 (cs_a s5 12 a1 (s5.2.1 12 (Int32.toNatClampNeg a2)))) g6 g7 g8 g9 q)) tk_X3_unlink (by omega) rfl ⟨pm_inb_vp b9, h10, pm_inb_vp b9, pm_inb_vp b8, pm_inb_vp b7, h1, trivial⟩ ?_
         exact ec_X3_unlink_c2 (by omega) H

def lb_X3_credit_29 (x : cs_S × Int32 × Int32 × Int32 × Int32 × Int32) : Option ((cs_S × Int32 × Int32 × Int32 × Int32 × Int32) ⊕ (cs_S)) := match x with
  | (s5, l1, l2, l3, l4, l5) =>
   (if l5 ≤ 0 then
    (match pm_inb l1 42 with
    | false => none
    | true =>
    (if (lg_cmp (s5.2.2 5 (Int32.toNatClampNeg l1)) (-1152921504606846976)) = 0 then
     some (.inr s5)
    else
     some (.inr (cs_l s5 5 l1 ((s5.2.2 5 (Int32.toNatClampNeg l1)) - (Int32.toInt64 l3))))))
   else
    (match f_X3_hasTagR s5 l4 with
    | none => none
    | some r12 =>
     (if r12 = 0 then
      (match pm_inb l4 3248 with
      | false => none
      | true =>
      some (.inl (s5, l1, l2, l3, (s5.2.1 12 (Int32.toNatClampNeg l4)), (l5 + (-1)))))
     else
      (match pm_inb l4 3248 with
      | false => none
      | true =>
      some (.inl ((cs_l s5 8 l4 ((s5.2.2 8 (Int32.toNatClampNeg l4)) - (Int32.toInt64 l3))), l1, l2, l3, ((cs_l s5 8 l4 ((s5.2.2 8 (Int32.toNatClampNeg l4)) - (Int32.toInt64 l3))).2.1 12 (Int32.toNatClampNeg l4)), (l5 + (-1))))))))
def f_X3_credit (s5 : cs_S) (a0 : Int32) (a1 : Int32) : Option (cs_S) :=
  (if a1 ≤ 0 then
   (match pm_inb a0 42 with
   | false => none
   | true =>
   (pm_loop pm_fu lb_X3_credit_29 (s5, a0, a1, 0, (s5.2.1 2 (Int32.toNatClampNeg a0)), (s5.2.1 4 (Int32.toNatClampNeg a0)))))
  else
   (if a1 = 0 then none else
   (match pm_inb a0 42 with
   | false => none
   | true =>
   (pm_loop pm_fu lb_X3_credit_29 (s5, a0, a1, (1000000 / a1), (s5.2.1 2 (Int32.toNatClampNeg a0)), (s5.2.1 4 (Int32.toNatClampNeg a0)))))))
def tb_X3_credit : List pm_I := [(0, .iload_n 2, 0, 0), (1, .ifCond .le 10, 11, 0), (4, .ldc 79, 5, 0), (6, .iload_n 2, 0, 0), (7, .idiv, 0, 0), (8, .goto 4, 12, 0), (11, .iconst 0, 2, 0), (12, .istore_n 3, 0, 0), (13, .aload_n 0, 0, 0), (14, .getfield 11, 15, 0), (17, .iload_n 1, 0, 0), (18, .iaload, 0, 0), (19, .istore 4, 0, 0), (21, .aload_n 0, 0, 0), (22, .getfield 18, 18, 0), (25, .iload_n 1, 0, 0), (26, .iaload, 0, 0), (27, .istore 5, 0, 0), (29, .iload 5, 0, 0), (31, .ifCond .le 39, 70, 0), (34, .aload_n 0, 0, 0), (35, .iload 4, 0, 0), (37, .invokevirtual 94, 34, 0), (40, .ifCond .eq 15, 55, 0), (43, .aload_n 0, 0, 0), (44, .getfield 31, 24, 0), (47, .iload 4, 0, 0), (49, .dup2, 0, 0), (50, .laload, 0, 0), (51, .iload_n 3, 0, 0), (52, .i2l, 0, 0), (53, .lsub, 0, 0), (54, .lastore, 0, 0), (55, .aload_n 0, 0, 0), (56, .getfield 43, 31, 0), (59, .iload 4, 0, 0), (61, .iaload, 0, 0), (62, .istore 4, 0, 0), (64, .iinc 5 (-1), 1, 0), (67, .goto (-38), 29, 0), (70, .aload_n 0, 0, 0), (71, .getfield 21, 21, 0), (74, .iload_n 1, 0, 0), (75, .laload, 0, 0), (76, .ldc2_w 52, 2, 0), (79, .lcmp, 0, 0), (80, .ifCond .eq 14, 94, 0), (83, .aload_n 0, 0, 0), (84, .getfield 21, 21, 0), (87, .iload_n 1, 0, 0), (88, .dup2, 0, 0), (89, .laload, 0, 0), (90, .iload_n 3, 0, 0), (91, .i2l, 0, 0), (92, .lsub, 0, 0), (93, .lastore, 0, 0), (94, .return_, 0, 0)]
theorem tk_X3_credit : ∀ e ∈ tb_X3_credit, pm_ck 55 e = true := List.all_eq_true.mp (by decide +kernel)
set_option maxRecDepth 20000 in
set_option maxHeartbeats 40000000 in
theorem ll_X3_credit_29 {d : Nat} (hd : 2 ≤ d) {g0 g1 g2 g3 g4 g6 g7 g8 g9 : List pm_E} {p5 t5 : Value} {q : Nat × Nat × Nat} {z5 : cs_S} (P : cs_S → Prop) (K0 : ∀ e : cs_S, P (e) → e = z5) : ∀ (n : Nat) (s5 : cs_S) (l1 : Int32) (l2 : Int32) (l3 : Int32) (l4 : Int32) (l5 : Int32) (e : cs_S), pm_loop n lb_X3_credit_29 (s5, l1, l2, l3, l4, l5) = some e → P e → pm_Wg 55 d (.inl (none)) (cl_h g0 g1 g2 g3 g4 (ct_e5 p5 t5 z5) g6 g7 g8 g9 q) (29, [some (.ref 321), some (.int l1), some (.int l2), some (.int l3), some (.int l4), some (.int l5)], [], cl_h g0 g1 g2 g3 g4 (ct_e5 p5 t5 s5) g6 g7 g8 g9 q) := by
  intro n
  induction n with
  | zero => intro s5 l1 l2 l3 l4 l5 e H; cases H
  | succ n ih =>
    intro s5 l1 l2 l3 l4 l5 e H hPe
    obtain ⟨d, rfl⟩ : ∃ d', d = d' + 1 := ⟨d - 1, by omega⟩
    have H : pm_lst (pm_loop n lb_X3_credit_29) (lb_X3_credit_29 (s5, l1, l2, l3, l4, l5)) = some e := H
    generalize pm_loop n lb_X3_credit_29 = LB at H ih
    unfold lb_X3_credit_29 at H
    try dsimp only at H
    by_cases h7 : l5 ≤ 0
    · rw [if_pos h7] at H
      cases b8 : pm_inb l1 42 with
      | false => rw [b8] at H; cases H
      | true =>
       rw [b8] at H
       dsimp only at H
       by_cases h9 : (lg_cmp (s5.2.2 5 (Int32.toNatClampNeg l1)) (-1152921504606846976)) = 0
       · rw [if_pos h9] at H
         have He := Option.some.inj H
         subst He
         have J := K0 _ hPe
         subst J
         refine pm_Wg.path (k := 9) (ds := [1, 1]) (f' := (94, [some (.ref 321), some (.int l1), some (.int l2), some (.int l3), some (.int l4), some (.int l5)], [], cl_h g0 g1 g2 g3 g4 (ct_e5 p5 t5 s5) g6 g7 g8 g9 q)) tk_X3_credit (by omega) rfl ⟨h9, pm_inb_vp b8, h7, trivial⟩ ?_
         exact pm_Wg.vret (pm_dec tk_X3_credit rfl) rfl
       · rw [if_neg h9] at H
         have He := Option.some.inj H
         subst He
         have J := K0 _ hPe
         subst J
         refine pm_Wg.path (k := 18) (ds := [1, 0]) (f' := (94, [some (.ref 321), some (.int l1), some (.int l2), some (.int l3), some (.int l4), some (.int l5)], [], cl_h g0 g1 g2 g3 g4 (ct_e5 p5 t5 (cs_l s5 5 l1 ((s5.2.2 5 (Int32.toNatClampNeg l1)) - (Int32.toInt64 l3)))) g6 g7 g8 g9 q)) tk_X3_credit (by omega) rfl ⟨pm_inb_vp b8, pm_inb_vp b8, h9, pm_inb_vp b8, h7, trivial⟩ ?_
         exact pm_Wg.vret (pm_dec tk_X3_credit rfl) rfl
    · rw [if_neg h7] at H
      cases q13 : f_X3_hasTagR s5 l4 with
      | none => rw [q13] at H; cases H
      | some r12 =>
       rw [q13] at H
       dsimp only at H
       refine pm_Wg.path (k := 4) (ds := [0]) (f' := (37, [some (.ref 321), some (.int l1), some (.int l2), some (.int l3), some (.int l4), some (.int l5)], [.int l4, .ref 321], cl_h g0 g1 g2 g3 g4 (ct_e5 p5 t5 s5) g6 g7 g8 g9 q)) tk_X3_credit (by omega) rfl ⟨h7, trivial⟩ ?_
       refine pm_Wg.callV (m' := 50) (ix := 94) (rr := 34) (pl := 559) (b := 321) (As := [.int l4]) (S := []) (by decide) rfl (pm_dec tk_X3_credit rfl) rfl rfl (by decide) rfl rfl (by decide) (Nat.le_of_ble_eq_true rfl) rfl (e_X3_hasTagR (by omega) q13) ?_
       by_cases h14 : r12 = 0
       · rw [if_pos h14] at H
         cases b15 : pm_inb l4 3248 with
         | false => rw [b15] at H; cases H
         | true =>
          rw [b15] at H
          dsimp only at H
          refine pm_Wg.path (k := 8) (ds := [1]) (f' := (29, [some (.ref 321), some (.int l1), some (.int l2), some (.int l3), some (.int (s5.2.1 12 (Int32.toNatClampNeg l4))), some (.int (l5 + (-1)))], [], cl_h g0 g1 g2 g3 g4 (ct_e5 p5 t5 s5) g6 g7 g8 g9 q)) tk_X3_credit (by omega) rfl ⟨pm_inb_vp b15, h14, trivial⟩ ?_
          exact ih _ _ _ _ _ _ e H hPe
       · rw [if_neg h14] at H
         cases b16 : pm_inb l4 3248 with
         | false => rw [b16] at H; cases H
         | true =>
          rw [b16] at H
          dsimp only at H
          refine pm_Wg.path (k := 17) (ds := [0]) (f' := (29, [some (.ref 321), some (.int l1), some (.int l2), some (.int l3), some (.int ((cs_l s5 8 l4 ((s5.2.2 8 (Int32.toNatClampNeg l4)) - (Int32.toInt64 l3))).2.1 12 (Int32.toNatClampNeg l4))), some (.int (l5 + (-1)))], [], cl_h g0 g1 g2 g3 g4 (ct_e5 p5 t5 (cs_l s5 8 l4 ((s5.2.2 8 (Int32.toNatClampNeg l4)) - (Int32.toInt64 l3)))) g6 g7 g8 g9 q)) tk_X3_credit (by omega) rfl ⟨pm_inb_vp b16, pm_inb_vp b16, pm_inb_vp b16, h14, trivial⟩ ?_
          exact ih _ _ _ _ _ _ e H hPe
set_option maxRecDepth 20000 in
set_option maxHeartbeats 20000000 in
theorem e_X3_credit {d : Nat} (hd : 2 ≤ d) {g0 g1 g2 g3 g4 g6 g7 g8 g9 : List pm_E} {p5 t5 : Value} {q : Nat × Nat × Nat} {s5 : cs_S} {a0 : Int32} {a1 : Int32} {z5 : cs_S} (H : f_X3_credit s5 a0 a1 = some z5) : pm_Mt 55 d [.ref 321, .int a0, .int a1] (cl_h g0 g1 g2 g3 g4 (ct_e5 p5 t5 s5) g6 g7 g8 g9 q) (.inl (none)) (cl_h g0 g1 g2 g3 g4 (ct_e5 p5 t5 z5) g6 g7 g8 g9 q) := by
  refine pm_Mt.of (by decide) (by decide +kernel) rfl rfl ?_
  obtain ⟨d, rfl⟩ : ∃ d', d = d' + 1 := ⟨d - 1, by omega⟩
  unfold f_X3_credit at H
  by_cases h1 : a1 ≤ 0
  · rw [if_pos h1] at H
    cases b2 : pm_inb a0 42 with
    | false => rw [b2] at H; cases H
    | true =>
     rw [b2] at H
     dsimp only at H
     refine pm_Wg.path (k := 14) (ds := [1]) (f' := (29, [some (.ref 321), some (.int a0), some (.int a1), some (.int 0), some (.int (s5.2.1 2 (Int32.toNatClampNeg a0))), some (.int (s5.2.1 4 (Int32.toNatClampNeg a0)))], [], cl_h g0 g1 g2 g3 g4 (ct_e5 p5 t5 s5) g6 g7 g8 g9 q)) tk_X3_credit (by omega) rfl ⟨pm_inb_vp b2, pm_inb_vp b2, h1, trivial⟩ ?_
     exact ll_X3_credit_29 (by omega) (fun e => e = z5) (fun e he => he) pm_fu _ _ _ _ _ _ _ H rfl
  · rw [if_neg h1] at H
    by_cases b4 : a1 = 0
    · rw [if_pos b4] at H; cases H
    rw [if_neg b4] at H
    cases b5 : pm_inb a0 42 with
    | false => rw [b5] at H; cases H
    | true =>
     rw [b5] at H
     dsimp only at H
     refine pm_Wg.path (k := 17) (ds := [0]) (f' := (29, [some (.ref 321), some (.int a0), some (.int a1), some (.int (1000000 / a1)), some (.int (s5.2.1 2 (Int32.toNatClampNeg a0))), some (.int (s5.2.1 4 (Int32.toNatClampNeg a0)))], [], cl_h g0 g1 g2 g3 g4 (ct_e5 p5 t5 s5) g6 g7 g8 g9 q)) tk_X3_credit (by omega) rfl ⟨pm_inb_vp b5, pm_inb_vp b5, b4, h1, trivial⟩ ?_
     exact ll_X3_credit_29 (by omega) (fun e => e = z5) (fun e he => he) pm_fu _ _ _ _ _ _ _ H rfl

def f_X3_rank (s5 : cs_S) (a0 : Int32) (a1 : Int32) (a2 : Int32) (a3 : Int32) : Option (Int64) :=
  (if a1 = 0 then
   (match pm_inb a0 3248 with
   | false => none
   | true =>
   (if (s5.2.1 11 (Int32.toNatClampNeg a0)) = (-1) then
    some 1152921504606846976
   else
    (if (a3 + a2) < (s5.2.1 11 (Int32.toNatClampNeg a0)) then
     some 1152921504606846976
    else
     some (Int32.toInt64 (s5.2.1 11 (Int32.toNatClampNeg a0))))))
  else
   (if a1 = 1 then
    (match f_X3_hasTagR s5 a0 with
    | none => none
    | some r11 =>
     (if r11 = 0 then
      some 1152921504606846976
     else
      (match pm_inb a0 3248 with
      | false => none
      | true =>
      (if 0 < (lg_cmp (s5.2.2 8 (Int32.toNatClampNeg a0)) (1000 * (Int32.toInt64 a3))) then
       some 1152921504606846976
      else
       some (s5.2.2 8 (Int32.toNatClampNeg a0))))))
   else
    (match pm_inb a0 3248 with
    | false => none
    | true =>
    (if 0 < (lg_cmp (s5.2.2 10 (Int32.toNatClampNeg a0)) (1000 * (Int32.toInt64 a3))) then
     some 1152921504606846976
    else
     some (s5.2.2 9 (Int32.toNatClampNeg a0))))))
def tb_X3_rank : List pm_I := [(0, .iload_n 2, 0, 0), (1, .ifCond .ne 52, 53, 0), (4, .aload_n 0, 0, 0), (5, .getfield 40, 30, 0), (8, .iload_n 1, 0, 0), (9, .iaload, 0, 0), (10, .iconst (-1), 1, 0), (11, .if_icmp .eq 20, 31, 0), (14, .aload_n 0, 0, 0), (15, .getfield 40, 30, 0), (18, .iload_n 1, 0, 0), (19, .iaload, 0, 0), (20, .iload 4, 0, 0), (22, .iload_n 3, 0, 0), (23, .iadd, 0, 0), (24, .if_icmp .gt 7, 31, 0), (27, .iconst 1, 3, 0), (28, .goto 4, 32, 0), (31, .iconst 0, 2, 0), (32, .istore 5, 0, 0), (34, .iload 5, 0, 0), (36, .ifCond .eq 13, 49, 0), (39, .aload_n 0, 0, 0), (40, .getfield 40, 30, 0), (43, .iload_n 1, 0, 0), (44, .iaload, 0, 0), (45, .i2l, 0, 0), (46, .goto 6, 52, 0), (49, .ldc2_w 98, 0, 0), (52, .lreturn, 0, 0), (53, .iload_n 2, 0, 0), (54, .iconst 1, 3, 0), (55, .if_icmp .ne 41, 96, 0), (58, .aload_n 0, 0, 0), (59, .iload_n 1, 0, 0), (60, .invokevirtual 94, 34, 0), (63, .ifCond .eq 29, 92, 0), (66, .aload_n 0, 0, 0), (67, .getfield 31, 24, 0), (70, .iload_n 1, 0, 0), (71, .laload, 0, 0), (72, .ldc2_w 72, 1, 0), (75, .iload 4, 0, 0), (77, .i2l, 0, 0), (78, .lmul, 0, 0), (79, .lcmp, 0, 0), (80, .ifCond .gt 12, 92, 0), (83, .aload_n 0, 0, 0), (84, .getfield 31, 24, 0), (87, .iload_n 1, 0, 0), (88, .laload, 0, 0), (89, .goto 6, 95, 0), (92, .ldc2_w 98, 0, 0), (95, .lreturn, 0, 0), (96, .aload_n 0, 0, 0), (97, .getfield 37, 28, 0), (100, .iload_n 1, 0, 0), (101, .laload, 0, 0), (102, .ldc2_w 72, 1, 0), (105, .iload 4, 0, 0), (107, .i2l, 0, 0), (108, .lmul, 0, 0), (109, .lcmp, 0, 0), (110, .ifCond .gt 12, 122, 0), (113, .aload_n 0, 0, 0), (114, .getfield 34, 26, 0), (117, .iload_n 1, 0, 0), (118, .laload, 0, 0), (119, .goto 6, 125, 0), (122, .ldc2_w 98, 0, 0), (125, .lreturn, 0, 0)]
theorem tk_X3_rank : ∀ e ∈ tb_X3_rank, pm_ck 56 e = true := List.all_eq_true.mp (by decide +kernel)
set_option maxRecDepth 20000 in
set_option maxHeartbeats 20000000 in
theorem e_X3_rank {d : Nat} (hd : 2 ≤ d) {g0 g1 g2 g3 g4 g6 g7 g8 g9 : List pm_E} {p5 t5 : Value} {q : Nat × Nat × Nat} {s5 : cs_S} {a0 : Int32} {a1 : Int32} {a2 : Int32} {a3 : Int32} {r : Int64} (H : f_X3_rank s5 a0 a1 a2 a3 = some r) : pm_Mt 56 d [.ref 321, .int a0, .int a1, .int a2, .int a3] (cl_h g0 g1 g2 g3 g4 (ct_e5 p5 t5 s5) g6 g7 g8 g9 q) (.inl (some (.long r))) (cl_h g0 g1 g2 g3 g4 (ct_e5 p5 t5 s5) g6 g7 g8 g9 q) := by
  refine pm_Mt.of (by decide) (by decide +kernel) rfl rfl ?_
  obtain ⟨d, rfl⟩ : ∃ d', d = d' + 1 := ⟨d - 1, by omega⟩
  unfold f_X3_rank at H
  by_cases h1 : a1 = 0
  · rw [if_pos h1] at H
    cases b2 : pm_inb a0 3248 with
    | false => rw [b2] at H; cases H
    | true =>
     rw [b2] at H
     dsimp only at H
     by_cases h3 : (s5.2.1 11 (Int32.toNatClampNeg a0)) = (-1)
     · rw [if_pos h3] at H
       have J := Option.some.inj H
       subst J
       refine pm_Wg.path (k := 13) (ds := [0, 1, 1]) (f' := (52, [some (.ref 321), some (.int a0), some (.int a1), some (.int a2), some (.int a3), some (.int 0)], [.long 1152921504606846976], cl_h g0 g1 g2 g3 g4 (ct_e5 p5 t5 s5) g6 g7 g8 g9 q)) tk_X3_rank (by omega) rfl ⟨(by decide), h3, pm_inb_vp b2, h1, trivial⟩ ?_
       exact pm_Wg.lret (pm_dec tk_X3_rank rfl) rfl
     · rw [if_neg h3] at H
       by_cases h5 : (a3 + a2) < (s5.2.1 11 (Int32.toNatClampNeg a0))
       · rw [if_pos h5] at H
         have J := Option.some.inj H
         subst J
         refine pm_Wg.path (k := 21) (ds := [0, 0, 1, 1]) (f' := (52, [some (.ref 321), some (.int a0), some (.int a1), some (.int a2), some (.int a3), some (.int 0)], [.long 1152921504606846976], cl_h g0 g1 g2 g3 g4 (ct_e5 p5 t5 s5) g6 g7 g8 g9 q)) tk_X3_rank (by omega) rfl ⟨(by decide), h5, pm_inb_vp b2, h3, pm_inb_vp b2, h1, trivial⟩ ?_
         exact pm_Wg.lret (pm_dec tk_X3_rank rfl) rfl
       · rw [if_neg h5] at H
         have J := Option.some.inj H
         subst J
         refine pm_Wg.path (k := 27) (ds := [0, 0, 0, 0]) (f' := (52, [some (.ref 321), some (.int a0), some (.int a1), some (.int a2), some (.int a3), some (.int 1)], [.long (Int32.toInt64 (s5.2.1 11 (Int32.toNatClampNeg a0)))], cl_h g0 g1 g2 g3 g4 (ct_e5 p5 t5 s5) g6 g7 g8 g9 q)) tk_X3_rank (by omega) rfl ⟨pm_inb_vp b2, (by decide), h5, pm_inb_vp b2, h3, pm_inb_vp b2, h1, trivial⟩ ?_
         exact pm_Wg.lret (pm_dec tk_X3_rank rfl) rfl
  · rw [if_neg h1] at H
    by_cases h7 : a1 = 1
    · rw [if_pos h7] at H
      cases q12 : f_X3_hasTagR s5 a0 with
      | none => rw [q12] at H; cases H
      | some r11 =>
       rw [q12] at H
       dsimp only at H
       refine pm_Wg.path (k := 7) (ds := [1, 0]) (f' := (60, [some (.ref 321), some (.int a0), some (.int a1), some (.int a2), some (.int a3), none], [.int a0, .ref 321], cl_h g0 g1 g2 g3 g4 (ct_e5 p5 t5 s5) g6 g7 g8 g9 q)) tk_X3_rank (by omega) rfl ⟨h7, h1, trivial⟩ ?_
       refine pm_Wg.callV (m' := 50) (ix := 94) (rr := 34) (pl := 559) (b := 321) (As := [.int a0]) (S := []) (by decide) rfl (pm_dec tk_X3_rank rfl) rfl rfl (by decide) rfl rfl (by decide) (Nat.le_of_ble_eq_true rfl) rfl (e_X3_hasTagR (by omega) q12) ?_
       by_cases h13 : r11 = 0
       · rw [if_pos h13] at H
         have J := Option.some.inj H
         subst J
         refine pm_Wg.path (k := 2) (ds := [1]) (f' := (95, [some (.ref 321), some (.int a0), some (.int a1), some (.int a2), some (.int a3), none], [.long 1152921504606846976], cl_h g0 g1 g2 g3 g4 (ct_e5 p5 t5 s5) g6 g7 g8 g9 q)) tk_X3_rank (by omega) rfl ⟨h13, trivial⟩ ?_
         exact pm_Wg.lret (pm_dec tk_X3_rank rfl) rfl
       · rw [if_neg h13] at H
         cases b14 : pm_inb a0 3248 with
         | false => rw [b14] at H; cases H
         | true =>
          rw [b14] at H
          dsimp only at H
          by_cases h15 : 0 < (lg_cmp (s5.2.2 8 (Int32.toNatClampNeg a0)) (1000 * (Int32.toInt64 a3)))
          · rw [if_pos h15] at H
            have J := Option.some.inj H
            subst J
            refine pm_Wg.path (k := 12) (ds := [0, 1]) (f' := (95, [some (.ref 321), some (.int a0), some (.int a1), some (.int a2), some (.int a3), none], [.long 1152921504606846976], cl_h g0 g1 g2 g3 g4 (ct_e5 p5 t5 s5) g6 g7 g8 g9 q)) tk_X3_rank (by omega) rfl ⟨h15, pm_inb_vp b14, h13, trivial⟩ ?_
            exact pm_Wg.lret (pm_dec tk_X3_rank rfl) rfl
          · rw [if_neg h15] at H
            have J := Option.some.inj H
            subst J
            refine pm_Wg.path (k := 16) (ds := [0, 0]) (f' := (95, [some (.ref 321), some (.int a0), some (.int a1), some (.int a2), some (.int a3), none], [.long (s5.2.2 8 (Int32.toNatClampNeg a0))], cl_h g0 g1 g2 g3 g4 (ct_e5 p5 t5 s5) g6 g7 g8 g9 q)) tk_X3_rank (by omega) rfl ⟨pm_inb_vp b14, h15, pm_inb_vp b14, h13, trivial⟩ ?_
            exact pm_Wg.lret (pm_dec tk_X3_rank rfl) rfl
    · rw [if_neg h7] at H
      cases b8 : pm_inb a0 3248 with
      | false => rw [b8] at H; cases H
      | true =>
       rw [b8] at H
       dsimp only at H
       by_cases h9 : 0 < (lg_cmp (s5.2.2 10 (Int32.toNatClampNeg a0)) (1000 * (Int32.toInt64 a3)))
       · rw [if_pos h9] at H
         have J := Option.some.inj H
         subst J
         refine pm_Wg.path (k := 16) (ds := [1, 1, 1]) (f' := (125, [some (.ref 321), some (.int a0), some (.int a1), some (.int a2), some (.int a3), none], [.long 1152921504606846976], cl_h g0 g1 g2 g3 g4 (ct_e5 p5 t5 s5) g6 g7 g8 g9 q)) tk_X3_rank (by omega) rfl ⟨h9, pm_inb_vp b8, h7, h1, trivial⟩ ?_
         exact pm_Wg.lret (pm_dec tk_X3_rank rfl) rfl
       · rw [if_neg h9] at H
         have J := Option.some.inj H
         subst J
         refine pm_Wg.path (k := 20) (ds := [1, 1, 0]) (f' := (125, [some (.ref 321), some (.int a0), some (.int a1), some (.int a2), some (.int a3), none], [.long (s5.2.2 9 (Int32.toNatClampNeg a0))], cl_h g0 g1 g2 g3 g4 (ct_e5 p5 t5 s5) g6 g7 g8 g9 q)) tk_X3_rank (by omega) rfl ⟨pm_inb_vp b8, h9, pm_inb_vp b8, h7, h1, trivial⟩ ?_
         exact pm_Wg.lret (pm_dec tk_X3_rank rfl) rfl

def lb_X3_bestTenant_11 (s4 : cs_S) (s5 : cs_S) (x : Int32 × Int32 × Int32 × Int32 × Int64 × Int32) : Option ((Int32 × Int32 × Int32 × Int32 × Int64 × Int32) ⊕ (Int32)) := match x with
  | (l1, l2, l4, l5, l6, l8) =>
   (if (s4.1 0 7) ≤ l8 then
    some (.inr l5)
   else
    (match f_X3_numberOf l1 l8 with
    | none => none
    | some r2 =>
     (match pm_inb r2 42 with
     | false => none
     | true =>
     (if (s5.2.1 4 (Int32.toNatClampNeg r2)) = 0 then
      (if 0 ≤ (lg_cmp 1152921504606846976 l6) then
       some (.inl (l1, l2, l4, l5, l6, (l8 + 1)))
      else
       some (.inl (l1, l2, l4, l8, 1152921504606846976, (l8 + 1))))
     else
      (match f_X3_rank s5 (s5.2.1 2 (Int32.toNatClampNeg r2)) l2 (s4.1 0 6) l4 with
      | none => none
      | some r8 =>
       (if 0 ≤ (lg_cmp r8 l6) then
        some (.inl (l1, l2, l4, l5, l6, (l8 + 1)))
       else
        some (.inl (l1, l2, l4, l8, r8, (l8 + 1)))))))))
def f_X3_bestTenant (s4 : cs_S) (s5 : cs_S) (a0 : Int32) (a1 : Int32) (a3 : Int32) : Option (Int32) :=
  (pm_loop pm_fu (lb_X3_bestTenant_11 s4 s5) (a0, a1, a3, (-1), 1152921504606846976, 0))
def tb_X3_bestTenant : List pm_I := [(0, .iconst (-1), 1, 0), (1, .istore 5, 0, 0), (3, .ldc2_w 98, 0, 0), (6, .lstore 6, 0, 0), (8, .iconst 0, 2, 0), (9, .istore 8, 0, 0), (11, .iload 8, 0, 0), (13, .aload_n 3, 0, 0), (14, .getfield 102, 135, 0), (17, .if_icmp .ge 69, 86, 0), (20, .iload_n 1, 0, 0), (21, .iload 8, 0, 0), (23, .invokestatic 106, 30, 0), (26, .istore 9, 0, 0), (28, .aload_n 0, 0, 0), (29, .getfield 18, 18, 0), (32, .iload 9, 0, 0), (34, .iaload, 0, 0), (35, .ifCond .ne 9, 44, 0), (38, .ldc2_w 98, 0, 0), (41, .goto 21, 62, 0), (44, .aload_n 0, 0, 0), (45, .aload_n 0, 0, 0), (46, .getfield 11, 15, 0), (49, .iload 9, 0, 0), (51, .iaload, 0, 0), (52, .iload_n 2, 0, 0), (53, .aload_n 3, 0, 0), (54, .getfield 109, 130, 0), (57, .iload 4, 0, 0), (59, .invokevirtual 112, 83, 0), (62, .lstore 10, 0, 0), (64, .lload 10, 0, 0), (66, .lload 6, 0, 0), (68, .lcmp, 0, 0), (69, .ifCond .ge 11, 80, 0), (72, .iload 8, 0, 0), (74, .istore 5, 0, 0), (76, .lload 10, 0, 0), (78, .lstore 6, 0, 0), (80, .iinc 8 1, 3, 0), (83, .goto (-72), 11, 0), (86, .iload 5, 0, 0), (88, .ireturn, 0, 0)]
theorem tk_X3_bestTenant : ∀ e ∈ tb_X3_bestTenant, pm_ck 57 e = true := List.all_eq_true.mp (by decide +kernel)
set_option maxRecDepth 20000 in
set_option maxHeartbeats 40000000 in
theorem ll_X3_bestTenant_11 {d : Nat} (hd : 3 ≤ d) {g0 g1 g2 g3 g6 g7 g8 g9 : List pm_E} {p5 t5 : Value} {q : Nat × Nat × Nat} {s4 : cs_S} {s5 : cs_S} {r : Int32} (P : Int32 → Prop) (K0 : ∀ e : Int32, P (e) → e = r) : ∀ (n : Nat) (l1 : Int32) (l2 : Int32) (l4 : Int32) (l5 : Int32) (l6 : Int64) (l8 : Int32) (e : Int32), pm_loop n (lb_X3_bestTenant_11 s4 s5) (l1, l2, l4, l5, l6, l8) = some e → P e → pm_Wg 57 d (.inl (some (.int r))) (cl_h g0 g1 g2 g3 (ct_p4 s4) (ct_e5 p5 t5 s5) g6 g7 g8 g9 q) (11, [some (.ref 321), some (.int l1), some (.int l2), some (.ref 256), some (.int l4), some (.int l5), some (.long l6), none, some (.int l8), none, none, none], [], cl_h g0 g1 g2 g3 (ct_p4 s4) (ct_e5 p5 t5 s5) g6 g7 g8 g9 q) := by
  intro n
  induction n with
  | zero => intro l1 l2 l4 l5 l6 l8 e H; cases H
  | succ n ih =>
    intro l1 l2 l4 l5 l6 l8 e H hPe
    obtain ⟨d, rfl⟩ : ∃ d', d = d' + 1 := ⟨d - 1, by omega⟩
    have H : pm_lst (pm_loop n (lb_X3_bestTenant_11 s4 s5)) (lb_X3_bestTenant_11 s4 s5 (l1, l2, l4, l5, l6, l8)) = some e := H
    generalize pm_loop n (lb_X3_bestTenant_11 s4 s5) = LB at H ih
    unfold lb_X3_bestTenant_11 at H
    try dsimp only at H
    by_cases h1 : (s4.1 0 7) ≤ l8
    · rw [if_pos h1] at H
      have He := Option.some.inj H
      subst He
      have J := K0 _ hPe
      subst J
      refine pm_Wg.path (k := 5) (ds := [1]) (f' := (88, [some (.ref 321), some (.int l1), some (.int l2), some (.ref 256), some (.int l4), some (.int l5), some (.long l6), none, some (.int l8), none, none, none], [.int l5], cl_h g0 g1 g2 g3 (ct_p4 s4) (ct_e5 p5 t5 s5) g6 g7 g8 g9 q)) tk_X3_bestTenant (by omega) rfl ⟨h1, trivial⟩ ?_
      exact pm_Wg.iret (pm_dec tk_X3_bestTenant rfl) rfl rfl
    · rw [if_neg h1] at H
      cases q3 : f_X3_numberOf l1 l8 with
      | none => rw [q3] at H; cases H
      | some r2 =>
       rw [q3] at H
       dsimp only at H
       refine pm_Wg.path (k := 6) (ds := [0]) (f' := (23, [some (.ref 321), some (.int l1), some (.int l2), some (.ref 256), some (.int l4), some (.int l5), some (.long l6), none, some (.int l8), none, none, none], [.int l8, .int l1], cl_h g0 g1 g2 g3 (ct_p4 s4) (ct_e5 p5 t5 s5) g6 g7 g8 g9 q)) tk_X3_bestTenant (by omega) rfl ⟨h1, trivial⟩ ?_
       refine pm_Wg.callS (m' := 42) (ix := 106) (rr := 30) (pl := 545) (As := [.int l1, .int l8]) (S := []) (by decide) rfl (pm_dec tk_X3_bestTenant rfl) rfl rfl rfl (Nat.le_of_ble_eq_true rfl) rfl (e_X3_numberOf (by omega) q3) ?_
       cases b4 : pm_inb r2 42 with
       | false => rw [b4] at H; cases H
       | true =>
        rw [b4] at H
        dsimp only at H
        by_cases h5 : (s5.2.1 4 (Int32.toNatClampNeg r2)) = 0
        · rw [if_pos h5] at H
          by_cases h6 : 0 ≤ (lg_cmp 1152921504606846976 l6)
          · rw [if_pos h6] at H
            refine pm_Wg.path (k := 15) (ds := [0, 1]) (f' := (11, [some (.ref 321), some (.int l1), some (.int l2), some (.ref 256), some (.int l4), some (.int l5), some (.long l6), none, some (.int (l8 + 1)), some (.int r2), some (.long 1152921504606846976), none], [], cl_h g0 g1 g2 g3 (ct_p4 s4) (ct_e5 p5 t5 s5) g6 g7 g8 g9 q)) tk_X3_bestTenant (by omega) rfl ⟨h6, h5, pm_inb_vp b4, trivial⟩ ?_
            refine pm_Wg.weak (L := [some (.ref 321), some (.int l1), some (.int l2), some (.ref 256), some (.int l4), some (.int l5), some (.long l6), none, some (.int (l8 + 1)), none, none, none]) rfl ⟨rfl, rfl, rfl, rfl, rfl, rfl, rfl, rfl, trivial⟩ ?_
            exact ih _ _ _ _ _ _ e H hPe
          · rw [if_neg h6] at H
            refine pm_Wg.path (k := 19) (ds := [0, 0]) (f' := (11, [some (.ref 321), some (.int l1), some (.int l2), some (.ref 256), some (.int l4), some (.int l8), some (.long 1152921504606846976), none, some (.int (l8 + 1)), some (.int r2), some (.long 1152921504606846976), none], [], cl_h g0 g1 g2 g3 (ct_p4 s4) (ct_e5 p5 t5 s5) g6 g7 g8 g9 q)) tk_X3_bestTenant (by omega) rfl ⟨h6, h5, pm_inb_vp b4, trivial⟩ ?_
            refine pm_Wg.weak (L := [some (.ref 321), some (.int l1), some (.int l2), some (.ref 256), some (.int l4), some (.int l8), some (.long 1152921504606846976), none, some (.int (l8 + 1)), none, none, none]) rfl ⟨rfl, rfl, rfl, rfl, rfl, rfl, rfl, rfl, trivial⟩ ?_
            exact ih _ _ _ _ _ _ e H hPe
        · rw [if_neg h5] at H
          cases q9 : f_X3_rank s5 (s5.2.1 2 (Int32.toNatClampNeg r2)) l2 (s4.1 0 6) l4 with
          | none => rw [q9] at H; cases H
          | some r8 =>
           rw [q9] at H
           dsimp only at H
           refine pm_Wg.path (k := 15) (ds := [1]) (f' := (59, [some (.ref 321), some (.int l1), some (.int l2), some (.ref 256), some (.int l4), some (.int l5), some (.long l6), none, some (.int l8), some (.int r2), none, none], [.int l4, .int (s4.1 0 6), .int l2, .int (s5.2.1 2 (Int32.toNatClampNeg r2)), .ref 321], cl_h g0 g1 g2 g3 (ct_p4 s4) (ct_e5 p5 t5 s5) g6 g7 g8 g9 q)) tk_X3_bestTenant (by omega) rfl ⟨pm_inb_vp b4, h5, pm_inb_vp b4, trivial⟩ ?_
           refine pm_Wg.callV (m' := 56) (ix := 112) (rr := 83) (pl := 726) (b := 321) (As := [.int (s5.2.1 2 (Int32.toNatClampNeg r2)), .int l2, .int (s4.1 0 6), .int l4]) (S := []) (by decide) rfl (pm_dec tk_X3_bestTenant rfl) rfl rfl (by decide) rfl rfl (by decide) (Nat.le_of_ble_eq_true rfl) rfl (e_X3_rank (by omega) q9) ?_
           by_cases h10 : 0 ≤ (lg_cmp r8 l6)
           · rw [if_pos h10] at H
             refine pm_Wg.path (k := 7) (ds := [1]) (f' := (11, [some (.ref 321), some (.int l1), some (.int l2), some (.ref 256), some (.int l4), some (.int l5), some (.long l6), none, some (.int (l8 + 1)), some (.int r2), some (.long r8), none], [], cl_h g0 g1 g2 g3 (ct_p4 s4) (ct_e5 p5 t5 s5) g6 g7 g8 g9 q)) tk_X3_bestTenant (by omega) rfl ⟨h10, trivial⟩ ?_
             refine pm_Wg.weak (L := [some (.ref 321), some (.int l1), some (.int l2), some (.ref 256), some (.int l4), some (.int l5), some (.long l6), none, some (.int (l8 + 1)), none, none, none]) rfl ⟨rfl, rfl, rfl, rfl, rfl, rfl, rfl, rfl, trivial⟩ ?_
             exact ih _ _ _ _ _ _ e H hPe
           · rw [if_neg h10] at H
             refine pm_Wg.path (k := 11) (ds := [0]) (f' := (11, [some (.ref 321), some (.int l1), some (.int l2), some (.ref 256), some (.int l4), some (.int l8), some (.long r8), none, some (.int (l8 + 1)), some (.int r2), some (.long r8), none], [], cl_h g0 g1 g2 g3 (ct_p4 s4) (ct_e5 p5 t5 s5) g6 g7 g8 g9 q)) tk_X3_bestTenant (by omega) rfl ⟨h10, trivial⟩ ?_
             refine pm_Wg.weak (L := [some (.ref 321), some (.int l1), some (.int l2), some (.ref 256), some (.int l4), some (.int l8), some (.long r8), none, some (.int (l8 + 1)), none, none, none]) rfl ⟨rfl, rfl, rfl, rfl, rfl, rfl, rfl, rfl, trivial⟩ ?_
             exact ih _ _ _ _ _ _ e H hPe
set_option maxRecDepth 20000 in
set_option maxHeartbeats 20000000 in
theorem e_X3_bestTenant {d : Nat} (hd : 3 ≤ d) {g0 g1 g2 g3 g6 g7 g8 g9 : List pm_E} {p5 t5 : Value} {q : Nat × Nat × Nat} {s4 : cs_S} {s5 : cs_S} {a0 : Int32} {a1 : Int32} {a3 : Int32} {r : Int32} (H : f_X3_bestTenant s4 s5 a0 a1 a3 = some r) : pm_Mt 57 d [.ref 321, .int a0, .int a1, .ref 256, .int a3] (cl_h g0 g1 g2 g3 (ct_p4 s4) (ct_e5 p5 t5 s5) g6 g7 g8 g9 q) (.inl (some (.int r))) (cl_h g0 g1 g2 g3 (ct_p4 s4) (ct_e5 p5 t5 s5) g6 g7 g8 g9 q) := by
  refine pm_Mt.of (by decide) (by decide +kernel) rfl rfl ?_
  obtain ⟨d, rfl⟩ : ∃ d', d = d' + 1 := ⟨d - 1, by omega⟩
  unfold f_X3_bestTenant at H
  refine pm_Wg.path (k := 6) (ds := []) (f' := (11, [some (.ref 321), some (.int a0), some (.int a1), some (.ref 256), some (.int a3), some (.int (-1)), some (.long 1152921504606846976), none, some (.int 0), none, none, none], [], cl_h g0 g1 g2 g3 (ct_p4 s4) (ct_e5 p5 t5 s5) g6 g7 g8 g9 q)) tk_X3_bestTenant (by omega) rfl trivial ?_
  exact ll_X3_bestTenant_11 (by omega) (fun e => e = r) (fun e he => he) pm_fu _ _ _ _ _ _ _ H rfl

def fc_X4_clear_c9 (s5 : cs_S) (k0 : Int32) : Option (cs_S) :=
  some (cs_i s5 31 10 k0)
def fc_X4_clear_c8 (s5 : cs_S) (k0 : Int32) : Option (cs_S) :=
  (fc_X4_clear_c9 (cs_i s5 31 9 k0) 0)
def fc_X4_clear_c7 (s5 : cs_S) (k0 : Int32) : Option (cs_S) :=
  (fc_X4_clear_c8 (cs_i s5 31 8 k0) (-1))
def fc_X4_clear_c6 (s5 : cs_S) (k0 : Int32) : Option (cs_S) :=
  (fc_X4_clear_c7 (cs_i s5 31 7 k0) 0)
def fc_X4_clear_c5 (s5 : cs_S) (k0 : Int32) : Option (cs_S) :=
  (fc_X4_clear_c6 (cs_i s5 31 6 k0) 0)
def fc_X4_clear_c4 (s5 : cs_S) (k0 : Int32) : Option (cs_S) :=
  (fc_X4_clear_c5 (cs_i s5 31 5 k0) (-1))
def fc_X4_clear_c3 (s5 : cs_S) (k0 : Int32) : Option (cs_S) :=
  (fc_X4_clear_c4 (cs_i s5 31 4 k0) 0)
def fc_X4_clear_c2 (s5 : cs_S) : Option (cs_S) :=
  (fc_X4_clear_c3 (cs_i s5 31 3 0) 0)
def fc_X4_clear_c1 (s5 : cs_S) : Option (cs_S) :=
  (fc_X4_clear_c2 (cs_c s5 33 (cs_fi (s5.2.1 33) 64 0)))
def f_X4_clear (s5 : cs_S) : Option (cs_S) :=
  (fc_X4_clear_c1 (cs_c (cs_i s5 31 0 (-1)) 32 (cs_fi ((cs_i s5 31 0 (-1)).2.1 32) 64 0)))
def tb_X4_clear : List pm_I := [(0, .aload_n 0, 0, 0), (1, .iconst (-1), 1, 0), (2, .putfield 9, 70, 0), (5, .aload_n 0, 0, 0), (6, .getfield 15, 73, 0), (9, .iconst 0, 2, 0), (10, .invokestatic 46, 136, 0), (13, .aload_n 0, 0, 0), (14, .getfield 19, 76, 0), (17, .iconst 0, 2, 0), (18, .invokestatic 46, 136, 0), (21, .aload_n 0, 0, 0), (22, .iconst 0, 2, 0), (23, .putfield 22, 77, 0), (26, .aload_n 0, 0, 0), (27, .iconst 0, 2, 0), (28, .putfield 25, 79, 0), (31, .aload_n 0, 0, 0), (32, .iconst 0, 2, 0), (33, .putfield 28, 82, 0), (36, .aload_n 0, 0, 0), (37, .iconst (-1), 1, 0), (38, .putfield 31, 84, 0), (41, .aload_n 0, 0, 0), (42, .iconst 0, 2, 0), (43, .putfield 34, 87, 0), (46, .aload_n 0, 0, 0), (47, .iconst 0, 2, 0), (48, .putfield 37, 90, 0), (51, .aload_n 0, 0, 0), (52, .iconst (-1), 1, 0), (53, .putfield 40, 93, 0), (56, .aload_n 0, 0, 0), (57, .iconst 0, 2, 0), (58, .putfield 43, 95, 0), (61, .return_, 0, 0)]
theorem tk_X4_clear : ∀ e ∈ tb_X4_clear, pm_ck 62 e = true := List.all_eq_true.mp (by decide +kernel)
set_option maxRecDepth 20000 in
set_option maxHeartbeats 20000000 in
theorem ec_X4_clear_c9 {d : Nat} (hd : 2 ≤ d) {g0 g1 g2 g3 g4 g6 g7 g8 g9 : List pm_E} {p5 t5 : Value} {q : Nat × Nat × Nat} {s5 : cs_S} {k0 : Int32} {z5 : cs_S} (H : fc_X4_clear_c9 s5 k0 = some z5) : pm_Wg 62 d (.inl (none)) (cl_h g0 g1 g2 g3 g4 (ct_e5 p5 t5 z5) g6 g7 g8 g9 q) (58, [some (.ref 351)], [.int k0, .ref 351], cl_h g0 g1 g2 g3 g4 (ct_e5 p5 t5 s5) g6 g7 g8 g9 q) := by
  obtain ⟨d, rfl⟩ : ∃ d', d = d' + 1 := ⟨d - 1, by omega⟩
  unfold fc_X4_clear_c9 at H
  try dsimp only at H
  have J := Option.some.inj H
  subst J
  refine pm_Wg.path (k := 1) (ds := []) (f' := (61, [some (.ref 351)], [], cl_h g0 g1 g2 g3 g4 (ct_e5 p5 t5 (cs_i s5 31 10 k0)) g6 g7 g8 g9 q)) tk_X4_clear (by omega) rfl trivial ?_
  exact pm_Wg.vret (pm_dec tk_X4_clear rfl) rfl
set_option maxRecDepth 20000 in
set_option maxHeartbeats 20000000 in
theorem ec_X4_clear_c8 {d : Nat} (hd : 2 ≤ d) {g0 g1 g2 g3 g4 g6 g7 g8 g9 : List pm_E} {p5 t5 : Value} {q : Nat × Nat × Nat} {s5 : cs_S} {k0 : Int32} {z5 : cs_S} (H : fc_X4_clear_c8 s5 k0 = some z5) : pm_Wg 62 d (.inl (none)) (cl_h g0 g1 g2 g3 g4 (ct_e5 p5 t5 z5) g6 g7 g8 g9 q) (53, [some (.ref 351)], [.int k0, .ref 351], cl_h g0 g1 g2 g3 g4 (ct_e5 p5 t5 s5) g6 g7 g8 g9 q) := by
  obtain ⟨d, rfl⟩ : ∃ d', d = d' + 1 := ⟨d - 1, by omega⟩
  unfold fc_X4_clear_c8 at H
  try dsimp only at H
  refine pm_Wg.path (k := 3) (ds := []) (f' := (58, [some (.ref 351)], [.int 0, .ref 351], cl_h g0 g1 g2 g3 g4 (ct_e5 p5 t5 (cs_i s5 31 9 k0)) g6 g7 g8 g9 q)) tk_X4_clear (by omega) rfl trivial ?_
  exact ec_X4_clear_c9 (by omega) H
set_option maxRecDepth 20000 in
set_option maxHeartbeats 20000000 in
theorem ec_X4_clear_c7 {d : Nat} (hd : 2 ≤ d) {g0 g1 g2 g3 g4 g6 g7 g8 g9 : List pm_E} {p5 t5 : Value} {q : Nat × Nat × Nat} {s5 : cs_S} {k0 : Int32} {z5 : cs_S} (H : fc_X4_clear_c7 s5 k0 = some z5) : pm_Wg 62 d (.inl (none)) (cl_h g0 g1 g2 g3 g4 (ct_e5 p5 t5 z5) g6 g7 g8 g9 q) (48, [some (.ref 351)], [.int k0, .ref 351], cl_h g0 g1 g2 g3 g4 (ct_e5 p5 t5 s5) g6 g7 g8 g9 q) := by
  obtain ⟨d, rfl⟩ : ∃ d', d = d' + 1 := ⟨d - 1, by omega⟩
  unfold fc_X4_clear_c7 at H
  try dsimp only at H
  refine pm_Wg.path (k := 3) (ds := []) (f' := (53, [some (.ref 351)], [.int (-1), .ref 351], cl_h g0 g1 g2 g3 g4 (ct_e5 p5 t5 (cs_i s5 31 8 k0)) g6 g7 g8 g9 q)) tk_X4_clear (by omega) rfl trivial ?_
  exact ec_X4_clear_c8 (by omega) H
set_option maxRecDepth 20000 in
set_option maxHeartbeats 20000000 in
theorem ec_X4_clear_c6 {d : Nat} (hd : 2 ≤ d) {g0 g1 g2 g3 g4 g6 g7 g8 g9 : List pm_E} {p5 t5 : Value} {q : Nat × Nat × Nat} {s5 : cs_S} {k0 : Int32} {z5 : cs_S} (H : fc_X4_clear_c6 s5 k0 = some z5) : pm_Wg 62 d (.inl (none)) (cl_h g0 g1 g2 g3 g4 (ct_e5 p5 t5 z5) g6 g7 g8 g9 q) (43, [some (.ref 351)], [.int k0, .ref 351], cl_h g0 g1 g2 g3 g4 (ct_e5 p5 t5 s5) g6 g7 g8 g9 q) := by
  obtain ⟨d, rfl⟩ : ∃ d', d = d' + 1 := ⟨d - 1, by omega⟩
  unfold fc_X4_clear_c6 at H
  try dsimp only at H
  refine pm_Wg.path (k := 3) (ds := []) (f' := (48, [some (.ref 351)], [.int 0, .ref 351], cl_h g0 g1 g2 g3 g4 (ct_e5 p5 t5 (cs_i s5 31 7 k0)) g6 g7 g8 g9 q)) tk_X4_clear (by omega) rfl trivial ?_
  exact ec_X4_clear_c7 (by omega) H
set_option maxRecDepth 20000 in
set_option maxHeartbeats 20000000 in
theorem ec_X4_clear_c5 {d : Nat} (hd : 2 ≤ d) {g0 g1 g2 g3 g4 g6 g7 g8 g9 : List pm_E} {p5 t5 : Value} {q : Nat × Nat × Nat} {s5 : cs_S} {k0 : Int32} {z5 : cs_S} (H : fc_X4_clear_c5 s5 k0 = some z5) : pm_Wg 62 d (.inl (none)) (cl_h g0 g1 g2 g3 g4 (ct_e5 p5 t5 z5) g6 g7 g8 g9 q) (38, [some (.ref 351)], [.int k0, .ref 351], cl_h g0 g1 g2 g3 g4 (ct_e5 p5 t5 s5) g6 g7 g8 g9 q) := by
  obtain ⟨d, rfl⟩ : ∃ d', d = d' + 1 := ⟨d - 1, by omega⟩
  unfold fc_X4_clear_c5 at H
  try dsimp only at H
  refine pm_Wg.path (k := 3) (ds := []) (f' := (43, [some (.ref 351)], [.int 0, .ref 351], cl_h g0 g1 g2 g3 g4 (ct_e5 p5 t5 (cs_i s5 31 6 k0)) g6 g7 g8 g9 q)) tk_X4_clear (by omega) rfl trivial ?_
  exact ec_X4_clear_c6 (by omega) H
set_option maxRecDepth 20000 in
set_option maxHeartbeats 20000000 in
theorem ec_X4_clear_c4 {d : Nat} (hd : 2 ≤ d) {g0 g1 g2 g3 g4 g6 g7 g8 g9 : List pm_E} {p5 t5 : Value} {q : Nat × Nat × Nat} {s5 : cs_S} {k0 : Int32} {z5 : cs_S} (H : fc_X4_clear_c4 s5 k0 = some z5) : pm_Wg 62 d (.inl (none)) (cl_h g0 g1 g2 g3 g4 (ct_e5 p5 t5 z5) g6 g7 g8 g9 q) (33, [some (.ref 351)], [.int k0, .ref 351], cl_h g0 g1 g2 g3 g4 (ct_e5 p5 t5 s5) g6 g7 g8 g9 q) := by
  obtain ⟨d, rfl⟩ : ∃ d', d = d' + 1 := ⟨d - 1, by omega⟩
  unfold fc_X4_clear_c4 at H
  try dsimp only at H
  refine pm_Wg.path (k := 3) (ds := []) (f' := (38, [some (.ref 351)], [.int (-1), .ref 351], cl_h g0 g1 g2 g3 g4 (ct_e5 p5 t5 (cs_i s5 31 5 k0)) g6 g7 g8 g9 q)) tk_X4_clear (by omega) rfl trivial ?_
  exact ec_X4_clear_c5 (by omega) H
set_option maxRecDepth 20000 in
set_option maxHeartbeats 20000000 in
theorem ec_X4_clear_c3 {d : Nat} (hd : 2 ≤ d) {g0 g1 g2 g3 g4 g6 g7 g8 g9 : List pm_E} {p5 t5 : Value} {q : Nat × Nat × Nat} {s5 : cs_S} {k0 : Int32} {z5 : cs_S} (H : fc_X4_clear_c3 s5 k0 = some z5) : pm_Wg 62 d (.inl (none)) (cl_h g0 g1 g2 g3 g4 (ct_e5 p5 t5 z5) g6 g7 g8 g9 q) (28, [some (.ref 351)], [.int k0, .ref 351], cl_h g0 g1 g2 g3 g4 (ct_e5 p5 t5 s5) g6 g7 g8 g9 q) := by
  obtain ⟨d, rfl⟩ : ∃ d', d = d' + 1 := ⟨d - 1, by omega⟩
  unfold fc_X4_clear_c3 at H
  try dsimp only at H
  refine pm_Wg.path (k := 3) (ds := []) (f' := (33, [some (.ref 351)], [.int 0, .ref 351], cl_h g0 g1 g2 g3 g4 (ct_e5 p5 t5 (cs_i s5 31 4 k0)) g6 g7 g8 g9 q)) tk_X4_clear (by omega) rfl trivial ?_
  exact ec_X4_clear_c4 (by omega) H
set_option maxRecDepth 20000 in
set_option maxHeartbeats 20000000 in
theorem ec_X4_clear_c2 {d : Nat} (hd : 2 ≤ d) {g0 g1 g2 g3 g4 g6 g7 g8 g9 : List pm_E} {p5 t5 : Value} {q : Nat × Nat × Nat} {s5 : cs_S} {z5 : cs_S} (H : fc_X4_clear_c2 s5 = some z5) : pm_Wg 62 d (.inl (none)) (cl_h g0 g1 g2 g3 g4 (ct_e5 p5 t5 z5) g6 g7 g8 g9 q) (21, [some (.ref 351)], [], cl_h g0 g1 g2 g3 g4 (ct_e5 p5 t5 s5) g6 g7 g8 g9 q) := by
  obtain ⟨d, rfl⟩ : ∃ d', d = d' + 1 := ⟨d - 1, by omega⟩
  unfold fc_X4_clear_c2 at H
  try dsimp only at H
  refine pm_Wg.path (k := 5) (ds := []) (f' := (28, [some (.ref 351)], [.int 0, .ref 351], cl_h g0 g1 g2 g3 g4 (ct_e5 p5 t5 (cs_i s5 31 3 0)) g6 g7 g8 g9 q)) tk_X4_clear (by omega) rfl trivial ?_
  exact ec_X4_clear_c3 (by omega) H
set_option maxRecDepth 20000 in
set_option maxHeartbeats 20000000 in
theorem ec_X4_clear_c1 {d : Nat} (hd : 2 ≤ d) {g0 g1 g2 g3 g4 g6 g7 g8 g9 : List pm_E} {p5 t5 : Value} {q : Nat × Nat × Nat} {s5 : cs_S} {z5 : cs_S} (H : fc_X4_clear_c1 s5 = some z5) : pm_Wg 62 d (.inl (none)) (cl_h g0 g1 g2 g3 g4 (ct_e5 p5 t5 z5) g6 g7 g8 g9 q) (13, [some (.ref 351)], [], cl_h g0 g1 g2 g3 g4 (ct_e5 p5 t5 s5) g6 g7 g8 g9 q) := by
  obtain ⟨d, rfl⟩ : ∃ d', d = d' + 1 := ⟨d - 1, by omega⟩
  unfold fc_X4_clear_c1 at H
  try dsimp only at H
  refine pm_Wg.path (k := 3) (ds := []) (f' := (18, [some (.ref 351)], [.int 0, .ref 353], cl_h g0 g1 g2 g3 g4 (ct_e5 p5 t5 s5) g6 g7 g8 g9 q)) tk_X4_clear (by omega) rfl trivial ?_
  refine pm_Wg.callS (m' := 307) (ix := 46) (rr := 136) (pl := 1099) (As := [.ref 353, .int 0]) (S := []) (h1 := cl_h g0 g1 g2 g3 g4 (ct_e5 p5 t5 (cs_c s5 33 (cs_fi (s5.2.1 33) 64 0))) g6 g7 g8 g9 q) (by decide) rfl (pm_dec tk_X4_clear rfl) rfl rfl rfl (Nat.le_of_ble_eq_true rfl) rfl (e_fillI (by omega) (b := 353) (n := 64) (f := s5.2.1 33) (by decide) rfl rfl) ?_
  exact ec_X4_clear_c2 (by omega) H
set_option maxRecDepth 20000 in
set_option maxHeartbeats 20000000 in
theorem e_X4_clear {d : Nat} (hd : 2 ≤ d) {g0 g1 g2 g3 g4 g6 g7 g8 g9 : List pm_E} {p5 t5 : Value} {q : Nat × Nat × Nat} {s5 : cs_S} {z5 : cs_S} (H : f_X4_clear s5 = some z5) : pm_Mt 62 d [.ref 351] (cl_h g0 g1 g2 g3 g4 (ct_e5 p5 t5 s5) g6 g7 g8 g9 q) (.inl (none)) (cl_h g0 g1 g2 g3 g4 (ct_e5 p5 t5 z5) g6 g7 g8 g9 q) := by
  refine pm_Mt.of (by decide) (by decide +kernel) rfl rfl ?_
  obtain ⟨d, rfl⟩ : ∃ d', d = d' + 1 := ⟨d - 1, by omega⟩
  unfold f_X4_clear at H
  refine pm_Wg.path (k := 6) (ds := []) (f' := (10, [some (.ref 351)], [.int 0, .ref 352], cl_h g0 g1 g2 g3 g4 (ct_e5 p5 t5 (cs_i s5 31 0 (-1))) g6 g7 g8 g9 q)) tk_X4_clear (by omega) rfl trivial ?_
  refine pm_Wg.callS (m' := 307) (ix := 46) (rr := 136) (pl := 1099) (As := [.ref 352, .int 0]) (S := []) (h1 := cl_h g0 g1 g2 g3 g4 (ct_e5 p5 t5 (cs_c (cs_i s5 31 0 (-1)) 32 (cs_fi ((cs_i s5 31 0 (-1)).2.1 32) 64 0))) g6 g7 g8 g9 q) (by decide) rfl (pm_dec tk_X4_clear rfl) rfl rfl rfl (Nat.le_of_ble_eq_true rfl) rfl (e_fillI (by omega) (b := 352) (n := 64) (f := (cs_i s5 31 0 (-1)).2.1 32) (by decide) rfl rfl) ?_
  exact ec_X4_clear_c1 (by omega) H

def fc_X4_copyFrom_c10 (s5 : cs_S) (s7 : cs_S) (k0 : Int32) : Option (cs_S) :=
  some (cs_i s7 31 10 k0)
def fc_X4_copyFrom_c9 (s5 : cs_S) (s7 : cs_S) (k0 : Int32) : Option (cs_S) :=
  (fc_X4_copyFrom_c10 s5 (cs_i s7 31 9 k0) (s5.1 31 10))
def fc_X4_copyFrom_c8 (s5 : cs_S) (s7 : cs_S) (k0 : Int32) : Option (cs_S) :=
  (fc_X4_copyFrom_c9 s5 (cs_i s7 31 8 k0) (s5.1 31 9))
def fc_X4_copyFrom_c7 (s5 : cs_S) (s7 : cs_S) (k0 : Int32) : Option (cs_S) :=
  (fc_X4_copyFrom_c8 s5 (cs_i s7 31 7 k0) (s5.1 31 8))
def fc_X4_copyFrom_c6 (s5 : cs_S) (s7 : cs_S) (k0 : Int32) : Option (cs_S) :=
  (fc_X4_copyFrom_c7 s5 (cs_i s7 31 6 k0) (s5.1 31 7))
def fc_X4_copyFrom_c5 (s5 : cs_S) (s7 : cs_S) (k0 : Int32) : Option (cs_S) :=
  (fc_X4_copyFrom_c6 s5 (cs_i s7 31 5 k0) (s5.1 31 6))
def fc_X4_copyFrom_c4 (s5 : cs_S) (s7 : cs_S) (k0 : Int32) : Option (cs_S) :=
  (fc_X4_copyFrom_c5 s5 (cs_i s7 31 4 k0) (s5.1 31 5))
def fc_X4_copyFrom_c3 (s5 : cs_S) (s7 : cs_S) (k0 : Int32) : Option (cs_S) :=
  (fc_X4_copyFrom_c4 s5 (cs_i s7 31 3 k0) (s5.1 31 4))
def fc_X4_copyFrom_c2 (s5 : cs_S) (s7 : cs_S) (k0 : Int32) (k1 : Int32) (k3 : Int32) : Option (cs_S) :=
  (match pm_cpo k3 k1 k0 64 64 with
  | false => none
  | true =>
  (fc_X4_copyFrom_c3 s5 (cs_c s7 33 (va_cpy (s5.2.1 33) (s7.2.1 33) (Int32.toNatClampNeg k3) (Int32.toNatClampNeg k1) (Int32.toNatClampNeg k0))) (s5.1 31 3)))
def fc_X4_copyFrom_c1 (s5 : cs_S) (s7 : cs_S) (k0 : Int32) (k1 : Int32) (k3 : Int32) : Option (cs_S) :=
  (match pm_cpo k3 k1 k0 64 64 with
  | false => none
  | true =>
  (fc_X4_copyFrom_c2 s5 (cs_c s7 32 (va_cpy (s5.2.1 32) (s7.2.1 32) (Int32.toNatClampNeg k3) (Int32.toNatClampNeg k1) (Int32.toNatClampNeg k0))) 64 0 0))
def f_X4_copyFrom (s5 : cs_S) (s7 : cs_S) : Option (cs_S) :=
  (fc_X4_copyFrom_c1 s5 (cs_i s7 31 0 (s5.1 31 0)) 64 0 0)
def tb_X4_copyFrom : List pm_I := [(0, .aload_n 0, 0, 0), (1, .aload_n 1, 0, 0), (2, .getfield 9, 70, 0), (5, .putfield 9, 70, 0), (8, .aload_n 1, 0, 0), (9, .getfield 15, 73, 0), (12, .iconst 0, 2, 0), (13, .aload_n 0, 0, 0), (14, .getfield 15, 73, 0), (17, .iconst 0, 2, 0), (18, .bipush 64, 26, 0), (20, .invokestatic 52, 3, 1), (23, .aload_n 1, 0, 0), (24, .getfield 19, 76, 0), (27, .iconst 0, 2, 0), (28, .aload_n 0, 0, 0), (29, .getfield 19, 76, 0), (32, .iconst 0, 2, 0), (33, .bipush 64, 26, 0), (35, .invokestatic 52, 3, 1), (38, .aload_n 0, 0, 0), (39, .aload_n 1, 0, 0), (40, .getfield 22, 77, 0), (43, .putfield 22, 77, 0), (46, .aload_n 0, 0, 0), (47, .aload_n 1, 0, 0), (48, .getfield 25, 79, 0), (51, .putfield 25, 79, 0), (54, .aload_n 0, 0, 0), (55, .aload_n 1, 0, 0), (56, .getfield 28, 82, 0), (59, .putfield 28, 82, 0), (62, .aload_n 0, 0, 0), (63, .aload_n 1, 0, 0), (64, .getfield 31, 84, 0), (67, .putfield 31, 84, 0), (70, .aload_n 0, 0, 0), (71, .aload_n 1, 0, 0), (72, .getfield 34, 87, 0), (75, .putfield 34, 87, 0), (78, .aload_n 0, 0, 0), (79, .aload_n 1, 0, 0), (80, .getfield 37, 90, 0), (83, .putfield 37, 90, 0), (86, .aload_n 0, 0, 0), (87, .aload_n 1, 0, 0), (88, .getfield 40, 93, 0), (91, .putfield 40, 93, 0), (94, .aload_n 0, 0, 0), (95, .aload_n 1, 0, 0), (96, .getfield 43, 95, 0), (99, .putfield 43, 95, 0), (102, .return_, 0, 0)]
theorem tk_X4_copyFrom : ∀ e ∈ tb_X4_copyFrom, pm_ck 63 e = true := List.all_eq_true.mp (by decide +kernel)
set_option maxRecDepth 20000 in
set_option maxHeartbeats 20000000 in
theorem ec_X4_copyFrom_c10 {d : Nat} (hd : 1 ≤ d) {g0 g1 g2 g3 g4 g6 g8 g9 : List pm_E} {p5 t5 p7 t7 : Value} {q : Nat × Nat × Nat} {s5 : cs_S} {s7 : cs_S} {k0 : Int32} {z7 : cs_S} (H : fc_X4_copyFrom_c10 s5 s7 k0 = some z7) : pm_Wg 63 d (.inl (none)) (cl_h g0 g1 g2 g3 g4 (ct_e5 p5 t5 s5) g6 (ct_e7 p7 t7 z7) g8 g9 q) (99, [some (.ref 479), some (.ref 351)], [.int k0, .ref 479], cl_h g0 g1 g2 g3 g4 (ct_e5 p5 t5 s5) g6 (ct_e7 p7 t7 s7) g8 g9 q) := by
  unfold fc_X4_copyFrom_c10 at H
  try dsimp only at H
  have J := Option.some.inj H
  subst J
  refine pm_Wg.path (k := 1) (ds := []) (f' := (102, [some (.ref 479), some (.ref 351)], [], cl_h g0 g1 g2 g3 g4 (ct_e5 p5 t5 s5) g6 (ct_e7 p7 t7 (cs_i s7 31 10 k0)) g8 g9 q)) tk_X4_copyFrom (by omega) rfl trivial ?_
  exact pm_Wg.vret (pm_dec tk_X4_copyFrom rfl) rfl
set_option maxRecDepth 20000 in
set_option maxHeartbeats 20000000 in
theorem ec_X4_copyFrom_c9 {d : Nat} (hd : 1 ≤ d) {g0 g1 g2 g3 g4 g6 g8 g9 : List pm_E} {p5 t5 p7 t7 : Value} {q : Nat × Nat × Nat} {s5 : cs_S} {s7 : cs_S} {k0 : Int32} {z7 : cs_S} (H : fc_X4_copyFrom_c9 s5 s7 k0 = some z7) : pm_Wg 63 d (.inl (none)) (cl_h g0 g1 g2 g3 g4 (ct_e5 p5 t5 s5) g6 (ct_e7 p7 t7 z7) g8 g9 q) (91, [some (.ref 479), some (.ref 351)], [.int k0, .ref 479], cl_h g0 g1 g2 g3 g4 (ct_e5 p5 t5 s5) g6 (ct_e7 p7 t7 s7) g8 g9 q) := by
  unfold fc_X4_copyFrom_c9 at H
  try dsimp only at H
  refine pm_Wg.path (k := 4) (ds := []) (f' := (99, [some (.ref 479), some (.ref 351)], [.int (s5.1 31 10), .ref 479], cl_h g0 g1 g2 g3 g4 (ct_e5 p5 t5 s5) g6 (ct_e7 p7 t7 (cs_i s7 31 9 k0)) g8 g9 q)) tk_X4_copyFrom (by omega) rfl trivial ?_
  exact ec_X4_copyFrom_c10 (by omega) H
set_option maxRecDepth 20000 in
set_option maxHeartbeats 20000000 in
theorem ec_X4_copyFrom_c8 {d : Nat} (hd : 1 ≤ d) {g0 g1 g2 g3 g4 g6 g8 g9 : List pm_E} {p5 t5 p7 t7 : Value} {q : Nat × Nat × Nat} {s5 : cs_S} {s7 : cs_S} {k0 : Int32} {z7 : cs_S} (H : fc_X4_copyFrom_c8 s5 s7 k0 = some z7) : pm_Wg 63 d (.inl (none)) (cl_h g0 g1 g2 g3 g4 (ct_e5 p5 t5 s5) g6 (ct_e7 p7 t7 z7) g8 g9 q) (83, [some (.ref 479), some (.ref 351)], [.int k0, .ref 479], cl_h g0 g1 g2 g3 g4 (ct_e5 p5 t5 s5) g6 (ct_e7 p7 t7 s7) g8 g9 q) := by
  unfold fc_X4_copyFrom_c8 at H
  try dsimp only at H
  refine pm_Wg.path (k := 4) (ds := []) (f' := (91, [some (.ref 479), some (.ref 351)], [.int (s5.1 31 9), .ref 479], cl_h g0 g1 g2 g3 g4 (ct_e5 p5 t5 s5) g6 (ct_e7 p7 t7 (cs_i s7 31 8 k0)) g8 g9 q)) tk_X4_copyFrom (by omega) rfl trivial ?_
  exact ec_X4_copyFrom_c9 (by omega) H
set_option maxRecDepth 20000 in
set_option maxHeartbeats 20000000 in
theorem ec_X4_copyFrom_c7 {d : Nat} (hd : 1 ≤ d) {g0 g1 g2 g3 g4 g6 g8 g9 : List pm_E} {p5 t5 p7 t7 : Value} {q : Nat × Nat × Nat} {s5 : cs_S} {s7 : cs_S} {k0 : Int32} {z7 : cs_S} (H : fc_X4_copyFrom_c7 s5 s7 k0 = some z7) : pm_Wg 63 d (.inl (none)) (cl_h g0 g1 g2 g3 g4 (ct_e5 p5 t5 s5) g6 (ct_e7 p7 t7 z7) g8 g9 q) (75, [some (.ref 479), some (.ref 351)], [.int k0, .ref 479], cl_h g0 g1 g2 g3 g4 (ct_e5 p5 t5 s5) g6 (ct_e7 p7 t7 s7) g8 g9 q) := by
  unfold fc_X4_copyFrom_c7 at H
  try dsimp only at H
  refine pm_Wg.path (k := 4) (ds := []) (f' := (83, [some (.ref 479), some (.ref 351)], [.int (s5.1 31 8), .ref 479], cl_h g0 g1 g2 g3 g4 (ct_e5 p5 t5 s5) g6 (ct_e7 p7 t7 (cs_i s7 31 7 k0)) g8 g9 q)) tk_X4_copyFrom (by omega) rfl trivial ?_
  exact ec_X4_copyFrom_c8 (by omega) H
set_option maxRecDepth 20000 in
set_option maxHeartbeats 20000000 in
theorem ec_X4_copyFrom_c6 {d : Nat} (hd : 1 ≤ d) {g0 g1 g2 g3 g4 g6 g8 g9 : List pm_E} {p5 t5 p7 t7 : Value} {q : Nat × Nat × Nat} {s5 : cs_S} {s7 : cs_S} {k0 : Int32} {z7 : cs_S} (H : fc_X4_copyFrom_c6 s5 s7 k0 = some z7) : pm_Wg 63 d (.inl (none)) (cl_h g0 g1 g2 g3 g4 (ct_e5 p5 t5 s5) g6 (ct_e7 p7 t7 z7) g8 g9 q) (67, [some (.ref 479), some (.ref 351)], [.int k0, .ref 479], cl_h g0 g1 g2 g3 g4 (ct_e5 p5 t5 s5) g6 (ct_e7 p7 t7 s7) g8 g9 q) := by
  unfold fc_X4_copyFrom_c6 at H
  try dsimp only at H
  refine pm_Wg.path (k := 4) (ds := []) (f' := (75, [some (.ref 479), some (.ref 351)], [.int (s5.1 31 7), .ref 479], cl_h g0 g1 g2 g3 g4 (ct_e5 p5 t5 s5) g6 (ct_e7 p7 t7 (cs_i s7 31 6 k0)) g8 g9 q)) tk_X4_copyFrom (by omega) rfl trivial ?_
  exact ec_X4_copyFrom_c7 (by omega) H
set_option maxRecDepth 20000 in
set_option maxHeartbeats 20000000 in
theorem ec_X4_copyFrom_c5 {d : Nat} (hd : 1 ≤ d) {g0 g1 g2 g3 g4 g6 g8 g9 : List pm_E} {p5 t5 p7 t7 : Value} {q : Nat × Nat × Nat} {s5 : cs_S} {s7 : cs_S} {k0 : Int32} {z7 : cs_S} (H : fc_X4_copyFrom_c5 s5 s7 k0 = some z7) : pm_Wg 63 d (.inl (none)) (cl_h g0 g1 g2 g3 g4 (ct_e5 p5 t5 s5) g6 (ct_e7 p7 t7 z7) g8 g9 q) (59, [some (.ref 479), some (.ref 351)], [.int k0, .ref 479], cl_h g0 g1 g2 g3 g4 (ct_e5 p5 t5 s5) g6 (ct_e7 p7 t7 s7) g8 g9 q) := by
  unfold fc_X4_copyFrom_c5 at H
  try dsimp only at H
  refine pm_Wg.path (k := 4) (ds := []) (f' := (67, [some (.ref 479), some (.ref 351)], [.int (s5.1 31 6), .ref 479], cl_h g0 g1 g2 g3 g4 (ct_e5 p5 t5 s5) g6 (ct_e7 p7 t7 (cs_i s7 31 5 k0)) g8 g9 q)) tk_X4_copyFrom (by omega) rfl trivial ?_
  exact ec_X4_copyFrom_c6 (by omega) H
set_option maxRecDepth 20000 in
set_option maxHeartbeats 20000000 in
theorem ec_X4_copyFrom_c4 {d : Nat} (hd : 1 ≤ d) {g0 g1 g2 g3 g4 g6 g8 g9 : List pm_E} {p5 t5 p7 t7 : Value} {q : Nat × Nat × Nat} {s5 : cs_S} {s7 : cs_S} {k0 : Int32} {z7 : cs_S} (H : fc_X4_copyFrom_c4 s5 s7 k0 = some z7) : pm_Wg 63 d (.inl (none)) (cl_h g0 g1 g2 g3 g4 (ct_e5 p5 t5 s5) g6 (ct_e7 p7 t7 z7) g8 g9 q) (51, [some (.ref 479), some (.ref 351)], [.int k0, .ref 479], cl_h g0 g1 g2 g3 g4 (ct_e5 p5 t5 s5) g6 (ct_e7 p7 t7 s7) g8 g9 q) := by
  unfold fc_X4_copyFrom_c4 at H
  try dsimp only at H
  refine pm_Wg.path (k := 4) (ds := []) (f' := (59, [some (.ref 479), some (.ref 351)], [.int (s5.1 31 5), .ref 479], cl_h g0 g1 g2 g3 g4 (ct_e5 p5 t5 s5) g6 (ct_e7 p7 t7 (cs_i s7 31 4 k0)) g8 g9 q)) tk_X4_copyFrom (by omega) rfl trivial ?_
  exact ec_X4_copyFrom_c5 (by omega) H
set_option maxRecDepth 20000 in
set_option maxHeartbeats 20000000 in
theorem ec_X4_copyFrom_c3 {d : Nat} (hd : 1 ≤ d) {g0 g1 g2 g3 g4 g6 g8 g9 : List pm_E} {p5 t5 p7 t7 : Value} {q : Nat × Nat × Nat} {s5 : cs_S} {s7 : cs_S} {k0 : Int32} {z7 : cs_S} (H : fc_X4_copyFrom_c3 s5 s7 k0 = some z7) : pm_Wg 63 d (.inl (none)) (cl_h g0 g1 g2 g3 g4 (ct_e5 p5 t5 s5) g6 (ct_e7 p7 t7 z7) g8 g9 q) (43, [some (.ref 479), some (.ref 351)], [.int k0, .ref 479], cl_h g0 g1 g2 g3 g4 (ct_e5 p5 t5 s5) g6 (ct_e7 p7 t7 s7) g8 g9 q) := by
  unfold fc_X4_copyFrom_c3 at H
  try dsimp only at H
  refine pm_Wg.path (k := 4) (ds := []) (f' := (51, [some (.ref 479), some (.ref 351)], [.int (s5.1 31 4), .ref 479], cl_h g0 g1 g2 g3 g4 (ct_e5 p5 t5 s5) g6 (ct_e7 p7 t7 (cs_i s7 31 3 k0)) g8 g9 q)) tk_X4_copyFrom (by omega) rfl trivial ?_
  exact ec_X4_copyFrom_c4 (by omega) H
set_option maxRecDepth 20000 in
set_option maxHeartbeats 20000000 in
theorem ec_X4_copyFrom_c2 {d : Nat} (hd : 1 ≤ d) {g0 g1 g2 g3 g4 g6 g8 g9 : List pm_E} {p5 t5 p7 t7 : Value} {q : Nat × Nat × Nat} {s5 : cs_S} {s7 : cs_S} {k0 : Int32} {k1 : Int32} {k3 : Int32} {z7 : cs_S} (H : fc_X4_copyFrom_c2 s5 s7 k0 k1 k3 = some z7) : pm_Wg 63 d (.inl (none)) (cl_h g0 g1 g2 g3 g4 (ct_e5 p5 t5 s5) g6 (ct_e7 p7 t7 z7) g8 g9 q) (35, [some (.ref 479), some (.ref 351)], [.int k0, .int k1, .ref 481, .int k3, .ref 353], cl_h g0 g1 g2 g3 g4 (ct_e5 p5 t5 s5) g6 (ct_e7 p7 t7 s7) g8 g9 q) := by
  unfold fc_X4_copyFrom_c2 at H
  try dsimp only at H
  cases b2 : pm_cpo k3 k1 k0 64 64 with
  | false => rw [b2] at H; cases H
  | true =>
   rw [b2] at H
   dsimp only at H
   refine pm_Wg.path (k := 4) (ds := []) (f' := (43, [some (.ref 479), some (.ref 351)], [.int (s5.1 31 3), .ref 479], cl_h g0 g1 g2 g3 g4 (ct_e5 p5 t5 s5) g6 (ct_e7 p7 t7 (cs_c s7 33 (va_cpy (s5.2.1 33) (s7.2.1 33) (Int32.toNatClampNeg k3) (Int32.toNatClampNeg k1) (Int32.toNatClampNeg k0)))) g8 g9 q)) tk_X4_copyFrom (by omega) rfl ⟨pm_cpo_ok b2, trivial⟩ ?_
   exact ec_X4_copyFrom_c3 (by omega) H
set_option maxRecDepth 20000 in
set_option maxHeartbeats 20000000 in
theorem ec_X4_copyFrom_c1 {d : Nat} (hd : 1 ≤ d) {g0 g1 g2 g3 g4 g6 g8 g9 : List pm_E} {p5 t5 p7 t7 : Value} {q : Nat × Nat × Nat} {s5 : cs_S} {s7 : cs_S} {k0 : Int32} {k1 : Int32} {k3 : Int32} {z7 : cs_S} (H : fc_X4_copyFrom_c1 s5 s7 k0 k1 k3 = some z7) : pm_Wg 63 d (.inl (none)) (cl_h g0 g1 g2 g3 g4 (ct_e5 p5 t5 s5) g6 (ct_e7 p7 t7 z7) g8 g9 q) (20, [some (.ref 479), some (.ref 351)], [.int k0, .int k1, .ref 480, .int k3, .ref 352], cl_h g0 g1 g2 g3 g4 (ct_e5 p5 t5 s5) g6 (ct_e7 p7 t7 s7) g8 g9 q) := by
  unfold fc_X4_copyFrom_c1 at H
  try dsimp only at H
  cases b1 : pm_cpo k3 k1 k0 64 64 with
  | false => rw [b1] at H; cases H
  | true =>
   rw [b1] at H
   dsimp only at H
   refine pm_Wg.path (k := 8) (ds := []) (f' := (35, [some (.ref 479), some (.ref 351)], [.int 64, .int 0, .ref 481, .int 0, .ref 353], cl_h g0 g1 g2 g3 g4 (ct_e5 p5 t5 s5) g6 (ct_e7 p7 t7 (cs_c s7 32 (va_cpy (s5.2.1 32) (s7.2.1 32) (Int32.toNatClampNeg k3) (Int32.toNatClampNeg k1) (Int32.toNatClampNeg k0)))) g8 g9 q)) tk_X4_copyFrom (by omega) rfl ⟨pm_cpo_ok b1, trivial⟩ ?_
   exact ec_X4_copyFrom_c2 (by omega) H
set_option maxRecDepth 20000 in
set_option maxHeartbeats 20000000 in
theorem e_X4_copyFrom {d : Nat} (hd : 1 ≤ d) {g0 g1 g2 g3 g4 g6 g8 g9 : List pm_E} {p5 t5 p7 t7 : Value} {q : Nat × Nat × Nat} {s5 : cs_S} {s7 : cs_S} {z7 : cs_S} (H : f_X4_copyFrom s5 s7 = some z7) : pm_Mt 63 d [.ref 479, .ref 351] (cl_h g0 g1 g2 g3 g4 (ct_e5 p5 t5 s5) g6 (ct_e7 p7 t7 s7) g8 g9 q) (.inl (none)) (cl_h g0 g1 g2 g3 g4 (ct_e5 p5 t5 s5) g6 (ct_e7 p7 t7 z7) g8 g9 q) := by
  refine pm_Mt.of (by decide) (by decide +kernel) rfl rfl ?_
  unfold f_X4_copyFrom at H
  refine pm_Wg.path (k := 11) (ds := []) (f' := (20, [some (.ref 479), some (.ref 351)], [.int 64, .int 0, .ref 480, .int 0, .ref 352], cl_h g0 g1 g2 g3 g4 (ct_e5 p5 t5 s5) g6 (ct_e7 p7 t7 (cs_i s7 31 0 (s5.1 31 0))) g8 g9 q)) tk_X4_copyFrom (by omega) rfl trivial ?_
  exact ec_X4_copyFrom_c1 (by omega) H

def f_X4_holds (s5 : cs_S) (a0 : Int32) (a1 : Int32) : Option (Int32) :=
  (match pm_inb a1 64 with
  | false => none
  | true =>
  (if ((Int32.toUInt32 (s5.2.1 33 (Int32.toNatClampNeg a1)) >>> (Int32.toUInt32 a0 &&& Int32.toUInt32 31)).toInt32 &&& 1) = 0 then
   some 0
  else
   some 1))
def tb_X4_holds : List pm_I := [(0, .aload_n 0, 0, 0), (1, .getfield 19, 76, 0), (4, .iload_n 2, 0, 0), (5, .iaload, 0, 0), (6, .iload_n 1, 0, 0), (7, .iushr, 0, 0), (8, .iconst 1, 3, 0), (9, .iand, 0, 0), (10, .ifCond .eq 7, 17, 0), (13, .iconst 1, 3, 0), (14, .goto 4, 18, 0), (17, .iconst 0, 2, 0), (18, .ireturn, 0, 0)]
theorem tk_X4_holds : ∀ e ∈ tb_X4_holds, pm_ck 64 e = true := List.all_eq_true.mp (by decide +kernel)
set_option maxRecDepth 20000 in
set_option maxHeartbeats 20000000 in
theorem e_X4_holds {d : Nat} (hd : 1 ≤ d) {g0 g1 g2 g3 g4 g6 g7 g8 g9 : List pm_E} {p5 t5 : Value} {q : Nat × Nat × Nat} {s5 : cs_S} {a0 : Int32} {a1 : Int32} {r : Int32} (H : f_X4_holds s5 a0 a1 = some r) : pm_Mt 64 d [.ref 351, .int a0, .int a1] (cl_h g0 g1 g2 g3 g4 (ct_e5 p5 t5 s5) g6 g7 g8 g9 q) (.inl (some (.int r))) (cl_h g0 g1 g2 g3 g4 (ct_e5 p5 t5 s5) g6 g7 g8 g9 q) := by
  refine pm_Mt.of (by decide) (by decide +kernel) rfl rfl ?_
  unfold f_X4_holds at H
  cases b1 : pm_inb a1 64 with
  | false => rw [b1] at H; cases H
  | true =>
   rw [b1] at H
   dsimp only at H
   by_cases h2 : ((Int32.toUInt32 (s5.2.1 33 (Int32.toNatClampNeg a1)) >>> (Int32.toUInt32 a0 &&& Int32.toUInt32 31)).toInt32 &&& 1) = 0
   · rw [if_pos h2] at H
     have J := Option.some.inj H
     subst J
     refine pm_Wg.path (k := 10) (ds := [1]) (f' := (18, [some (.ref 351), some (.int a0), some (.int a1)], [.int 0], cl_h g0 g1 g2 g3 g4 (ct_e5 p5 t5 s5) g6 g7 g8 g9 q)) tk_X4_holds (by omega) rfl ⟨h2, pm_inb_vp b1, trivial⟩ ?_
     exact pm_Wg.iret (pm_dec tk_X4_holds rfl) rfl rfl
   · rw [if_neg h2] at H
     have J := Option.some.inj H
     subst J
     refine pm_Wg.path (k := 11) (ds := [0]) (f' := (18, [some (.ref 351), some (.int a0), some (.int a1)], [.int 1], cl_h g0 g1 g2 g3 g4 (ct_e5 p5 t5 s5) g6 g7 g8 g9 q)) tk_X4_holds (by omega) rfl ⟨h2, pm_inb_vp b1, trivial⟩ ?_
     exact pm_Wg.iret (pm_dec tk_X4_holds rfl) rfl rfl

def fc_X4_hold_c1 (s5 : cs_S) (l1 : Int32) (l2 : Int32) (k0 : Int32) : Option (cs_S) :=
  some (cs_i s5 31 4 k0)
def f_X4_hold (s5 : cs_S) (a0 : Int32) (a1 : Int32) : Option (cs_S) :=
  (match pm_inb a1 64 with
  | false => none
  | true =>
  (if ((cs_a s5 33 a1 ((s5.2.1 33 (Int32.toNatClampNeg a1)) ||| (1 <<< (a0 &&& 31)))).2.1 32 (Int32.toNatClampNeg a1)) = 0 then
   (fc_X4_hold_c1 (cs_a s5 33 a1 ((s5.2.1 33 (Int32.toNatClampNeg a1)) ||| (1 <<< (a0 &&& 31)))) a0 a1 (((cs_a s5 33 a1 ((s5.2.1 33 (Int32.toNatClampNeg a1)) ||| (1 <<< (a0 &&& 31)))).1 31 4) + 1))
  else
   some (cs_a s5 33 a1 ((s5.2.1 33 (Int32.toNatClampNeg a1)) ||| (1 <<< (a0 &&& 31))))))
def tb_X4_hold : List pm_I := [(0, .aload_n 0, 0, 0), (1, .getfield 19, 76, 0), (4, .iload_n 2, 0, 0), (5, .dup2, 0, 0), (6, .iaload, 0, 0), (7, .iconst 1, 3, 0), (8, .iload_n 1, 0, 0), (9, .ishl, 0, 0), (10, .ior, 0, 0), (11, .iastore, 0, 0), (12, .aload_n 0, 0, 0), (13, .getfield 15, 73, 0), (16, .iload_n 2, 0, 0), (17, .iaload, 0, 0), (18, .ifCond .ne 13, 31, 0), (21, .aload_n 0, 0, 0), (22, .dup, 0, 0), (23, .getfield 25, 79, 0), (26, .iconst 1, 3, 0), (27, .iadd, 0, 0), (28, .putfield 25, 79, 0), (31, .return_, 0, 0)]
theorem tk_X4_hold : ∀ e ∈ tb_X4_hold, pm_ck 65 e = true := List.all_eq_true.mp (by decide +kernel)
set_option maxRecDepth 20000 in
set_option maxHeartbeats 20000000 in
theorem ec_X4_hold_c1 {d : Nat} (hd : 1 ≤ d) {g0 g1 g2 g3 g4 g6 g7 g8 g9 : List pm_E} {p5 t5 : Value} {q : Nat × Nat × Nat} {s5 : cs_S} {l1 : Int32} {l2 : Int32} {k0 : Int32} {z5 : cs_S} (H : fc_X4_hold_c1 s5 l1 l2 k0 = some z5) : pm_Wg 65 d (.inl (none)) (cl_h g0 g1 g2 g3 g4 (ct_e5 p5 t5 z5) g6 g7 g8 g9 q) (28, [some (.ref 351), some (.int l1), some (.int l2)], [.int k0, .ref 351], cl_h g0 g1 g2 g3 g4 (ct_e5 p5 t5 s5) g6 g7 g8 g9 q) := by
  unfold fc_X4_hold_c1 at H
  try dsimp only at H
  have J := Option.some.inj H
  subst J
  refine pm_Wg.path (k := 1) (ds := []) (f' := (31, [some (.ref 351), some (.int l1), some (.int l2)], [], cl_h g0 g1 g2 g3 g4 (ct_e5 p5 t5 (cs_i s5 31 4 k0)) g6 g7 g8 g9 q)) tk_X4_hold (by omega) rfl trivial ?_
  exact pm_Wg.vret (pm_dec tk_X4_hold rfl) rfl
set_option maxRecDepth 20000 in
set_option maxHeartbeats 20000000 in
theorem e_X4_hold {d : Nat} (hd : 1 ≤ d) {g0 g1 g2 g3 g4 g6 g7 g8 g9 : List pm_E} {p5 t5 : Value} {q : Nat × Nat × Nat} {s5 : cs_S} {a0 : Int32} {a1 : Int32} {z5 : cs_S} (H : f_X4_hold s5 a0 a1 = some z5) : pm_Mt 65 d [.ref 351, .int a0, .int a1] (cl_h g0 g1 g2 g3 g4 (ct_e5 p5 t5 s5) g6 g7 g8 g9 q) (.inl (none)) (cl_h g0 g1 g2 g3 g4 (ct_e5 p5 t5 z5) g6 g7 g8 g9 q) := by
  refine pm_Mt.of (by decide) (by decide +kernel) rfl rfl ?_
  unfold f_X4_hold at H
  cases b1 : pm_inb a1 64 with
  | false => rw [b1] at H; cases H
  | true =>
   rw [b1] at H
   dsimp only at H
   by_cases h4 : ((cs_a s5 33 a1 ((s5.2.1 33 (Int32.toNatClampNeg a1)) ||| (1 <<< (a0 &&& 31)))).2.1 32 (Int32.toNatClampNeg a1)) = 0
   · rw [if_pos h4] at H
     refine pm_Wg.path (k := 20) (ds := [0]) (f' := (28, [some (.ref 351), some (.int a0), some (.int a1)], [.int (((cs_a s5 33 a1 ((s5.2.1 33 (Int32.toNatClampNeg a1)) ||| (1 <<< (a0 &&& 31)))).1 31 4) + 1), .ref 351], cl_h g0 g1 g2 g3 g4 (ct_e5 p5 t5 (cs_a s5 33 a1 ((s5.2.1 33 (Int32.toNatClampNeg a1)) ||| (1 <<< (a0 &&& 31))))) g6 g7 g8 g9 q)) tk_X4_hold (by omega) rfl ⟨h4, pm_inb_vp b1, pm_inb_vp b1, pm_inb_vp b1, trivial⟩ ?_
     exact ec_X4_hold_c1 (by omega) H
   · rw [if_neg h4] at H
     have J := Option.some.inj H
     subst J
     refine pm_Wg.path (k := 15) (ds := [1]) (f' := (31, [some (.ref 351), some (.int a0), some (.int a1)], [], cl_h g0 g1 g2 g3 g4 (ct_e5 p5 t5 (cs_a s5 33 a1 ((s5.2.1 33 (Int32.toNatClampNeg a1)) ||| (1 <<< (a0 &&& 31))))) g6 g7 g8 g9 q)) tk_X4_hold (by omega) rfl ⟨h4, pm_inb_vp b1, pm_inb_vp b1, pm_inb_vp b1, trivial⟩ ?_
     exact pm_Wg.vret (pm_dec tk_X4_hold rfl) rfl

def fc_X4_forget_c1 (s5 : cs_S) (l1 : Int32) (l2 : Int32) (k0 : Int32) : Option (cs_S) :=
  some (cs_i s5 31 4 k0)
def f_X4_forget (s5 : cs_S) (a0 : Int32) (a1 : Int32) : Option (cs_S) :=
  (match pm_inb a1 64 with
  | false => none
  | true =>
  (if ((cs_a s5 33 a1 ((s5.2.1 33 (Int32.toNatClampNeg a1)) &&& ((1 <<< (a0 &&& 31)) ^^^ (-1)))).2.1 32 (Int32.toNatClampNeg a1)) = 0 then
   (fc_X4_forget_c1 (cs_a s5 33 a1 ((s5.2.1 33 (Int32.toNatClampNeg a1)) &&& ((1 <<< (a0 &&& 31)) ^^^ (-1)))) a0 a1 (((cs_a s5 33 a1 ((s5.2.1 33 (Int32.toNatClampNeg a1)) &&& ((1 <<< (a0 &&& 31)) ^^^ (-1)))).1 31 4) - 1))
  else
   some (cs_a s5 33 a1 ((s5.2.1 33 (Int32.toNatClampNeg a1)) &&& ((1 <<< (a0 &&& 31)) ^^^ (-1))))))
def tb_X4_forget : List pm_I := [(0, .aload_n 0, 0, 0), (1, .getfield 19, 76, 0), (4, .iload_n 2, 0, 0), (5, .dup2, 0, 0), (6, .iaload, 0, 0), (7, .iconst 1, 3, 0), (8, .iload_n 1, 0, 0), (9, .ishl, 0, 0), (10, .iconst (-1), 1, 0), (11, .ixor, 0, 0), (12, .iand, 0, 0), (13, .iastore, 0, 0), (14, .aload_n 0, 0, 0), (15, .getfield 15, 73, 0), (18, .iload_n 2, 0, 0), (19, .iaload, 0, 0), (20, .ifCond .ne 13, 33, 0), (23, .aload_n 0, 0, 0), (24, .dup, 0, 0), (25, .getfield 25, 79, 0), (28, .iconst 1, 3, 0), (29, .isub, 0, 0), (30, .putfield 25, 79, 0), (33, .return_, 0, 0)]
theorem tk_X4_forget : ∀ e ∈ tb_X4_forget, pm_ck 66 e = true := List.all_eq_true.mp (by decide +kernel)
set_option maxRecDepth 20000 in
set_option maxHeartbeats 20000000 in
theorem ec_X4_forget_c1 {d : Nat} (hd : 1 ≤ d) {g0 g1 g2 g3 g4 g6 g7 g8 g9 : List pm_E} {p5 t5 : Value} {q : Nat × Nat × Nat} {s5 : cs_S} {l1 : Int32} {l2 : Int32} {k0 : Int32} {z5 : cs_S} (H : fc_X4_forget_c1 s5 l1 l2 k0 = some z5) : pm_Wg 66 d (.inl (none)) (cl_h g0 g1 g2 g3 g4 (ct_e5 p5 t5 z5) g6 g7 g8 g9 q) (30, [some (.ref 351), some (.int l1), some (.int l2)], [.int k0, .ref 351], cl_h g0 g1 g2 g3 g4 (ct_e5 p5 t5 s5) g6 g7 g8 g9 q) := by
  unfold fc_X4_forget_c1 at H
  try dsimp only at H
  have J := Option.some.inj H
  subst J
  refine pm_Wg.path (k := 1) (ds := []) (f' := (33, [some (.ref 351), some (.int l1), some (.int l2)], [], cl_h g0 g1 g2 g3 g4 (ct_e5 p5 t5 (cs_i s5 31 4 k0)) g6 g7 g8 g9 q)) tk_X4_forget (by omega) rfl trivial ?_
  exact pm_Wg.vret (pm_dec tk_X4_forget rfl) rfl
set_option maxRecDepth 20000 in
set_option maxHeartbeats 20000000 in
theorem e_X4_forget {d : Nat} (hd : 1 ≤ d) {g0 g1 g2 g3 g4 g6 g7 g8 g9 : List pm_E} {p5 t5 : Value} {q : Nat × Nat × Nat} {s5 : cs_S} {a0 : Int32} {a1 : Int32} {z5 : cs_S} (H : f_X4_forget s5 a0 a1 = some z5) : pm_Mt 66 d [.ref 351, .int a0, .int a1] (cl_h g0 g1 g2 g3 g4 (ct_e5 p5 t5 s5) g6 g7 g8 g9 q) (.inl (none)) (cl_h g0 g1 g2 g3 g4 (ct_e5 p5 t5 z5) g6 g7 g8 g9 q) := by
  refine pm_Mt.of (by decide) (by decide +kernel) rfl rfl ?_
  unfold f_X4_forget at H
  cases b1 : pm_inb a1 64 with
  | false => rw [b1] at H; cases H
  | true =>
   rw [b1] at H
   dsimp only at H
   by_cases h4 : ((cs_a s5 33 a1 ((s5.2.1 33 (Int32.toNatClampNeg a1)) &&& ((1 <<< (a0 &&& 31)) ^^^ (-1)))).2.1 32 (Int32.toNatClampNeg a1)) = 0
   · rw [if_pos h4] at H
     refine pm_Wg.path (k := 22) (ds := [0]) (f' := (30, [some (.ref 351), some (.int a0), some (.int a1)], [.int (((cs_a s5 33 a1 ((s5.2.1 33 (Int32.toNatClampNeg a1)) &&& ((1 <<< (a0 &&& 31)) ^^^ (-1)))).1 31 4) - 1), .ref 351], cl_h g0 g1 g2 g3 g4 (ct_e5 p5 t5 (cs_a s5 33 a1 ((s5.2.1 33 (Int32.toNatClampNeg a1)) &&& ((1 <<< (a0 &&& 31)) ^^^ (-1))))) g6 g7 g8 g9 q)) tk_X4_forget (by omega) rfl ⟨h4, pm_inb_vp b1, pm_inb_vp b1, pm_inb_vp b1, trivial⟩ ?_
     exact ec_X4_forget_c1 (by omega) H
   · rw [if_neg h4] at H
     have J := Option.some.inj H
     subst J
     refine pm_Wg.path (k := 17) (ds := [1]) (f' := (33, [some (.ref 351), some (.int a0), some (.int a1)], [], cl_h g0 g1 g2 g3 g4 (ct_e5 p5 t5 (cs_a s5 33 a1 ((s5.2.1 33 (Int32.toNatClampNeg a1)) &&& ((1 <<< (a0 &&& 31)) ^^^ (-1))))) g6 g7 g8 g9 q)) tk_X4_forget (by omega) rfl ⟨h4, pm_inb_vp b1, pm_inb_vp b1, pm_inb_vp b1, trivial⟩ ?_
     exact pm_Wg.vret (pm_dec tk_X4_forget rfl) rfl

def fc_X4_end_c4 (s5 : cs_S) (l1 : Int32) (l2 : Int32) (l3 : Int32) (k0 : Int32) : Option (cs_S) :=
  some (cs_i s5 31 6 k0)
def fc_X4_end_c3 (s5 : cs_S) (l1 : Int32) (l2 : Int32) (l3 : Int32) (k0 : Int32) : Option (cs_S) :=
  (if ((cs_i s5 31 5 k0).1 31 5) = l2 then
   (fc_X4_end_c4 (cs_i s5 31 5 k0) l1 l2 l3 l3)
  else
   some (cs_i s5 31 5 k0))
def fc_X4_end_c2 (s5 : cs_S) (l1 : Int32) (l2 : Int32) (l3 : Int32) (k0 : Int32) : Option (cs_S) :=
  (fc_X4_end_c3 (cs_i s5 31 3 k0) l1 l2 l3 (((cs_i s5 31 3 k0).1 31 5) + 1))
def fc_X4_end_c1 (s5 : cs_S) (l1 : Int32) (l2 : Int32) (l3 : Int32) (k0 : Int32) (k1 : Int32) : Option (cs_S) :=
  (match pm_inb k1 64 with
  | false => none
  | true =>
  (fc_X4_end_c2 (cs_a s5 33 k1 k0) l1 l2 l3 (((cs_a s5 33 k1 k0).1 31 3) - 1)))
def f_X4_end (s5 : cs_S) (a0 : Int32) (a1 : Int32) (a2 : Int32) : Option (cs_S) :=
  (match pm_inb a0 64 with
  | false => none
  | true =>
  (fc_X4_end_c1 (cs_a s5 32 a0 3) a0 a1 a2 0 a0))
def tb_X4_end : List pm_I := [(0, .aload_n 0, 0, 0), (1, .getfield 15, 73, 0), (4, .iload_n 1, 0, 0), (5, .iconst 3, 5, 0), (6, .iastore, 0, 0), (7, .aload_n 0, 0, 0), (8, .getfield 19, 76, 0), (11, .iload_n 1, 0, 0), (12, .iconst 0, 2, 0), (13, .iastore, 0, 0), (14, .aload_n 0, 0, 0), (15, .dup, 0, 0), (16, .getfield 22, 77, 0), (19, .iconst 1, 3, 0), (20, .isub, 0, 0), (21, .putfield 22, 77, 0), (24, .aload_n 0, 0, 0), (25, .dup, 0, 0), (26, .getfield 28, 82, 0), (29, .iconst 1, 3, 0), (30, .iadd, 0, 0), (31, .putfield 28, 82, 0), (34, .aload_n 0, 0, 0), (35, .getfield 28, 82, 0), (38, .iload_n 2, 0, 0), (39, .if_icmp .ne 8, 47, 0), (42, .aload_n 0, 0, 0), (43, .iload_n 3, 0, 0), (44, .putfield 31, 84, 0), (47, .return_, 0, 0)]
theorem tk_X4_end : ∀ e ∈ tb_X4_end, pm_ck 69 e = true := List.all_eq_true.mp (by decide +kernel)
set_option maxRecDepth 20000 in
set_option maxHeartbeats 20000000 in
theorem ec_X4_end_c4 {d : Nat} (hd : 1 ≤ d) {g0 g1 g2 g3 g4 g6 g7 g8 g9 : List pm_E} {p5 t5 : Value} {q : Nat × Nat × Nat} {s5 : cs_S} {l1 : Int32} {l2 : Int32} {l3 : Int32} {k0 : Int32} {z5 : cs_S} (H : fc_X4_end_c4 s5 l1 l2 l3 k0 = some z5) : pm_Wg 69 d (.inl (none)) (cl_h g0 g1 g2 g3 g4 (ct_e5 p5 t5 z5) g6 g7 g8 g9 q) (44, [some (.ref 351), some (.int l1), some (.int l2), some (.int l3)], [.int k0, .ref 351], cl_h g0 g1 g2 g3 g4 (ct_e5 p5 t5 s5) g6 g7 g8 g9 q) := by
  unfold fc_X4_end_c4 at H
  try dsimp only at H
  have J := Option.some.inj H
  subst J
  refine pm_Wg.path (k := 1) (ds := []) (f' := (47, [some (.ref 351), some (.int l1), some (.int l2), some (.int l3)], [], cl_h g0 g1 g2 g3 g4 (ct_e5 p5 t5 (cs_i s5 31 6 k0)) g6 g7 g8 g9 q)) tk_X4_end (by omega) rfl trivial ?_
  exact pm_Wg.vret (pm_dec tk_X4_end rfl) rfl
set_option maxRecDepth 20000 in
set_option maxHeartbeats 20000000 in
theorem ec_X4_end_c3 {d : Nat} (hd : 1 ≤ d) {g0 g1 g2 g3 g4 g6 g7 g8 g9 : List pm_E} {p5 t5 : Value} {q : Nat × Nat × Nat} {s5 : cs_S} {l1 : Int32} {l2 : Int32} {l3 : Int32} {k0 : Int32} {z5 : cs_S} (H : fc_X4_end_c3 s5 l1 l2 l3 k0 = some z5) : pm_Wg 69 d (.inl (none)) (cl_h g0 g1 g2 g3 g4 (ct_e5 p5 t5 z5) g6 g7 g8 g9 q) (31, [some (.ref 351), some (.int l1), some (.int l2), some (.int l3)], [.int k0, .ref 351], cl_h g0 g1 g2 g3 g4 (ct_e5 p5 t5 s5) g6 g7 g8 g9 q) := by
  unfold fc_X4_end_c3 at H
  try dsimp only at H
  by_cases h3 : ((cs_i s5 31 5 k0).1 31 5) = l2
  · rw [if_pos h3] at H
    refine pm_Wg.path (k := 7) (ds := [0]) (f' := (44, [some (.ref 351), some (.int l1), some (.int l2), some (.int l3)], [.int l3, .ref 351], cl_h g0 g1 g2 g3 g4 (ct_e5 p5 t5 (cs_i s5 31 5 k0)) g6 g7 g8 g9 q)) tk_X4_end (by omega) rfl ⟨h3, trivial⟩ ?_
    exact ec_X4_end_c4 (by omega) H
  · rw [if_neg h3] at H
    have J := Option.some.inj H
    subst J
    refine pm_Wg.path (k := 5) (ds := [1]) (f' := (47, [some (.ref 351), some (.int l1), some (.int l2), some (.int l3)], [], cl_h g0 g1 g2 g3 g4 (ct_e5 p5 t5 (cs_i s5 31 5 k0)) g6 g7 g8 g9 q)) tk_X4_end (by omega) rfl ⟨h3, trivial⟩ ?_
    exact pm_Wg.vret (pm_dec tk_X4_end rfl) rfl
set_option maxRecDepth 20000 in
set_option maxHeartbeats 20000000 in
theorem ec_X4_end_c2 {d : Nat} (hd : 1 ≤ d) {g0 g1 g2 g3 g4 g6 g7 g8 g9 : List pm_E} {p5 t5 : Value} {q : Nat × Nat × Nat} {s5 : cs_S} {l1 : Int32} {l2 : Int32} {l3 : Int32} {k0 : Int32} {z5 : cs_S} (H : fc_X4_end_c2 s5 l1 l2 l3 k0 = some z5) : pm_Wg 69 d (.inl (none)) (cl_h g0 g1 g2 g3 g4 (ct_e5 p5 t5 z5) g6 g7 g8 g9 q) (21, [some (.ref 351), some (.int l1), some (.int l2), some (.int l3)], [.int k0, .ref 351], cl_h g0 g1 g2 g3 g4 (ct_e5 p5 t5 s5) g6 g7 g8 g9 q) := by
  unfold fc_X4_end_c2 at H
  try dsimp only at H
  refine pm_Wg.path (k := 6) (ds := []) (f' := (31, [some (.ref 351), some (.int l1), some (.int l2), some (.int l3)], [.int (((cs_i s5 31 3 k0).1 31 5) + 1), .ref 351], cl_h g0 g1 g2 g3 g4 (ct_e5 p5 t5 (cs_i s5 31 3 k0)) g6 g7 g8 g9 q)) tk_X4_end (by omega) rfl trivial ?_
  exact ec_X4_end_c3 (by omega) H
set_option maxRecDepth 20000 in
set_option maxHeartbeats 20000000 in
theorem ec_X4_end_c1 {d : Nat} (hd : 1 ≤ d) {g0 g1 g2 g3 g4 g6 g7 g8 g9 : List pm_E} {p5 t5 : Value} {q : Nat × Nat × Nat} {s5 : cs_S} {l1 : Int32} {l2 : Int32} {l3 : Int32} {k0 : Int32} {k1 : Int32} {z5 : cs_S} (H : fc_X4_end_c1 s5 l1 l2 l3 k0 k1 = some z5) : pm_Wg 69 d (.inl (none)) (cl_h g0 g1 g2 g3 g4 (ct_e5 p5 t5 z5) g6 g7 g8 g9 q) (13, [some (.ref 351), some (.int l1), some (.int l2), some (.int l3)], [.int k0, .int k1, .ref 353], cl_h g0 g1 g2 g3 g4 (ct_e5 p5 t5 s5) g6 g7 g8 g9 q) := by
  unfold fc_X4_end_c1 at H
  try dsimp only at H
  cases b2 : pm_inb k1 64 with
  | false => rw [b2] at H; cases H
  | true =>
   rw [b2] at H
   dsimp only at H
   refine pm_Wg.path (k := 6) (ds := []) (f' := (21, [some (.ref 351), some (.int l1), some (.int l2), some (.int l3)], [.int (((cs_a s5 33 k1 k0).1 31 3) - 1), .ref 351], cl_h g0 g1 g2 g3 g4 (ct_e5 p5 t5 (cs_a s5 33 k1 k0)) g6 g7 g8 g9 q)) tk_X4_end (by omega) rfl ⟨pm_inb_vp b2, trivial⟩ ?_
   exact ec_X4_end_c2 (by omega) H
set_option maxRecDepth 20000 in
set_option maxHeartbeats 20000000 in
theorem e_X4_end {d : Nat} (hd : 1 ≤ d) {g0 g1 g2 g3 g4 g6 g7 g8 g9 : List pm_E} {p5 t5 : Value} {q : Nat × Nat × Nat} {s5 : cs_S} {a0 : Int32} {a1 : Int32} {a2 : Int32} {z5 : cs_S} (H : f_X4_end s5 a0 a1 a2 = some z5) : pm_Mt 69 d [.ref 351, .int a0, .int a1, .int a2] (cl_h g0 g1 g2 g3 g4 (ct_e5 p5 t5 s5) g6 g7 g8 g9 q) (.inl (none)) (cl_h g0 g1 g2 g3 g4 (ct_e5 p5 t5 z5) g6 g7 g8 g9 q) := by
  refine pm_Mt.of (by decide) (by decide +kernel) rfl rfl ?_
  unfold f_X4_end at H
  cases b1 : pm_inb a0 64 with
  | false => rw [b1] at H; cases H
  | true =>
   rw [b1] at H
   dsimp only at H
   refine pm_Wg.path (k := 9) (ds := []) (f' := (13, [some (.ref 351), some (.int a0), some (.int a1), some (.int a2)], [.int 0, .int a0, .ref 353], cl_h g0 g1 g2 g3 g4 (ct_e5 p5 t5 (cs_a s5 32 a0 3)) g6 g7 g8 g9 q)) tk_X4_end (by omega) rfl ⟨pm_inb_vp b1, trivial⟩ ?_
   exact ec_X4_end_c1 (by omega) H

def f_X4_deadlineOf (s5 : cs_S) (a0 : Int32) (a1 : Int32) : Option (Int32) :=
  (if (s5.1 31 9) = (-1) then
   some (-1)
  else
   (if 0 < a1 then
    (if a1 = 0 then none else
    some ((s5.1 31 10) + ((((s5.1 31 9) - (s5.1 31 10)) * (a0 + 1)) / a1)))
   else
    some (-1)))
def tb_X4_deadlineOf : List pm_I := [(0, .aload_n 0, 0, 0), (1, .getfield 40, 93, 0), (4, .iconst (-1), 1, 0), (5, .if_icmp .eq 7, 12, 0), (8, .iload_n 2, 0, 0), (9, .ifCond .gt 5, 14, 0), (12, .iconst (-1), 1, 0), (13, .ireturn, 0, 0), (14, .aload_n 0, 0, 0), (15, .getfield 43, 95, 0), (18, .aload_n 0, 0, 0), (19, .getfield 40, 93, 0), (22, .aload_n 0, 0, 0), (23, .getfield 43, 95, 0), (26, .isub, 0, 0), (27, .iload_n 1, 0, 0), (28, .iconst 1, 3, 0), (29, .iadd, 0, 0), (30, .imul, 0, 0), (31, .iload_n 2, 0, 0), (32, .idiv, 0, 0), (33, .iadd, 0, 0), (34, .ireturn, 0, 0)]
theorem tk_X4_deadlineOf : ∀ e ∈ tb_X4_deadlineOf, pm_ck 70 e = true := List.all_eq_true.mp (by decide +kernel)
set_option maxRecDepth 20000 in
set_option maxHeartbeats 20000000 in
theorem e_X4_deadlineOf {d : Nat} (hd : 1 ≤ d) {g0 g1 g2 g3 g4 g6 g7 g8 g9 : List pm_E} {p5 t5 : Value} {q : Nat × Nat × Nat} {s5 : cs_S} {a0 : Int32} {a1 : Int32} {r : Int32} (H : f_X4_deadlineOf s5 a0 a1 = some r) : pm_Mt 70 d [.ref 351, .int a0, .int a1] (cl_h g0 g1 g2 g3 g4 (ct_e5 p5 t5 s5) g6 g7 g8 g9 q) (.inl (some (.int r))) (cl_h g0 g1 g2 g3 g4 (ct_e5 p5 t5 s5) g6 g7 g8 g9 q) := by
  refine pm_Mt.of (by decide) (by decide +kernel) rfl rfl ?_
  unfold f_X4_deadlineOf at H
  by_cases h1 : (s5.1 31 9) = (-1)
  · rw [if_pos h1] at H
    have J := Option.some.inj H
    subst J
    refine pm_Wg.path (k := 5) (ds := [1]) (f' := (13, [some (.ref 351), some (.int a0), some (.int a1)], [.int (-1)], cl_h g0 g1 g2 g3 g4 (ct_e5 p5 t5 s5) g6 g7 g8 g9 q)) tk_X4_deadlineOf (by omega) rfl ⟨h1, trivial⟩ ?_
    exact pm_Wg.iret (pm_dec tk_X4_deadlineOf rfl) rfl rfl
  · rw [if_neg h1] at H
    by_cases h2 : 0 < a1
    · rw [if_pos h2] at H
      by_cases b3 : a1 = 0
      · rw [if_pos b3] at H; cases H
      rw [if_neg b3] at H
      have J := Option.some.inj H
      subst J
      refine pm_Wg.path (k := 20) (ds := [0, 1]) (f' := (34, [some (.ref 351), some (.int a0), some (.int a1)], [.int ((s5.1 31 10) + ((((s5.1 31 9) - (s5.1 31 10)) * (a0 + 1)) / a1))], cl_h g0 g1 g2 g3 g4 (ct_e5 p5 t5 s5) g6 g7 g8 g9 q)) tk_X4_deadlineOf (by omega) rfl ⟨b3, h2, h1, trivial⟩ ?_
      exact pm_Wg.iret (pm_dec tk_X4_deadlineOf rfl) rfl rfl
    · rw [if_neg h2] at H
      have J := Option.some.inj H
      subst J
      refine pm_Wg.path (k := 7) (ds := [0, 0]) (f' := (13, [some (.ref 351), some (.int a0), some (.int a1)], [.int (-1)], cl_h g0 g1 g2 g3 g4 (ct_e5 p5 t5 s5) g6 g7 g8 g9 q)) tk_X4_deadlineOf (by omega) rfl ⟨h2, h1, trivial⟩ ?_
      exact pm_Wg.iret (pm_dec tk_X4_deadlineOf rfl) rfl rfl

def lb_X4_unitsToRead_5 (s5 : cs_S) (x : Int32 × Int32 × Int32 × Int32) : Option ((Int32 × Int32 × Int32 × Int32) ⊕ (Int32)) := match x with
  | (l1, l2, l3, l4) =>
   (if l2 ≤ l4 then
    some (.inr l3)
   else
    (match pm_inb l4 64 with
    | false => none
    | true =>
    (if (s5.2.1 32 (Int32.toNatClampNeg l4)) = 0 then
     (match f_X4_holds s5 l1 l4 with
     | none => none
     | some r6 =>
      (if r6 = 0 then
       some (.inl (l1, l2, (l3 + 1), (l4 + 1)))
      else
       some (.inl (l1, l2, l3, (l4 + 1)))))
    else
     (if (s5.2.1 32 (Int32.toNatClampNeg l4)) = 1 then
      (match f_X4_holds s5 l1 l4 with
      | none => none
      | some r9 =>
       (if r9 = 0 then
        some (.inl (l1, l2, (l3 + 1), (l4 + 1)))
       else
        some (.inl (l1, l2, l3, (l4 + 1)))))
     else
      some (.inl (l1, l2, l3, (l4 + 1)))))))
def f_X4_unitsToRead (s5 : cs_S) (a0 : Int32) (a1 : Int32) : Option (Int32) :=
  (pm_loop pm_fu (lb_X4_unitsToRead_5 s5) (a0, a1, 0, 0))
def tb_X4_unitsToRead : List pm_I := [(0, .iconst 0, 2, 0), (1, .istore_n 3, 0, 0), (2, .iconst 0, 2, 0), (3, .istore 4, 0, 0), (5, .iload 4, 0, 0), (7, .iload_n 2, 0, 0), (8, .if_icmp .ge 43, 51, 0), (11, .aload_n 0, 0, 0), (12, .getfield 15, 73, 0), (15, .iload 4, 0, 0), (17, .iaload, 0, 0), (18, .ifCond .eq 14, 32, 0), (21, .aload_n 0, 0, 0), (22, .getfield 15, 73, 0), (25, .iload 4, 0, 0), (27, .iaload, 0, 0), (28, .iconst 1, 3, 0), (29, .if_icmp .ne 16, 45, 0), (32, .aload_n 0, 0, 0), (33, .iload_n 1, 0, 0), (34, .iload 4, 0, 0), (36, .invokevirtual 64, 91, 0), (39, .ifCond .ne 6, 45, 0), (42, .iinc 3 1, 3, 0), (45, .iinc 4 1, 3, 0), (48, .goto (-43), 5, 0), (51, .iload_n 3, 0, 0), (52, .ireturn, 0, 0)]
theorem tk_X4_unitsToRead : ∀ e ∈ tb_X4_unitsToRead, pm_ck 71 e = true := List.all_eq_true.mp (by decide +kernel)
set_option maxRecDepth 20000 in
set_option maxHeartbeats 40000000 in
theorem ll_X4_unitsToRead_5 {d : Nat} (hd : 2 ≤ d) {g0 g1 g2 g3 g4 g6 g7 g8 g9 : List pm_E} {p5 t5 : Value} {q : Nat × Nat × Nat} {s5 : cs_S} {r : Int32} (P : Int32 → Prop) (K0 : ∀ e : Int32, P (e) → e = r) : ∀ (n : Nat) (l1 : Int32) (l2 : Int32) (l3 : Int32) (l4 : Int32) (e : Int32), pm_loop n (lb_X4_unitsToRead_5 s5) (l1, l2, l3, l4) = some e → P e → pm_Wg 71 d (.inl (some (.int r))) (cl_h g0 g1 g2 g3 g4 (ct_e5 p5 t5 s5) g6 g7 g8 g9 q) (5, [some (.ref 351), some (.int l1), some (.int l2), some (.int l3), some (.int l4)], [], cl_h g0 g1 g2 g3 g4 (ct_e5 p5 t5 s5) g6 g7 g8 g9 q) := by
  intro n
  induction n with
  | zero => intro l1 l2 l3 l4 e H; cases H
  | succ n ih =>
    intro l1 l2 l3 l4 e H hPe
    obtain ⟨d, rfl⟩ : ∃ d', d = d' + 1 := ⟨d - 1, by omega⟩
    have H : pm_lst (pm_loop n (lb_X4_unitsToRead_5 s5)) (lb_X4_unitsToRead_5 s5 (l1, l2, l3, l4)) = some e := H
    generalize pm_loop n (lb_X4_unitsToRead_5 s5) = LB at H ih
    unfold lb_X4_unitsToRead_5 at H
    try dsimp only at H
    by_cases h1 : l2 ≤ l4
    · rw [if_pos h1] at H
      have He := Option.some.inj H
      subst He
      have J := K0 _ hPe
      subst J
      refine pm_Wg.path (k := 4) (ds := [1]) (f' := (52, [some (.ref 351), some (.int l1), some (.int l2), some (.int l3), some (.int l4)], [.int l3], cl_h g0 g1 g2 g3 g4 (ct_e5 p5 t5 s5) g6 g7 g8 g9 q)) tk_X4_unitsToRead (by omega) rfl ⟨h1, trivial⟩ ?_
      exact pm_Wg.iret (pm_dec tk_X4_unitsToRead rfl) rfl rfl
    · rw [if_neg h1] at H
      cases b2 : pm_inb l4 64 with
      | false => rw [b2] at H; cases H
      | true =>
       rw [b2] at H
       dsimp only at H
       by_cases h3 : (s5.2.1 32 (Int32.toNatClampNeg l4)) = 0
       · rw [if_pos h3] at H
         cases q7 : f_X4_holds s5 l1 l4 with
         | none => rw [q7] at H; cases H
         | some r6 =>
          rw [q7] at H
          dsimp only at H
          refine pm_Wg.path (k := 11) (ds := [0, 1]) (f' := (36, [some (.ref 351), some (.int l1), some (.int l2), some (.int l3), some (.int l4)], [.int l4, .int l1, .ref 351], cl_h g0 g1 g2 g3 g4 (ct_e5 p5 t5 s5) g6 g7 g8 g9 q)) tk_X4_unitsToRead (by omega) rfl ⟨h3, pm_inb_vp b2, h1, trivial⟩ ?_
          refine pm_Wg.callV (m' := 64) (ix := 64) (rr := 91) (pl := 757) (b := 351) (As := [.int l1, .int l4]) (S := []) (by decide) rfl (pm_dec tk_X4_unitsToRead rfl) rfl rfl (by decide) rfl rfl (by decide) (Nat.le_of_ble_eq_true rfl) rfl (e_X4_holds (by omega) q7) ?_
          by_cases h8 : r6 = 0
          · rw [if_pos h8] at H
            refine pm_Wg.path (k := 4) (ds := [0]) (f' := (5, [some (.ref 351), some (.int l1), some (.int l2), some (.int (l3 + 1)), some (.int (l4 + 1))], [], cl_h g0 g1 g2 g3 g4 (ct_e5 p5 t5 s5) g6 g7 g8 g9 q)) tk_X4_unitsToRead (by omega) rfl ⟨h8, trivial⟩ ?_
            exact ih _ _ _ _ e H hPe
          · rw [if_neg h8] at H
            refine pm_Wg.path (k := 3) (ds := [1]) (f' := (5, [some (.ref 351), some (.int l1), some (.int l2), some (.int l3), some (.int (l4 + 1))], [], cl_h g0 g1 g2 g3 g4 (ct_e5 p5 t5 s5) g6 g7 g8 g9 q)) tk_X4_unitsToRead (by omega) rfl ⟨h8, trivial⟩ ?_
            exact ih _ _ _ _ e H hPe
       · rw [if_neg h3] at H
         by_cases h5 : (s5.2.1 32 (Int32.toNatClampNeg l4)) = 1
         · rw [if_pos h5] at H
           cases q10 : f_X4_holds s5 l1 l4 with
           | none => rw [q10] at H; cases H
           | some r9 =>
            rw [q10] at H
            dsimp only at H
            refine pm_Wg.path (k := 17) (ds := [0, 0, 0]) (f' := (36, [some (.ref 351), some (.int l1), some (.int l2), some (.int l3), some (.int l4)], [.int l4, .int l1, .ref 351], cl_h g0 g1 g2 g3 g4 (ct_e5 p5 t5 s5) g6 g7 g8 g9 q)) tk_X4_unitsToRead (by omega) rfl ⟨h5, pm_inb_vp b2, h3, pm_inb_vp b2, h1, trivial⟩ ?_
            refine pm_Wg.callV (m' := 64) (ix := 64) (rr := 91) (pl := 757) (b := 351) (As := [.int l1, .int l4]) (S := []) (by decide) rfl (pm_dec tk_X4_unitsToRead rfl) rfl rfl (by decide) rfl rfl (by decide) (Nat.le_of_ble_eq_true rfl) rfl (e_X4_holds (by omega) q10) ?_
            by_cases h11 : r9 = 0
            · rw [if_pos h11] at H
              refine pm_Wg.path (k := 4) (ds := [0]) (f' := (5, [some (.ref 351), some (.int l1), some (.int l2), some (.int (l3 + 1)), some (.int (l4 + 1))], [], cl_h g0 g1 g2 g3 g4 (ct_e5 p5 t5 s5) g6 g7 g8 g9 q)) tk_X4_unitsToRead (by omega) rfl ⟨h11, trivial⟩ ?_
              exact ih _ _ _ _ e H hPe
            · rw [if_neg h11] at H
              refine pm_Wg.path (k := 3) (ds := [1]) (f' := (5, [some (.ref 351), some (.int l1), some (.int l2), some (.int l3), some (.int (l4 + 1))], [], cl_h g0 g1 g2 g3 g4 (ct_e5 p5 t5 s5) g6 g7 g8 g9 q)) tk_X4_unitsToRead (by omega) rfl ⟨h11, trivial⟩ ?_
              exact ih _ _ _ _ e H hPe
         · rw [if_neg h5] at H
           refine pm_Wg.path (k := 16) (ds := [0, 0, 1]) (f' := (5, [some (.ref 351), some (.int l1), some (.int l2), some (.int l3), some (.int (l4 + 1))], [], cl_h g0 g1 g2 g3 g4 (ct_e5 p5 t5 s5) g6 g7 g8 g9 q)) tk_X4_unitsToRead (by omega) rfl ⟨h5, pm_inb_vp b2, h3, pm_inb_vp b2, h1, trivial⟩ ?_
           exact ih _ _ _ _ e H hPe
set_option maxRecDepth 20000 in
set_option maxHeartbeats 20000000 in
theorem e_X4_unitsToRead {d : Nat} (hd : 2 ≤ d) {g0 g1 g2 g3 g4 g6 g7 g8 g9 : List pm_E} {p5 t5 : Value} {q : Nat × Nat × Nat} {s5 : cs_S} {a0 : Int32} {a1 : Int32} {r : Int32} (H : f_X4_unitsToRead s5 a0 a1 = some r) : pm_Mt 71 d [.ref 351, .int a0, .int a1] (cl_h g0 g1 g2 g3 g4 (ct_e5 p5 t5 s5) g6 g7 g8 g9 q) (.inl (some (.int r))) (cl_h g0 g1 g2 g3 g4 (ct_e5 p5 t5 s5) g6 g7 g8 g9 q) := by
  refine pm_Mt.of (by decide) (by decide +kernel) rfl rfl ?_
  obtain ⟨d, rfl⟩ : ∃ d', d = d' + 1 := ⟨d - 1, by omega⟩
  unfold f_X4_unitsToRead at H
  refine pm_Wg.path (k := 4) (ds := []) (f' := (5, [some (.ref 351), some (.int a0), some (.int a1), some (.int 0), some (.int 0)], [], cl_h g0 g1 g2 g3 g4 (ct_e5 p5 t5 s5) g6 g7 g8 g9 q)) tk_X4_unitsToRead (by omega) rfl trivial ?_
  exact ll_X4_unitsToRead_5 (by omega) (fun e => e = r) (fun e he => he) pm_fu _ _ _ _ _ H rfl

def fc_X5_clear_c4 (s5 : cs_S) : Option (cs_S) :=
  some s5
def fc_X5_clear_c3 (s5 : cs_S) : Option (cs_S) :=
  (fc_X5_clear_c4 (cs_c s5 30 (cs_fi (s5.2.1 30) 6 0)))
def fc_X5_clear_c2 (s5 : cs_S) : Option (cs_S) :=
  (fc_X5_clear_c3 (cs_c s5 29 (cs_fi (s5.2.1 29) 6 (-1))))
def fc_X5_clear_c1 (s5 : cs_S) : Option (cs_S) :=
  (fc_X5_clear_c2 (cs_c s5 28 (cs_fi (s5.2.1 28) 6 0)))
def f_X5_clear (s5 : cs_S) : Option (cs_S) :=
  (fc_X5_clear_c1 (cs_c (cs_i s5 19 0 0) 27 (cs_fi ((cs_i s5 19 0 0).2.1 27) 6 0)))
def tb_X5_clear : List pm_I := [(0, .aload_n 0, 0, 0), (1, .iconst 0, 2, 0), (2, .putfield 9, 45, 0), (5, .aload_n 0, 0, 0), (6, .getfield 37, 62, 0), (9, .iconst 0, 2, 0), (10, .invokestatic 49, 134, 0), (13, .aload_n 0, 0, 0), (14, .getfield 40, 64, 0), (17, .iconst 0, 2, 0), (18, .invokestatic 49, 134, 0), (21, .aload_n 0, 0, 0), (22, .getfield 43, 66, 0), (25, .iconst (-1), 1, 0), (26, .invokestatic 49, 134, 0), (29, .aload_n 0, 0, 0), (30, .getfield 46, 68, 0), (33, .iconst 0, 2, 0), (34, .invokestatic 49, 134, 0), (37, .return_, 0, 0)]
theorem tk_X5_clear : ∀ e ∈ tb_X5_clear, pm_ck 73 e = true := List.all_eq_true.mp (by decide +kernel)
set_option maxRecDepth 20000 in
set_option maxHeartbeats 20000000 in
theorem ec_X5_clear_c4 {d : Nat} (hd : 2 ≤ d) {g0 g1 g2 g3 g4 g6 g7 g8 g9 : List pm_E} {p5 t5 : Value} {q : Nat × Nat × Nat} {s5 : cs_S} {z5 : cs_S} (H : fc_X5_clear_c4 s5 = some z5) : pm_Wg 73 d (.inl (none)) (cl_h g0 g1 g2 g3 g4 (ct_e5 p5 t5 z5) g6 g7 g8 g9 q) (37, [some (.ref 339)], [], cl_h g0 g1 g2 g3 g4 (ct_e5 p5 t5 s5) g6 g7 g8 g9 q) := by
  obtain ⟨d, rfl⟩ : ∃ d', d = d' + 1 := ⟨d - 1, by omega⟩
  unfold fc_X5_clear_c4 at H
  try dsimp only at H
  have J := Option.some.inj H
  subst J
  exact pm_Wg.vret (pm_dec tk_X5_clear rfl) rfl
set_option maxRecDepth 20000 in
set_option maxHeartbeats 20000000 in
theorem ec_X5_clear_c3 {d : Nat} (hd : 2 ≤ d) {g0 g1 g2 g3 g4 g6 g7 g8 g9 : List pm_E} {p5 t5 : Value} {q : Nat × Nat × Nat} {s5 : cs_S} {z5 : cs_S} (H : fc_X5_clear_c3 s5 = some z5) : pm_Wg 73 d (.inl (none)) (cl_h g0 g1 g2 g3 g4 (ct_e5 p5 t5 z5) g6 g7 g8 g9 q) (29, [some (.ref 339)], [], cl_h g0 g1 g2 g3 g4 (ct_e5 p5 t5 s5) g6 g7 g8 g9 q) := by
  obtain ⟨d, rfl⟩ : ∃ d', d = d' + 1 := ⟨d - 1, by omega⟩
  unfold fc_X5_clear_c3 at H
  try dsimp only at H
  refine pm_Wg.path (k := 3) (ds := []) (f' := (34, [some (.ref 339)], [.int 0, .ref 350], cl_h g0 g1 g2 g3 g4 (ct_e5 p5 t5 s5) g6 g7 g8 g9 q)) tk_X5_clear (by omega) rfl trivial ?_
  refine pm_Wg.callS (m' := 307) (ix := 49) (rr := 134) (pl := 1094) (As := [.ref 350, .int 0]) (S := []) (h1 := cl_h g0 g1 g2 g3 g4 (ct_e5 p5 t5 (cs_c s5 30 (cs_fi (s5.2.1 30) 6 0))) g6 g7 g8 g9 q) (by decide) rfl (pm_dec tk_X5_clear rfl) rfl rfl rfl (Nat.le_of_ble_eq_true rfl) rfl (e_fillI (by omega) (b := 350) (n := 6) (f := s5.2.1 30) (by decide) rfl rfl) ?_
  exact ec_X5_clear_c4 (by omega) H
set_option maxRecDepth 20000 in
set_option maxHeartbeats 20000000 in
theorem ec_X5_clear_c2 {d : Nat} (hd : 2 ≤ d) {g0 g1 g2 g3 g4 g6 g7 g8 g9 : List pm_E} {p5 t5 : Value} {q : Nat × Nat × Nat} {s5 : cs_S} {z5 : cs_S} (H : fc_X5_clear_c2 s5 = some z5) : pm_Wg 73 d (.inl (none)) (cl_h g0 g1 g2 g3 g4 (ct_e5 p5 t5 z5) g6 g7 g8 g9 q) (21, [some (.ref 339)], [], cl_h g0 g1 g2 g3 g4 (ct_e5 p5 t5 s5) g6 g7 g8 g9 q) := by
  obtain ⟨d, rfl⟩ : ∃ d', d = d' + 1 := ⟨d - 1, by omega⟩
  unfold fc_X5_clear_c2 at H
  try dsimp only at H
  refine pm_Wg.path (k := 3) (ds := []) (f' := (26, [some (.ref 339)], [.int (-1), .ref 349], cl_h g0 g1 g2 g3 g4 (ct_e5 p5 t5 s5) g6 g7 g8 g9 q)) tk_X5_clear (by omega) rfl trivial ?_
  refine pm_Wg.callS (m' := 307) (ix := 49) (rr := 134) (pl := 1094) (As := [.ref 349, .int (-1)]) (S := []) (h1 := cl_h g0 g1 g2 g3 g4 (ct_e5 p5 t5 (cs_c s5 29 (cs_fi (s5.2.1 29) 6 (-1)))) g6 g7 g8 g9 q) (by decide) rfl (pm_dec tk_X5_clear rfl) rfl rfl rfl (Nat.le_of_ble_eq_true rfl) rfl (e_fillI (by omega) (b := 349) (n := 6) (f := s5.2.1 29) (by decide) rfl rfl) ?_
  exact ec_X5_clear_c3 (by omega) H
set_option maxRecDepth 20000 in
set_option maxHeartbeats 20000000 in
theorem ec_X5_clear_c1 {d : Nat} (hd : 2 ≤ d) {g0 g1 g2 g3 g4 g6 g7 g8 g9 : List pm_E} {p5 t5 : Value} {q : Nat × Nat × Nat} {s5 : cs_S} {z5 : cs_S} (H : fc_X5_clear_c1 s5 = some z5) : pm_Wg 73 d (.inl (none)) (cl_h g0 g1 g2 g3 g4 (ct_e5 p5 t5 z5) g6 g7 g8 g9 q) (13, [some (.ref 339)], [], cl_h g0 g1 g2 g3 g4 (ct_e5 p5 t5 s5) g6 g7 g8 g9 q) := by
  obtain ⟨d, rfl⟩ : ∃ d', d = d' + 1 := ⟨d - 1, by omega⟩
  unfold fc_X5_clear_c1 at H
  try dsimp only at H
  refine pm_Wg.path (k := 3) (ds := []) (f' := (18, [some (.ref 339)], [.int 0, .ref 348], cl_h g0 g1 g2 g3 g4 (ct_e5 p5 t5 s5) g6 g7 g8 g9 q)) tk_X5_clear (by omega) rfl trivial ?_
  refine pm_Wg.callS (m' := 307) (ix := 49) (rr := 134) (pl := 1094) (As := [.ref 348, .int 0]) (S := []) (h1 := cl_h g0 g1 g2 g3 g4 (ct_e5 p5 t5 (cs_c s5 28 (cs_fi (s5.2.1 28) 6 0))) g6 g7 g8 g9 q) (by decide) rfl (pm_dec tk_X5_clear rfl) rfl rfl rfl (Nat.le_of_ble_eq_true rfl) rfl (e_fillI (by omega) (b := 348) (n := 6) (f := s5.2.1 28) (by decide) rfl rfl) ?_
  exact ec_X5_clear_c2 (by omega) H
set_option maxRecDepth 20000 in
set_option maxHeartbeats 20000000 in
theorem e_X5_clear {d : Nat} (hd : 2 ≤ d) {g0 g1 g2 g3 g4 g6 g7 g8 g9 : List pm_E} {p5 t5 : Value} {q : Nat × Nat × Nat} {s5 : cs_S} {z5 : cs_S} (H : f_X5_clear s5 = some z5) : pm_Mt 73 d [.ref 339] (cl_h g0 g1 g2 g3 g4 (ct_e5 p5 t5 s5) g6 g7 g8 g9 q) (.inl (none)) (cl_h g0 g1 g2 g3 g4 (ct_e5 p5 t5 z5) g6 g7 g8 g9 q) := by
  refine pm_Mt.of (by decide) (by decide +kernel) rfl rfl ?_
  obtain ⟨d, rfl⟩ : ∃ d', d = d' + 1 := ⟨d - 1, by omega⟩
  unfold f_X5_clear at H
  refine pm_Wg.path (k := 6) (ds := []) (f' := (10, [some (.ref 339)], [.int 0, .ref 347], cl_h g0 g1 g2 g3 g4 (ct_e5 p5 t5 (cs_i s5 19 0 0)) g6 g7 g8 g9 q)) tk_X5_clear (by omega) rfl trivial ?_
  refine pm_Wg.callS (m' := 307) (ix := 49) (rr := 134) (pl := 1094) (As := [.ref 347, .int 0]) (S := []) (h1 := cl_h g0 g1 g2 g3 g4 (ct_e5 p5 t5 (cs_c (cs_i s5 19 0 0) 27 (cs_fi ((cs_i s5 19 0 0).2.1 27) 6 0))) g6 g7 g8 g9 q) (by decide) rfl (pm_dec tk_X5_clear rfl) rfl rfl rfl (Nat.le_of_ble_eq_true rfl) rfl (e_fillI (by omega) (b := 347) (n := 6) (f := (cs_i s5 19 0 0).2.1 27) (by decide) rfl rfl) ?_
  exact ec_X5_clear_c1 (by omega) H

def fc_X5_copyFrom_c11 (s5 : cs_S) (s7 : cs_S) (k0 : Int32) (k1 : Int32) (k3 : Int32) : Option (cs_S) :=
  (match pm_cpo k3 k1 k0 6 6 with
  | false => none
  | true =>
  some (cs_c s7 30 (va_cpy (s5.2.1 30) (s7.2.1 30) (Int32.toNatClampNeg k3) (Int32.toNatClampNeg k1) (Int32.toNatClampNeg k0))))
def fc_X5_copyFrom_c10 (s5 : cs_S) (s7 : cs_S) (k0 : Int32) (k1 : Int32) (k3 : Int32) : Option (cs_S) :=
  (match pm_cpo k3 k1 k0 6 6 with
  | false => none
  | true =>
  (fc_X5_copyFrom_c11 s5 (cs_c s7 29 (va_cpy (s5.2.1 29) (s7.2.1 29) (Int32.toNatClampNeg k3) (Int32.toNatClampNeg k1) (Int32.toNatClampNeg k0))) 6 0 0))
def fc_X5_copyFrom_c9 (s5 : cs_S) (s7 : cs_S) (k0 : Int32) (k1 : Int32) (k3 : Int32) : Option (cs_S) :=
  (match pm_cpo k3 k1 k0 6 6 with
  | false => none
  | true =>
  (fc_X5_copyFrom_c10 s5 (cs_c s7 28 (va_cpy (s5.2.1 28) (s7.2.1 28) (Int32.toNatClampNeg k3) (Int32.toNatClampNeg k1) (Int32.toNatClampNeg k0))) 6 0 0))
def fc_X5_copyFrom_c8 (s5 : cs_S) (s7 : cs_S) (k0 : Int32) (k1 : Int32) (k3 : Int32) : Option (cs_S) :=
  (match pm_cpo k3 k1 k0 6 6 with
  | false => none
  | true =>
  (fc_X5_copyFrom_c9 s5 (cs_c s7 27 (va_cpy (s5.2.1 27) (s7.2.1 27) (Int32.toNatClampNeg k3) (Int32.toNatClampNeg k1) (Int32.toNatClampNeg k0))) 6 0 0))
def fc_X5_copyFrom_c7 (s5 : cs_S) (s7 : cs_S) (k0 : Int32) (k1 : Int32) (k3 : Int32) : Option (cs_S) :=
  (match pm_cpo k3 k1 k0 400 400 with
  | false => none
  | true =>
  (fc_X5_copyFrom_c8 s5 (cs_c s7 26 (va_cpy (s5.2.1 26) (s7.2.1 26) (Int32.toNatClampNeg k3) (Int32.toNatClampNeg k1) (Int32.toNatClampNeg k0))) 6 0 0))
def fc_X5_copyFrom_c6 (s5 : cs_S) (s7 : cs_S) (k0 : Int32) (k1 : Int32) (k3 : Int32) : Option (cs_S) :=
  (match pm_cpo k3 k1 k0 400 400 with
  | false => none
  | true =>
  (fc_X5_copyFrom_c7 s5 (cs_c s7 25 (va_cpy (s5.2.1 25) (s7.2.1 25) (Int32.toNatClampNeg k3) (Int32.toNatClampNeg k1) (Int32.toNatClampNeg k0))) ((cs_c s7 25 (va_cpy (s5.2.1 25) (s7.2.1 25) (Int32.toNatClampNeg k3) (Int32.toNatClampNeg k1) (Int32.toNatClampNeg k0))).1 19 0) 0 0))
def fc_X5_copyFrom_c5 (s5 : cs_S) (s7 : cs_S) (k0 : Int32) (k1 : Int32) (k3 : Int32) : Option (cs_S) :=
  (match pm_cpo k3 k1 k0 400 400 with
  | false => none
  | true =>
  (fc_X5_copyFrom_c6 s5 (cs_c s7 24 (va_cpy (s5.2.1 24) (s7.2.1 24) (Int32.toNatClampNeg k3) (Int32.toNatClampNeg k1) (Int32.toNatClampNeg k0))) ((cs_c s7 24 (va_cpy (s5.2.1 24) (s7.2.1 24) (Int32.toNatClampNeg k3) (Int32.toNatClampNeg k1) (Int32.toNatClampNeg k0))).1 19 0) 0 0))
def fc_X5_copyFrom_c4 (s5 : cs_S) (s7 : cs_S) (k0 : Int32) (k1 : Int32) (k3 : Int32) : Option (cs_S) :=
  (match pm_cpo k3 k1 k0 400 400 with
  | false => none
  | true =>
  (fc_X5_copyFrom_c5 s5 (cs_c s7 23 (va_cpy (s5.2.1 23) (s7.2.1 23) (Int32.toNatClampNeg k3) (Int32.toNatClampNeg k1) (Int32.toNatClampNeg k0))) ((cs_c s7 23 (va_cpy (s5.2.1 23) (s7.2.1 23) (Int32.toNatClampNeg k3) (Int32.toNatClampNeg k1) (Int32.toNatClampNeg k0))).1 19 0) 0 0))
def fc_X5_copyFrom_c3 (s5 : cs_S) (s7 : cs_S) (k0 : Int32) (k1 : Int32) (k3 : Int32) : Option (cs_S) :=
  (match pm_cpo k3 k1 k0 400 400 with
  | false => none
  | true =>
  (fc_X5_copyFrom_c4 s5 (cs_c s7 22 (va_cpy (s5.2.1 22) (s7.2.1 22) (Int32.toNatClampNeg k3) (Int32.toNatClampNeg k1) (Int32.toNatClampNeg k0))) ((cs_c s7 22 (va_cpy (s5.2.1 22) (s7.2.1 22) (Int32.toNatClampNeg k3) (Int32.toNatClampNeg k1) (Int32.toNatClampNeg k0))).1 19 0) 0 0))
def fc_X5_copyFrom_c2 (s5 : cs_S) (s7 : cs_S) (k0 : Int32) (k1 : Int32) (k3 : Int32) : Option (cs_S) :=
  (match pm_cpo k3 k1 k0 400 400 with
  | false => none
  | true =>
  (fc_X5_copyFrom_c3 s5 (cs_c s7 21 (va_cpy (s5.2.1 21) (s7.2.1 21) (Int32.toNatClampNeg k3) (Int32.toNatClampNeg k1) (Int32.toNatClampNeg k0))) ((cs_c s7 21 (va_cpy (s5.2.1 21) (s7.2.1 21) (Int32.toNatClampNeg k3) (Int32.toNatClampNeg k1) (Int32.toNatClampNeg k0))).1 19 0) 0 0))
def fc_X5_copyFrom_c1 (s5 : cs_S) (s7 : cs_S) (k0 : Int32) (k1 : Int32) (k3 : Int32) : Option (cs_S) :=
  (match pm_cpo k3 k1 k0 400 400 with
  | false => none
  | true =>
  (fc_X5_copyFrom_c2 s5 (cs_c s7 20 (va_cpy (s5.2.1 20) (s7.2.1 20) (Int32.toNatClampNeg k3) (Int32.toNatClampNeg k1) (Int32.toNatClampNeg k0))) ((cs_c s7 20 (va_cpy (s5.2.1 20) (s7.2.1 20) (Int32.toNatClampNeg k3) (Int32.toNatClampNeg k1) (Int32.toNatClampNeg k0))).1 19 0) 0 0))
def f_X5_copyFrom (s5 : cs_S) (s7 : cs_S) : Option (cs_S) :=
  (fc_X5_copyFrom_c1 s5 (cs_i s7 19 0 (s5.1 19 0)) ((cs_i s7 19 0 (s5.1 19 0)).1 19 0) 0 0)
def tb_X5_copyFrom : List pm_I := [(0, .aload_n 0, 0, 0), (1, .aload_n 1, 0, 0), (2, .getfield 9, 45, 0), (5, .putfield 9, 45, 0), (8, .aload_n 1, 0, 0), (9, .getfield 15, 48, 0), (12, .iconst 0, 2, 0), (13, .aload_n 0, 0, 0), (14, .getfield 15, 48, 0), (17, .iconst 0, 2, 0), (18, .aload_n 0, 0, 0), (19, .getfield 9, 45, 0), (22, .invokestatic 55, 2, 1), (25, .aload_n 1, 0, 0), (26, .getfield 19, 50, 0), (29, .iconst 0, 2, 0), (30, .aload_n 0, 0, 0), (31, .getfield 19, 50, 0), (34, .iconst 0, 2, 0), (35, .aload_n 0, 0, 0), (36, .getfield 9, 45, 0), (39, .invokestatic 55, 2, 1), (42, .aload_n 1, 0, 0), (43, .getfield 22, 52, 0), (46, .iconst 0, 2, 0), (47, .aload_n 0, 0, 0), (48, .getfield 22, 52, 0), (51, .iconst 0, 2, 0), (52, .aload_n 0, 0, 0), (53, .getfield 9, 45, 0), (56, .invokestatic 55, 2, 1), (59, .aload_n 1, 0, 0), (60, .getfield 25, 54, 0), (63, .iconst 0, 2, 0), (64, .aload_n 0, 0, 0), (65, .getfield 25, 54, 0), (68, .iconst 0, 2, 0), (69, .aload_n 0, 0, 0), (70, .getfield 9, 45, 0), (73, .invokestatic 55, 2, 1), (76, .aload_n 1, 0, 0), (77, .getfield 28, 56, 0), (80, .iconst 0, 2, 0), (81, .aload_n 0, 0, 0), (82, .getfield 28, 56, 0), (85, .iconst 0, 2, 0), (86, .aload_n 0, 0, 0), (87, .getfield 9, 45, 0), (90, .invokestatic 55, 2, 1), (93, .aload_n 1, 0, 0), (94, .getfield 31, 57, 0), (97, .iconst 0, 2, 0), (98, .aload_n 0, 0, 0), (99, .getfield 31, 57, 0), (102, .iconst 0, 2, 0), (103, .aload_n 0, 0, 0), (104, .getfield 9, 45, 0), (107, .invokestatic 55, 2, 1), (110, .aload_n 1, 0, 0), (111, .getfield 34, 59, 0), (114, .iconst 0, 2, 0), (115, .aload_n 0, 0, 0), (116, .getfield 34, 59, 0), (119, .iconst 0, 2, 0), (120, .aload_n 0, 0, 0), (121, .getfield 9, 45, 0), (124, .invokestatic 55, 2, 1), (127, .aload_n 1, 0, 0), (128, .getfield 37, 62, 0), (131, .iconst 0, 2, 0), (132, .aload_n 0, 0, 0), (133, .getfield 37, 62, 0), (136, .iconst 0, 2, 0), (137, .bipush 6, 8, 0), (139, .invokestatic 55, 2, 1), (142, .aload_n 1, 0, 0), (143, .getfield 40, 64, 0), (146, .iconst 0, 2, 0), (147, .aload_n 0, 0, 0), (148, .getfield 40, 64, 0), (151, .iconst 0, 2, 0), (152, .bipush 6, 8, 0), (154, .invokestatic 55, 2, 1), (157, .aload_n 1, 0, 0), (158, .getfield 43, 66, 0), (161, .iconst 0, 2, 0), (162, .aload_n 0, 0, 0), (163, .getfield 43, 66, 0), (166, .iconst 0, 2, 0), (167, .bipush 6, 8, 0), (169, .invokestatic 55, 2, 1), (172, .aload_n 1, 0, 0), (173, .getfield 46, 68, 0), (176, .iconst 0, 2, 0), (177, .aload_n 0, 0, 0), (178, .getfield 46, 68, 0), (181, .iconst 0, 2, 0), (182, .bipush 6, 8, 0), (184, .invokestatic 55, 2, 1), (187, .return_, 0, 0)]
theorem tk_X5_copyFrom : ∀ e ∈ tb_X5_copyFrom, pm_ck 74 e = true := List.all_eq_true.mp (by decide +kernel)
set_option maxRecDepth 20000 in
set_option maxHeartbeats 20000000 in
theorem ec_X5_copyFrom_c11 {d : Nat} (hd : 1 ≤ d) {g0 g1 g2 g3 g4 g6 g8 g9 : List pm_E} {p5 t5 p7 t7 : Value} {q : Nat × Nat × Nat} {s5 : cs_S} {s7 : cs_S} {k0 : Int32} {k1 : Int32} {k3 : Int32} {z7 : cs_S} (H : fc_X5_copyFrom_c11 s5 s7 k0 k1 k3 = some z7) : pm_Wg 74 d (.inl (none)) (cl_h g0 g1 g2 g3 g4 (ct_e5 p5 t5 s5) g6 (ct_e7 p7 t7 z7) g8 g9 q) (184, [some (.ref 467), some (.ref 339)], [.int k0, .int k1, .ref 478, .int k3, .ref 350], cl_h g0 g1 g2 g3 g4 (ct_e5 p5 t5 s5) g6 (ct_e7 p7 t7 s7) g8 g9 q) := by
  unfold fc_X5_copyFrom_c11 at H
  try dsimp only at H
  cases b11 : pm_cpo k3 k1 k0 6 6 with
  | false => rw [b11] at H; cases H
  | true =>
   rw [b11] at H
   dsimp only at H
   have J := Option.some.inj H
   subst J
   refine pm_Wg.path (k := 1) (ds := []) (f' := (187, [some (.ref 467), some (.ref 339)], [], cl_h g0 g1 g2 g3 g4 (ct_e5 p5 t5 s5) g6 (ct_e7 p7 t7 (cs_c s7 30 (va_cpy (s5.2.1 30) (s7.2.1 30) (Int32.toNatClampNeg k3) (Int32.toNatClampNeg k1) (Int32.toNatClampNeg k0)))) g8 g9 q)) tk_X5_copyFrom (by omega) rfl ⟨pm_cpo_ok b11, trivial⟩ ?_
   exact pm_Wg.vret (pm_dec tk_X5_copyFrom rfl) rfl
set_option maxRecDepth 20000 in
set_option maxHeartbeats 20000000 in
theorem ec_X5_copyFrom_c10 {d : Nat} (hd : 1 ≤ d) {g0 g1 g2 g3 g4 g6 g8 g9 : List pm_E} {p5 t5 p7 t7 : Value} {q : Nat × Nat × Nat} {s5 : cs_S} {s7 : cs_S} {k0 : Int32} {k1 : Int32} {k3 : Int32} {z7 : cs_S} (H : fc_X5_copyFrom_c10 s5 s7 k0 k1 k3 = some z7) : pm_Wg 74 d (.inl (none)) (cl_h g0 g1 g2 g3 g4 (ct_e5 p5 t5 s5) g6 (ct_e7 p7 t7 z7) g8 g9 q) (169, [some (.ref 467), some (.ref 339)], [.int k0, .int k1, .ref 477, .int k3, .ref 349], cl_h g0 g1 g2 g3 g4 (ct_e5 p5 t5 s5) g6 (ct_e7 p7 t7 s7) g8 g9 q) := by
  unfold fc_X5_copyFrom_c10 at H
  try dsimp only at H
  cases b10 : pm_cpo k3 k1 k0 6 6 with
  | false => rw [b10] at H; cases H
  | true =>
   rw [b10] at H
   dsimp only at H
   refine pm_Wg.path (k := 8) (ds := []) (f' := (184, [some (.ref 467), some (.ref 339)], [.int 6, .int 0, .ref 478, .int 0, .ref 350], cl_h g0 g1 g2 g3 g4 (ct_e5 p5 t5 s5) g6 (ct_e7 p7 t7 (cs_c s7 29 (va_cpy (s5.2.1 29) (s7.2.1 29) (Int32.toNatClampNeg k3) (Int32.toNatClampNeg k1) (Int32.toNatClampNeg k0)))) g8 g9 q)) tk_X5_copyFrom (by omega) rfl ⟨pm_cpo_ok b10, trivial⟩ ?_
   exact ec_X5_copyFrom_c11 (by omega) H
set_option maxRecDepth 20000 in
set_option maxHeartbeats 20000000 in
theorem ec_X5_copyFrom_c9 {d : Nat} (hd : 1 ≤ d) {g0 g1 g2 g3 g4 g6 g8 g9 : List pm_E} {p5 t5 p7 t7 : Value} {q : Nat × Nat × Nat} {s5 : cs_S} {s7 : cs_S} {k0 : Int32} {k1 : Int32} {k3 : Int32} {z7 : cs_S} (H : fc_X5_copyFrom_c9 s5 s7 k0 k1 k3 = some z7) : pm_Wg 74 d (.inl (none)) (cl_h g0 g1 g2 g3 g4 (ct_e5 p5 t5 s5) g6 (ct_e7 p7 t7 z7) g8 g9 q) (154, [some (.ref 467), some (.ref 339)], [.int k0, .int k1, .ref 476, .int k3, .ref 348], cl_h g0 g1 g2 g3 g4 (ct_e5 p5 t5 s5) g6 (ct_e7 p7 t7 s7) g8 g9 q) := by
  unfold fc_X5_copyFrom_c9 at H
  try dsimp only at H
  cases b9 : pm_cpo k3 k1 k0 6 6 with
  | false => rw [b9] at H; cases H
  | true =>
   rw [b9] at H
   dsimp only at H
   refine pm_Wg.path (k := 8) (ds := []) (f' := (169, [some (.ref 467), some (.ref 339)], [.int 6, .int 0, .ref 477, .int 0, .ref 349], cl_h g0 g1 g2 g3 g4 (ct_e5 p5 t5 s5) g6 (ct_e7 p7 t7 (cs_c s7 28 (va_cpy (s5.2.1 28) (s7.2.1 28) (Int32.toNatClampNeg k3) (Int32.toNatClampNeg k1) (Int32.toNatClampNeg k0)))) g8 g9 q)) tk_X5_copyFrom (by omega) rfl ⟨pm_cpo_ok b9, trivial⟩ ?_
   exact ec_X5_copyFrom_c10 (by omega) H
set_option maxRecDepth 20000 in
set_option maxHeartbeats 20000000 in
theorem ec_X5_copyFrom_c8 {d : Nat} (hd : 1 ≤ d) {g0 g1 g2 g3 g4 g6 g8 g9 : List pm_E} {p5 t5 p7 t7 : Value} {q : Nat × Nat × Nat} {s5 : cs_S} {s7 : cs_S} {k0 : Int32} {k1 : Int32} {k3 : Int32} {z7 : cs_S} (H : fc_X5_copyFrom_c8 s5 s7 k0 k1 k3 = some z7) : pm_Wg 74 d (.inl (none)) (cl_h g0 g1 g2 g3 g4 (ct_e5 p5 t5 s5) g6 (ct_e7 p7 t7 z7) g8 g9 q) (139, [some (.ref 467), some (.ref 339)], [.int k0, .int k1, .ref 475, .int k3, .ref 347], cl_h g0 g1 g2 g3 g4 (ct_e5 p5 t5 s5) g6 (ct_e7 p7 t7 s7) g8 g9 q) := by
  unfold fc_X5_copyFrom_c8 at H
  try dsimp only at H
  cases b8 : pm_cpo k3 k1 k0 6 6 with
  | false => rw [b8] at H; cases H
  | true =>
   rw [b8] at H
   dsimp only at H
   refine pm_Wg.path (k := 8) (ds := []) (f' := (154, [some (.ref 467), some (.ref 339)], [.int 6, .int 0, .ref 476, .int 0, .ref 348], cl_h g0 g1 g2 g3 g4 (ct_e5 p5 t5 s5) g6 (ct_e7 p7 t7 (cs_c s7 27 (va_cpy (s5.2.1 27) (s7.2.1 27) (Int32.toNatClampNeg k3) (Int32.toNatClampNeg k1) (Int32.toNatClampNeg k0)))) g8 g9 q)) tk_X5_copyFrom (by omega) rfl ⟨pm_cpo_ok b8, trivial⟩ ?_
   exact ec_X5_copyFrom_c9 (by omega) H
set_option maxRecDepth 20000 in
set_option maxHeartbeats 20000000 in
theorem ec_X5_copyFrom_c7 {d : Nat} (hd : 1 ≤ d) {g0 g1 g2 g3 g4 g6 g8 g9 : List pm_E} {p5 t5 p7 t7 : Value} {q : Nat × Nat × Nat} {s5 : cs_S} {s7 : cs_S} {k0 : Int32} {k1 : Int32} {k3 : Int32} {z7 : cs_S} (H : fc_X5_copyFrom_c7 s5 s7 k0 k1 k3 = some z7) : pm_Wg 74 d (.inl (none)) (cl_h g0 g1 g2 g3 g4 (ct_e5 p5 t5 s5) g6 (ct_e7 p7 t7 z7) g8 g9 q) (124, [some (.ref 467), some (.ref 339)], [.int k0, .int k1, .ref 474, .int k3, .ref 346], cl_h g0 g1 g2 g3 g4 (ct_e5 p5 t5 s5) g6 (ct_e7 p7 t7 s7) g8 g9 q) := by
  unfold fc_X5_copyFrom_c7 at H
  try dsimp only at H
  cases b7 : pm_cpo k3 k1 k0 400 400 with
  | false => rw [b7] at H; cases H
  | true =>
   rw [b7] at H
   dsimp only at H
   refine pm_Wg.path (k := 8) (ds := []) (f' := (139, [some (.ref 467), some (.ref 339)], [.int 6, .int 0, .ref 475, .int 0, .ref 347], cl_h g0 g1 g2 g3 g4 (ct_e5 p5 t5 s5) g6 (ct_e7 p7 t7 (cs_c s7 26 (va_cpy (s5.2.1 26) (s7.2.1 26) (Int32.toNatClampNeg k3) (Int32.toNatClampNeg k1) (Int32.toNatClampNeg k0)))) g8 g9 q)) tk_X5_copyFrom (by omega) rfl ⟨pm_cpo_ok b7, trivial⟩ ?_
   exact ec_X5_copyFrom_c8 (by omega) H
set_option maxRecDepth 20000 in
set_option maxHeartbeats 20000000 in
theorem ec_X5_copyFrom_c6 {d : Nat} (hd : 1 ≤ d) {g0 g1 g2 g3 g4 g6 g8 g9 : List pm_E} {p5 t5 p7 t7 : Value} {q : Nat × Nat × Nat} {s5 : cs_S} {s7 : cs_S} {k0 : Int32} {k1 : Int32} {k3 : Int32} {z7 : cs_S} (H : fc_X5_copyFrom_c6 s5 s7 k0 k1 k3 = some z7) : pm_Wg 74 d (.inl (none)) (cl_h g0 g1 g2 g3 g4 (ct_e5 p5 t5 s5) g6 (ct_e7 p7 t7 z7) g8 g9 q) (107, [some (.ref 467), some (.ref 339)], [.int k0, .int k1, .ref 473, .int k3, .ref 345], cl_h g0 g1 g2 g3 g4 (ct_e5 p5 t5 s5) g6 (ct_e7 p7 t7 s7) g8 g9 q) := by
  unfold fc_X5_copyFrom_c6 at H
  try dsimp only at H
  cases b6 : pm_cpo k3 k1 k0 400 400 with
  | false => rw [b6] at H; cases H
  | true =>
   rw [b6] at H
   dsimp only at H
   refine pm_Wg.path (k := 9) (ds := []) (f' := (124, [some (.ref 467), some (.ref 339)], [.int ((cs_c s7 25 (va_cpy (s5.2.1 25) (s7.2.1 25) (Int32.toNatClampNeg k3) (Int32.toNatClampNeg k1) (Int32.toNatClampNeg k0))).1 19 0), .int 0, .ref 474, .int 0, .ref 346], cl_h g0 g1 g2 g3 g4 (ct_e5 p5 t5 s5) g6 (ct_e7 p7 t7 (cs_c s7 25 (va_cpy (s5.2.1 25) (s7.2.1 25) (Int32.toNatClampNeg k3) (Int32.toNatClampNeg k1) (Int32.toNatClampNeg k0)))) g8 g9 q)) tk_X5_copyFrom (by omega) rfl ⟨pm_cpo_ok b6, trivial⟩ ?_
   exact ec_X5_copyFrom_c7 (by omega) H
set_option maxRecDepth 20000 in
set_option maxHeartbeats 20000000 in
theorem ec_X5_copyFrom_c5 {d : Nat} (hd : 1 ≤ d) {g0 g1 g2 g3 g4 g6 g8 g9 : List pm_E} {p5 t5 p7 t7 : Value} {q : Nat × Nat × Nat} {s5 : cs_S} {s7 : cs_S} {k0 : Int32} {k1 : Int32} {k3 : Int32} {z7 : cs_S} (H : fc_X5_copyFrom_c5 s5 s7 k0 k1 k3 = some z7) : pm_Wg 74 d (.inl (none)) (cl_h g0 g1 g2 g3 g4 (ct_e5 p5 t5 s5) g6 (ct_e7 p7 t7 z7) g8 g9 q) (90, [some (.ref 467), some (.ref 339)], [.int k0, .int k1, .ref 472, .int k3, .ref 344], cl_h g0 g1 g2 g3 g4 (ct_e5 p5 t5 s5) g6 (ct_e7 p7 t7 s7) g8 g9 q) := by
  unfold fc_X5_copyFrom_c5 at H
  try dsimp only at H
  cases b5 : pm_cpo k3 k1 k0 400 400 with
  | false => rw [b5] at H; cases H
  | true =>
   rw [b5] at H
   dsimp only at H
   refine pm_Wg.path (k := 9) (ds := []) (f' := (107, [some (.ref 467), some (.ref 339)], [.int ((cs_c s7 24 (va_cpy (s5.2.1 24) (s7.2.1 24) (Int32.toNatClampNeg k3) (Int32.toNatClampNeg k1) (Int32.toNatClampNeg k0))).1 19 0), .int 0, .ref 473, .int 0, .ref 345], cl_h g0 g1 g2 g3 g4 (ct_e5 p5 t5 s5) g6 (ct_e7 p7 t7 (cs_c s7 24 (va_cpy (s5.2.1 24) (s7.2.1 24) (Int32.toNatClampNeg k3) (Int32.toNatClampNeg k1) (Int32.toNatClampNeg k0)))) g8 g9 q)) tk_X5_copyFrom (by omega) rfl ⟨pm_cpo_ok b5, trivial⟩ ?_
   exact ec_X5_copyFrom_c6 (by omega) H
set_option maxRecDepth 20000 in
set_option maxHeartbeats 20000000 in
theorem ec_X5_copyFrom_c4 {d : Nat} (hd : 1 ≤ d) {g0 g1 g2 g3 g4 g6 g8 g9 : List pm_E} {p5 t5 p7 t7 : Value} {q : Nat × Nat × Nat} {s5 : cs_S} {s7 : cs_S} {k0 : Int32} {k1 : Int32} {k3 : Int32} {z7 : cs_S} (H : fc_X5_copyFrom_c4 s5 s7 k0 k1 k3 = some z7) : pm_Wg 74 d (.inl (none)) (cl_h g0 g1 g2 g3 g4 (ct_e5 p5 t5 s5) g6 (ct_e7 p7 t7 z7) g8 g9 q) (73, [some (.ref 467), some (.ref 339)], [.int k0, .int k1, .ref 471, .int k3, .ref 343], cl_h g0 g1 g2 g3 g4 (ct_e5 p5 t5 s5) g6 (ct_e7 p7 t7 s7) g8 g9 q) := by
  unfold fc_X5_copyFrom_c4 at H
  try dsimp only at H
  cases b4 : pm_cpo k3 k1 k0 400 400 with
  | false => rw [b4] at H; cases H
  | true =>
   rw [b4] at H
   dsimp only at H
   refine pm_Wg.path (k := 9) (ds := []) (f' := (90, [some (.ref 467), some (.ref 339)], [.int ((cs_c s7 23 (va_cpy (s5.2.1 23) (s7.2.1 23) (Int32.toNatClampNeg k3) (Int32.toNatClampNeg k1) (Int32.toNatClampNeg k0))).1 19 0), .int 0, .ref 472, .int 0, .ref 344], cl_h g0 g1 g2 g3 g4 (ct_e5 p5 t5 s5) g6 (ct_e7 p7 t7 (cs_c s7 23 (va_cpy (s5.2.1 23) (s7.2.1 23) (Int32.toNatClampNeg k3) (Int32.toNatClampNeg k1) (Int32.toNatClampNeg k0)))) g8 g9 q)) tk_X5_copyFrom (by omega) rfl ⟨pm_cpo_ok b4, trivial⟩ ?_
   exact ec_X5_copyFrom_c5 (by omega) H
set_option maxRecDepth 20000 in
set_option maxHeartbeats 20000000 in
theorem ec_X5_copyFrom_c3 {d : Nat} (hd : 1 ≤ d) {g0 g1 g2 g3 g4 g6 g8 g9 : List pm_E} {p5 t5 p7 t7 : Value} {q : Nat × Nat × Nat} {s5 : cs_S} {s7 : cs_S} {k0 : Int32} {k1 : Int32} {k3 : Int32} {z7 : cs_S} (H : fc_X5_copyFrom_c3 s5 s7 k0 k1 k3 = some z7) : pm_Wg 74 d (.inl (none)) (cl_h g0 g1 g2 g3 g4 (ct_e5 p5 t5 s5) g6 (ct_e7 p7 t7 z7) g8 g9 q) (56, [some (.ref 467), some (.ref 339)], [.int k0, .int k1, .ref 470, .int k3, .ref 342], cl_h g0 g1 g2 g3 g4 (ct_e5 p5 t5 s5) g6 (ct_e7 p7 t7 s7) g8 g9 q) := by
  unfold fc_X5_copyFrom_c3 at H
  try dsimp only at H
  cases b3 : pm_cpo k3 k1 k0 400 400 with
  | false => rw [b3] at H; cases H
  | true =>
   rw [b3] at H
   dsimp only at H
   refine pm_Wg.path (k := 9) (ds := []) (f' := (73, [some (.ref 467), some (.ref 339)], [.int ((cs_c s7 22 (va_cpy (s5.2.1 22) (s7.2.1 22) (Int32.toNatClampNeg k3) (Int32.toNatClampNeg k1) (Int32.toNatClampNeg k0))).1 19 0), .int 0, .ref 471, .int 0, .ref 343], cl_h g0 g1 g2 g3 g4 (ct_e5 p5 t5 s5) g6 (ct_e7 p7 t7 (cs_c s7 22 (va_cpy (s5.2.1 22) (s7.2.1 22) (Int32.toNatClampNeg k3) (Int32.toNatClampNeg k1) (Int32.toNatClampNeg k0)))) g8 g9 q)) tk_X5_copyFrom (by omega) rfl ⟨pm_cpo_ok b3, trivial⟩ ?_
   exact ec_X5_copyFrom_c4 (by omega) H
set_option maxRecDepth 20000 in
set_option maxHeartbeats 20000000 in
theorem ec_X5_copyFrom_c2 {d : Nat} (hd : 1 ≤ d) {g0 g1 g2 g3 g4 g6 g8 g9 : List pm_E} {p5 t5 p7 t7 : Value} {q : Nat × Nat × Nat} {s5 : cs_S} {s7 : cs_S} {k0 : Int32} {k1 : Int32} {k3 : Int32} {z7 : cs_S} (H : fc_X5_copyFrom_c2 s5 s7 k0 k1 k3 = some z7) : pm_Wg 74 d (.inl (none)) (cl_h g0 g1 g2 g3 g4 (ct_e5 p5 t5 s5) g6 (ct_e7 p7 t7 z7) g8 g9 q) (39, [some (.ref 467), some (.ref 339)], [.int k0, .int k1, .ref 469, .int k3, .ref 341], cl_h g0 g1 g2 g3 g4 (ct_e5 p5 t5 s5) g6 (ct_e7 p7 t7 s7) g8 g9 q) := by
  unfold fc_X5_copyFrom_c2 at H
  try dsimp only at H
  cases b2 : pm_cpo k3 k1 k0 400 400 with
  | false => rw [b2] at H; cases H
  | true =>
   rw [b2] at H
   dsimp only at H
   refine pm_Wg.path (k := 9) (ds := []) (f' := (56, [some (.ref 467), some (.ref 339)], [.int ((cs_c s7 21 (va_cpy (s5.2.1 21) (s7.2.1 21) (Int32.toNatClampNeg k3) (Int32.toNatClampNeg k1) (Int32.toNatClampNeg k0))).1 19 0), .int 0, .ref 470, .int 0, .ref 342], cl_h g0 g1 g2 g3 g4 (ct_e5 p5 t5 s5) g6 (ct_e7 p7 t7 (cs_c s7 21 (va_cpy (s5.2.1 21) (s7.2.1 21) (Int32.toNatClampNeg k3) (Int32.toNatClampNeg k1) (Int32.toNatClampNeg k0)))) g8 g9 q)) tk_X5_copyFrom (by omega) rfl ⟨pm_cpo_ok b2, trivial⟩ ?_
   exact ec_X5_copyFrom_c3 (by omega) H
set_option maxRecDepth 20000 in
set_option maxHeartbeats 20000000 in
theorem ec_X5_copyFrom_c1 {d : Nat} (hd : 1 ≤ d) {g0 g1 g2 g3 g4 g6 g8 g9 : List pm_E} {p5 t5 p7 t7 : Value} {q : Nat × Nat × Nat} {s5 : cs_S} {s7 : cs_S} {k0 : Int32} {k1 : Int32} {k3 : Int32} {z7 : cs_S} (H : fc_X5_copyFrom_c1 s5 s7 k0 k1 k3 = some z7) : pm_Wg 74 d (.inl (none)) (cl_h g0 g1 g2 g3 g4 (ct_e5 p5 t5 s5) g6 (ct_e7 p7 t7 z7) g8 g9 q) (22, [some (.ref 467), some (.ref 339)], [.int k0, .int k1, .ref 468, .int k3, .ref 340], cl_h g0 g1 g2 g3 g4 (ct_e5 p5 t5 s5) g6 (ct_e7 p7 t7 s7) g8 g9 q) := by
  unfold fc_X5_copyFrom_c1 at H
  try dsimp only at H
  cases b1 : pm_cpo k3 k1 k0 400 400 with
  | false => rw [b1] at H; cases H
  | true =>
   rw [b1] at H
   dsimp only at H
   refine pm_Wg.path (k := 9) (ds := []) (f' := (39, [some (.ref 467), some (.ref 339)], [.int ((cs_c s7 20 (va_cpy (s5.2.1 20) (s7.2.1 20) (Int32.toNatClampNeg k3) (Int32.toNatClampNeg k1) (Int32.toNatClampNeg k0))).1 19 0), .int 0, .ref 469, .int 0, .ref 341], cl_h g0 g1 g2 g3 g4 (ct_e5 p5 t5 s5) g6 (ct_e7 p7 t7 (cs_c s7 20 (va_cpy (s5.2.1 20) (s7.2.1 20) (Int32.toNatClampNeg k3) (Int32.toNatClampNeg k1) (Int32.toNatClampNeg k0)))) g8 g9 q)) tk_X5_copyFrom (by omega) rfl ⟨pm_cpo_ok b1, trivial⟩ ?_
   exact ec_X5_copyFrom_c2 (by omega) H
set_option maxRecDepth 20000 in
set_option maxHeartbeats 20000000 in
theorem e_X5_copyFrom {d : Nat} (hd : 1 ≤ d) {g0 g1 g2 g3 g4 g6 g8 g9 : List pm_E} {p5 t5 p7 t7 : Value} {q : Nat × Nat × Nat} {s5 : cs_S} {s7 : cs_S} {z7 : cs_S} (H : f_X5_copyFrom s5 s7 = some z7) : pm_Mt 74 d [.ref 467, .ref 339] (cl_h g0 g1 g2 g3 g4 (ct_e5 p5 t5 s5) g6 (ct_e7 p7 t7 s7) g8 g9 q) (.inl (none)) (cl_h g0 g1 g2 g3 g4 (ct_e5 p5 t5 s5) g6 (ct_e7 p7 t7 z7) g8 g9 q) := by
  refine pm_Mt.of (by decide) (by decide +kernel) rfl rfl ?_
  unfold f_X5_copyFrom at H
  refine pm_Wg.path (k := 12) (ds := []) (f' := (22, [some (.ref 467), some (.ref 339)], [.int ((cs_i s7 19 0 (s5.1 19 0)).1 19 0), .int 0, .ref 468, .int 0, .ref 340], cl_h g0 g1 g2 g3 g4 (ct_e5 p5 t5 s5) g6 (ct_e7 p7 t7 (cs_i s7 19 0 (s5.1 19 0))) g8 g9 q)) tk_X5_copyFrom (by omega) rfl trivial ?_
  exact ec_X5_copyFrom_c1 (by omega) H

def fc_X5_add_c7 (s5 : cs_S) (l1 : Int32) (l2 : Int32) (l3 : Int32) (l4 : Int32) (l5 : Int32) (l6 : Int32) (k0 : Int32) (k1 : Int32) : Option (Int32 × cs_S) :=
  (match pm_inb k1 400 with
  | false => none
  | true =>
  some (l6, (cs_a s5 26 k1 k0)))
def fc_X5_add_c6 (s5 : cs_S) (l1 : Int32) (l2 : Int32) (l3 : Int32) (l4 : Int32) (l5 : Int32) (l6 : Int32) (k0 : Int32) (k1 : Int32) : Option (Int32 × cs_S) :=
  (match pm_inb k1 400 with
  | false => none
  | true =>
  (fc_X5_add_c7 (cs_a s5 25 k1 k0) l1 l2 l3 l4 l5 l6 0 l6))
def fc_X5_add_c5 (s5 : cs_S) (l1 : Int32) (l2 : Int32) (l3 : Int32) (l4 : Int32) (l5 : Int32) (l6 : Int32) (k0 : Int32) (k1 : Int32) : Option (Int32 × cs_S) :=
  (match pm_inb k1 400 with
  | false => none
  | true =>
  (fc_X5_add_c6 (cs_a s5 24 k1 k0) l1 l2 l3 l4 l5 l6 (-1) l6))
def fc_X5_add_c4 (s5 : cs_S) (l1 : Int32) (l2 : Int32) (l3 : Int32) (l4 : Int32) (l5 : Int32) (l6 : Int32) (k0 : Int32) (k1 : Int32) : Option (Int32 × cs_S) :=
  (match pm_inb k1 400 with
  | false => none
  | true =>
  (fc_X5_add_c5 (cs_a s5 23 k1 k0) l1 l2 l3 l4 l5 l6 l5 l6))
def fc_X5_add_c3 (s5 : cs_S) (l1 : Int32) (l2 : Int32) (l3 : Int32) (l4 : Int32) (l5 : Int32) (l6 : Int32) (k0 : Int32) (k1 : Int32) : Option (Int32 × cs_S) :=
  (match pm_inb k1 400 with
  | false => none
  | true =>
  (fc_X5_add_c4 (cs_a s5 22 k1 k0) l1 l2 l3 l4 l5 l6 l4 l6))
def fc_X5_add_c2 (s5 : cs_S) (l1 : Int32) (l2 : Int32) (l3 : Int32) (l4 : Int32) (l5 : Int32) (l6 : Int32) (k0 : Int32) (k1 : Int32) : Option (Int32 × cs_S) :=
  (match pm_inb k1 400 with
  | false => none
  | true =>
  (if l3 = 0 then
   (fc_X5_add_c3 (cs_a s5 21 k1 k0) l1 l2 l3 l4 l5 l6 0 l6)
  else
   (fc_X5_add_c3 (cs_a s5 21 k1 k0) l1 l2 l3 l4 l5 l6 1 l6)))
def fc_X5_add_c1 (s5 : cs_S) (l1 : Int32) (l2 : Int32) (l3 : Int32) (l4 : Int32) (l5 : Int32) (l6 : Int32) (k0 : Int32) (k1 : Int32) : Option (Int32 × cs_S) :=
  (match pm_inb k1 400 with
  | false => none
  | true =>
  (fc_X5_add_c2 (cs_a s5 20 k1 k0) l1 l2 l3 l4 l5 l6 l2 l6))
def f_X5_add (s5 : cs_S) (a0 : Int32) (a1 : Int32) (a2 : Int32) (a3 : Int32) (a4 : Int32) : Option (Int32 × cs_S) :=
  (fc_X5_add_c1 (cs_i s5 19 0 ((s5.1 19 0) + 1)) a0 a1 a2 a3 a4 (s5.1 19 0) a0 (s5.1 19 0))
def tb_X5_add : List pm_I := [(0, .aload_n 0, 0, 0), (1, .getfield 9, 45, 0), (4, .istore 6, 0, 0), (6, .aload_n 0, 0, 0), (7, .dup, 0, 0), (8, .getfield 9, 45, 0), (11, .iconst 1, 3, 0), (12, .iadd, 0, 0), (13, .putfield 9, 45, 0), (16, .aload_n 0, 0, 0), (17, .getfield 15, 48, 0), (20, .iload 6, 0, 0), (22, .iload_n 1, 0, 0), (23, .iastore, 0, 0), (24, .aload_n 0, 0, 0), (25, .getfield 19, 50, 0), (28, .iload 6, 0, 0), (30, .iload_n 2, 0, 0), (31, .iastore, 0, 0), (32, .aload_n 0, 0, 0), (33, .getfield 22, 52, 0), (36, .iload 6, 0, 0), (38, .iload_n 3, 0, 0), (39, .ifCond .eq 7, 46, 0), (42, .iconst 1, 3, 0), (43, .goto 4, 47, 0), (46, .iconst 0, 2, 0), (47, .iastore, 0, 0), (48, .aload_n 0, 0, 0), (49, .getfield 25, 54, 0), (52, .iload 6, 0, 0), (54, .iload 4, 0, 0), (56, .iastore, 0, 0), (57, .aload_n 0, 0, 0), (58, .getfield 28, 56, 0), (61, .iload 6, 0, 0), (63, .iload 5, 0, 0), (65, .iastore, 0, 0), (66, .aload_n 0, 0, 0), (67, .getfield 31, 57, 0), (70, .iload 6, 0, 0), (72, .iconst (-1), 1, 0), (73, .iastore, 0, 0), (74, .aload_n 0, 0, 0), (75, .getfield 34, 59, 0), (78, .iload 6, 0, 0), (80, .iconst 0, 2, 0), (81, .iastore, 0, 0), (82, .iload 6, 0, 0), (84, .ireturn, 0, 0)]
theorem tk_X5_add : ∀ e ∈ tb_X5_add, pm_ck 75 e = true := List.all_eq_true.mp (by decide +kernel)
set_option maxRecDepth 20000 in
set_option maxHeartbeats 20000000 in
theorem ec_X5_add_c7 {d : Nat} (hd : 1 ≤ d) {g0 g1 g2 g3 g4 g6 g7 g8 g9 : List pm_E} {p5 t5 : Value} {q : Nat × Nat × Nat} {s5 : cs_S} {l1 : Int32} {l2 : Int32} {l3 : Int32} {l4 : Int32} {l5 : Int32} {l6 : Int32} {k0 : Int32} {k1 : Int32} {r : Int32} {z5 : cs_S} (H : fc_X5_add_c7 s5 l1 l2 l3 l4 l5 l6 k0 k1 = some (r, z5)) : pm_Wg 75 d (.inl (some (.int r))) (cl_h g0 g1 g2 g3 g4 (ct_e5 p5 t5 z5) g6 g7 g8 g9 q) (81, [some (.ref 339), some (.int l1), some (.int l2), some (.int l3), some (.int l4), some (.int l5), some (.int l6)], [.int k0, .int k1, .ref 346], cl_h g0 g1 g2 g3 g4 (ct_e5 p5 t5 s5) g6 g7 g8 g9 q) := by
  unfold fc_X5_add_c7 at H
  try dsimp only at H
  cases b8 : pm_inb k1 400 with
  | false => rw [b8] at H; cases H
  | true =>
   rw [b8] at H
   dsimp only at H
   have J := Option.some.inj H
   injection J with J0a J0z
   subst J0a
   subst J0z
   refine pm_Wg.path (k := 2) (ds := []) (f' := (84, [some (.ref 339), some (.int l1), some (.int l2), some (.int l3), some (.int l4), some (.int l5), some (.int l6)], [.int l6], cl_h g0 g1 g2 g3 g4 (ct_e5 p5 t5 (cs_a s5 26 k1 k0)) g6 g7 g8 g9 q)) tk_X5_add (by omega) rfl ⟨pm_inb_vp b8, trivial⟩ ?_
   exact pm_Wg.iret (pm_dec tk_X5_add rfl) rfl rfl
set_option maxRecDepth 20000 in
set_option maxHeartbeats 20000000 in
theorem ec_X5_add_c6 {d : Nat} (hd : 1 ≤ d) {g0 g1 g2 g3 g4 g6 g7 g8 g9 : List pm_E} {p5 t5 : Value} {q : Nat × Nat × Nat} {s5 : cs_S} {l1 : Int32} {l2 : Int32} {l3 : Int32} {l4 : Int32} {l5 : Int32} {l6 : Int32} {k0 : Int32} {k1 : Int32} {r : Int32} {z5 : cs_S} (H : fc_X5_add_c6 s5 l1 l2 l3 l4 l5 l6 k0 k1 = some (r, z5)) : pm_Wg 75 d (.inl (some (.int r))) (cl_h g0 g1 g2 g3 g4 (ct_e5 p5 t5 z5) g6 g7 g8 g9 q) (73, [some (.ref 339), some (.int l1), some (.int l2), some (.int l3), some (.int l4), some (.int l5), some (.int l6)], [.int k0, .int k1, .ref 345], cl_h g0 g1 g2 g3 g4 (ct_e5 p5 t5 s5) g6 g7 g8 g9 q) := by
  unfold fc_X5_add_c6 at H
  try dsimp only at H
  cases b7 : pm_inb k1 400 with
  | false => rw [b7] at H; cases H
  | true =>
   rw [b7] at H
   dsimp only at H
   refine pm_Wg.path (k := 5) (ds := []) (f' := (81, [some (.ref 339), some (.int l1), some (.int l2), some (.int l3), some (.int l4), some (.int l5), some (.int l6)], [.int 0, .int l6, .ref 346], cl_h g0 g1 g2 g3 g4 (ct_e5 p5 t5 (cs_a s5 25 k1 k0)) g6 g7 g8 g9 q)) tk_X5_add (by omega) rfl ⟨pm_inb_vp b7, trivial⟩ ?_
   exact ec_X5_add_c7 (by omega) H
set_option maxRecDepth 20000 in
set_option maxHeartbeats 20000000 in
theorem ec_X5_add_c5 {d : Nat} (hd : 1 ≤ d) {g0 g1 g2 g3 g4 g6 g7 g8 g9 : List pm_E} {p5 t5 : Value} {q : Nat × Nat × Nat} {s5 : cs_S} {l1 : Int32} {l2 : Int32} {l3 : Int32} {l4 : Int32} {l5 : Int32} {l6 : Int32} {k0 : Int32} {k1 : Int32} {r : Int32} {z5 : cs_S} (H : fc_X5_add_c5 s5 l1 l2 l3 l4 l5 l6 k0 k1 = some (r, z5)) : pm_Wg 75 d (.inl (some (.int r))) (cl_h g0 g1 g2 g3 g4 (ct_e5 p5 t5 z5) g6 g7 g8 g9 q) (65, [some (.ref 339), some (.int l1), some (.int l2), some (.int l3), some (.int l4), some (.int l5), some (.int l6)], [.int k0, .int k1, .ref 344], cl_h g0 g1 g2 g3 g4 (ct_e5 p5 t5 s5) g6 g7 g8 g9 q) := by
  unfold fc_X5_add_c5 at H
  try dsimp only at H
  cases b6 : pm_inb k1 400 with
  | false => rw [b6] at H; cases H
  | true =>
   rw [b6] at H
   dsimp only at H
   refine pm_Wg.path (k := 5) (ds := []) (f' := (73, [some (.ref 339), some (.int l1), some (.int l2), some (.int l3), some (.int l4), some (.int l5), some (.int l6)], [.int (-1), .int l6, .ref 345], cl_h g0 g1 g2 g3 g4 (ct_e5 p5 t5 (cs_a s5 24 k1 k0)) g6 g7 g8 g9 q)) tk_X5_add (by omega) rfl ⟨pm_inb_vp b6, trivial⟩ ?_
   exact ec_X5_add_c6 (by omega) H
set_option maxRecDepth 20000 in
set_option maxHeartbeats 20000000 in
theorem ec_X5_add_c4 {d : Nat} (hd : 1 ≤ d) {g0 g1 g2 g3 g4 g6 g7 g8 g9 : List pm_E} {p5 t5 : Value} {q : Nat × Nat × Nat} {s5 : cs_S} {l1 : Int32} {l2 : Int32} {l3 : Int32} {l4 : Int32} {l5 : Int32} {l6 : Int32} {k0 : Int32} {k1 : Int32} {r : Int32} {z5 : cs_S} (H : fc_X5_add_c4 s5 l1 l2 l3 l4 l5 l6 k0 k1 = some (r, z5)) : pm_Wg 75 d (.inl (some (.int r))) (cl_h g0 g1 g2 g3 g4 (ct_e5 p5 t5 z5) g6 g7 g8 g9 q) (56, [some (.ref 339), some (.int l1), some (.int l2), some (.int l3), some (.int l4), some (.int l5), some (.int l6)], [.int k0, .int k1, .ref 343], cl_h g0 g1 g2 g3 g4 (ct_e5 p5 t5 s5) g6 g7 g8 g9 q) := by
  unfold fc_X5_add_c4 at H
  try dsimp only at H
  cases b5 : pm_inb k1 400 with
  | false => rw [b5] at H; cases H
  | true =>
   rw [b5] at H
   dsimp only at H
   refine pm_Wg.path (k := 5) (ds := []) (f' := (65, [some (.ref 339), some (.int l1), some (.int l2), some (.int l3), some (.int l4), some (.int l5), some (.int l6)], [.int l5, .int l6, .ref 344], cl_h g0 g1 g2 g3 g4 (ct_e5 p5 t5 (cs_a s5 23 k1 k0)) g6 g7 g8 g9 q)) tk_X5_add (by omega) rfl ⟨pm_inb_vp b5, trivial⟩ ?_
   exact ec_X5_add_c5 (by omega) H
set_option maxRecDepth 20000 in
set_option maxHeartbeats 20000000 in
theorem ec_X5_add_c3 {d : Nat} (hd : 1 ≤ d) {g0 g1 g2 g3 g4 g6 g7 g8 g9 : List pm_E} {p5 t5 : Value} {q : Nat × Nat × Nat} {s5 : cs_S} {l1 : Int32} {l2 : Int32} {l3 : Int32} {l4 : Int32} {l5 : Int32} {l6 : Int32} {k0 : Int32} {k1 : Int32} {r : Int32} {z5 : cs_S} (H : fc_X5_add_c3 s5 l1 l2 l3 l4 l5 l6 k0 k1 = some (r, z5)) : pm_Wg 75 d (.inl (some (.int r))) (cl_h g0 g1 g2 g3 g4 (ct_e5 p5 t5 z5) g6 g7 g8 g9 q) (47, [some (.ref 339), some (.int l1), some (.int l2), some (.int l3), some (.int l4), some (.int l5), some (.int l6)], [.int k0, .int k1, .ref 342], cl_h g0 g1 g2 g3 g4 (ct_e5 p5 t5 s5) g6 g7 g8 g9 q) := by
  unfold fc_X5_add_c3 at H
  try dsimp only at H
  cases b4 : pm_inb k1 400 with
  | false => rw [b4] at H; cases H
  | true =>
   rw [b4] at H
   dsimp only at H
   refine pm_Wg.path (k := 5) (ds := []) (f' := (56, [some (.ref 339), some (.int l1), some (.int l2), some (.int l3), some (.int l4), some (.int l5), some (.int l6)], [.int l4, .int l6, .ref 343], cl_h g0 g1 g2 g3 g4 (ct_e5 p5 t5 (cs_a s5 22 k1 k0)) g6 g7 g8 g9 q)) tk_X5_add (by omega) rfl ⟨pm_inb_vp b4, trivial⟩ ?_
   exact ec_X5_add_c4 (by omega) H
set_option maxRecDepth 20000 in
set_option maxHeartbeats 20000000 in
theorem ec_X5_add_c2 {d : Nat} (hd : 1 ≤ d) {g0 g1 g2 g3 g4 g6 g7 g8 g9 : List pm_E} {p5 t5 : Value} {q : Nat × Nat × Nat} {s5 : cs_S} {l1 : Int32} {l2 : Int32} {l3 : Int32} {l4 : Int32} {l5 : Int32} {l6 : Int32} {k0 : Int32} {k1 : Int32} {r : Int32} {z5 : cs_S} (H : fc_X5_add_c2 s5 l1 l2 l3 l4 l5 l6 k0 k1 = some (r, z5)) : pm_Wg 75 d (.inl (some (.int r))) (cl_h g0 g1 g2 g3 g4 (ct_e5 p5 t5 z5) g6 g7 g8 g9 q) (31, [some (.ref 339), some (.int l1), some (.int l2), some (.int l3), some (.int l4), some (.int l5), some (.int l6)], [.int k0, .int k1, .ref 341], cl_h g0 g1 g2 g3 g4 (ct_e5 p5 t5 s5) g6 g7 g8 g9 q) := by
  unfold fc_X5_add_c2 at H
  try dsimp only at H
  cases b2 : pm_inb k1 400 with
  | false => rw [b2] at H; cases H
  | true =>
   rw [b2] at H
   dsimp only at H
   by_cases h3 : l3 = 0
   · rw [if_pos h3] at H
     refine pm_Wg.path (k := 7) (ds := [1]) (f' := (47, [some (.ref 339), some (.int l1), some (.int l2), some (.int l3), some (.int l4), some (.int l5), some (.int l6)], [.int 0, .int l6, .ref 342], cl_h g0 g1 g2 g3 g4 (ct_e5 p5 t5 (cs_a s5 21 k1 k0)) g6 g7 g8 g9 q)) tk_X5_add (by omega) rfl ⟨h3, pm_inb_vp b2, trivial⟩ ?_
     exact ec_X5_add_c3 (by omega) H
   · rw [if_neg h3] at H
     refine pm_Wg.path (k := 8) (ds := [0]) (f' := (47, [some (.ref 339), some (.int l1), some (.int l2), some (.int l3), some (.int l4), some (.int l5), some (.int l6)], [.int 1, .int l6, .ref 342], cl_h g0 g1 g2 g3 g4 (ct_e5 p5 t5 (cs_a s5 21 k1 k0)) g6 g7 g8 g9 q)) tk_X5_add (by omega) rfl ⟨h3, pm_inb_vp b2, trivial⟩ ?_
     exact ec_X5_add_c3 (by omega) H
set_option maxRecDepth 20000 in
set_option maxHeartbeats 20000000 in
theorem ec_X5_add_c1 {d : Nat} (hd : 1 ≤ d) {g0 g1 g2 g3 g4 g6 g7 g8 g9 : List pm_E} {p5 t5 : Value} {q : Nat × Nat × Nat} {s5 : cs_S} {l1 : Int32} {l2 : Int32} {l3 : Int32} {l4 : Int32} {l5 : Int32} {l6 : Int32} {k0 : Int32} {k1 : Int32} {r : Int32} {z5 : cs_S} (H : fc_X5_add_c1 s5 l1 l2 l3 l4 l5 l6 k0 k1 = some (r, z5)) : pm_Wg 75 d (.inl (some (.int r))) (cl_h g0 g1 g2 g3 g4 (ct_e5 p5 t5 z5) g6 g7 g8 g9 q) (23, [some (.ref 339), some (.int l1), some (.int l2), some (.int l3), some (.int l4), some (.int l5), some (.int l6)], [.int k0, .int k1, .ref 340], cl_h g0 g1 g2 g3 g4 (ct_e5 p5 t5 s5) g6 g7 g8 g9 q) := by
  unfold fc_X5_add_c1 at H
  try dsimp only at H
  cases b1 : pm_inb k1 400 with
  | false => rw [b1] at H; cases H
  | true =>
   rw [b1] at H
   dsimp only at H
   refine pm_Wg.path (k := 5) (ds := []) (f' := (31, [some (.ref 339), some (.int l1), some (.int l2), some (.int l3), some (.int l4), some (.int l5), some (.int l6)], [.int l2, .int l6, .ref 341], cl_h g0 g1 g2 g3 g4 (ct_e5 p5 t5 (cs_a s5 20 k1 k0)) g6 g7 g8 g9 q)) tk_X5_add (by omega) rfl ⟨pm_inb_vp b1, trivial⟩ ?_
   exact ec_X5_add_c2 (by omega) H
set_option maxRecDepth 20000 in
set_option maxHeartbeats 20000000 in
theorem e_X5_add {d : Nat} (hd : 1 ≤ d) {g0 g1 g2 g3 g4 g6 g7 g8 g9 : List pm_E} {p5 t5 : Value} {q : Nat × Nat × Nat} {s5 : cs_S} {a0 : Int32} {a1 : Int32} {a2 : Int32} {a3 : Int32} {a4 : Int32} {r : Int32} {z5 : cs_S} (H : f_X5_add s5 a0 a1 a2 a3 a4 = some (r, z5)) : pm_Mt 75 d [.ref 339, .int a0, .int a1, .int a2, .int a3, .int a4] (cl_h g0 g1 g2 g3 g4 (ct_e5 p5 t5 s5) g6 g7 g8 g9 q) (.inl (some (.int r))) (cl_h g0 g1 g2 g3 g4 (ct_e5 p5 t5 z5) g6 g7 g8 g9 q) := by
  refine pm_Mt.of (by decide) (by decide +kernel) rfl rfl ?_
  unfold f_X5_add at H
  refine pm_Wg.path (k := 13) (ds := []) (f' := (23, [some (.ref 339), some (.int a0), some (.int a1), some (.int a2), some (.int a3), some (.int a4), some (.int (s5.1 19 0))], [.int a0, .int (s5.1 19 0), .ref 340], cl_h g0 g1 g2 g3 g4 (ct_e5 p5 t5 (cs_i s5 19 0 ((s5.1 19 0) + 1))) g6 g7 g8 g9 q)) tk_X5_add (by omega) rfl trivial ?_
  exact ec_X5_add_c1 (by omega) H

def f_X5_tenantBehind (s5 : cs_S) (a0 : Int32) : Option (Int32) :=
  (match f_X3_isOfRebuild a0 with
  | none => none
  | some r1 =>
   (if r1 = 0 then
    (match f_X3_requestBehind a0 with
    | none => none
    | some r4 =>
     (match pm_inb r4 400 with
     | false => none
     | true =>
     some (s5.2.1 20 (Int32.toNatClampNeg r4))))
   else
    some 0))
def tb_X5_tenantBehind : List pm_I := [(0, .iload_n 1, 0, 0), (1, .invokestatic 61, 40, 0), (4, .ifCond .eq 7, 11, 0), (7, .iconst 0, 2, 0), (8, .goto 12, 20, 0), (11, .aload_n 0, 0, 0), (12, .getfield 15, 48, 0), (15, .iload_n 1, 0, 0), (16, .invokestatic 67, 42, 0), (19, .iaload, 0, 0), (20, .ireturn, 0, 0)]
theorem tk_X5_tenantBehind : ∀ e ∈ tb_X5_tenantBehind, pm_ck 76 e = true := List.all_eq_true.mp (by decide +kernel)
set_option maxRecDepth 20000 in
set_option maxHeartbeats 20000000 in
theorem e_X5_tenantBehind {d : Nat} (hd : 2 ≤ d) {g0 g1 g2 g3 g4 g6 g7 g8 g9 : List pm_E} {p5 t5 : Value} {q : Nat × Nat × Nat} {s5 : cs_S} {a0 : Int32} {r : Int32} (H : f_X5_tenantBehind s5 a0 = some r) : pm_Mt 76 d [.ref 339, .int a0] (cl_h g0 g1 g2 g3 g4 (ct_e5 p5 t5 s5) g6 g7 g8 g9 q) (.inl (some (.int r))) (cl_h g0 g1 g2 g3 g4 (ct_e5 p5 t5 s5) g6 g7 g8 g9 q) := by
  refine pm_Mt.of (by decide) (by decide +kernel) rfl rfl ?_
  obtain ⟨d, rfl⟩ : ∃ d', d = d' + 1 := ⟨d - 1, by omega⟩
  unfold f_X5_tenantBehind at H
  cases q2 : f_X3_isOfRebuild a0 with
  | none => rw [q2] at H; cases H
  | some r1 =>
   rw [q2] at H
   dsimp only at H
   refine pm_Wg.path (k := 1) (ds := []) (f' := (1, [some (.ref 339), some (.int a0)], [.int a0], cl_h g0 g1 g2 g3 g4 (ct_e5 p5 t5 s5) g6 g7 g8 g9 q)) tk_X5_tenantBehind (by omega) rfl trivial ?_
   refine pm_Wg.callS (m' := 45) (ix := 61) (rr := 40) (pl := 580) (As := [.int a0]) (S := []) (by decide) rfl (pm_dec tk_X5_tenantBehind rfl) rfl rfl rfl (Nat.le_of_ble_eq_true rfl) rfl (e_X3_isOfRebuild (by omega) q2) ?_
   by_cases h3 : r1 = 0
   · rw [if_pos h3] at H
     cases q5 : f_X3_requestBehind a0 with
     | none => rw [q5] at H; cases H
     | some r4 =>
      rw [q5] at H
      dsimp only at H
      refine pm_Wg.path (k := 4) (ds := [1]) (f' := (16, [some (.ref 339), some (.int a0)], [.int a0, .ref 340], cl_h g0 g1 g2 g3 g4 (ct_e5 p5 t5 s5) g6 g7 g8 g9 q)) tk_X5_tenantBehind (by omega) rfl ⟨h3, trivial⟩ ?_
      refine pm_Wg.callS (m' := 47) (ix := 67) (rr := 42) (pl := 586) (As := [.int a0]) (S := [.ref 340]) (by decide) rfl (pm_dec tk_X5_tenantBehind rfl) rfl rfl rfl (Nat.le_of_ble_eq_true rfl) rfl (e_X3_requestBehind (by omega) q5) ?_
      cases b6 : pm_inb r4 400 with
      | false => rw [b6] at H; cases H
      | true =>
       rw [b6] at H
       dsimp only at H
       have J := Option.some.inj H
       subst J
       refine pm_Wg.path (k := 1) (ds := []) (f' := (20, [some (.ref 339), some (.int a0)], [.int (s5.2.1 20 (Int32.toNatClampNeg r4))], cl_h g0 g1 g2 g3 g4 (ct_e5 p5 t5 s5) g6 g7 g8 g9 q)) tk_X5_tenantBehind (by omega) rfl ⟨pm_inb_vp b6, trivial⟩ ?_
       exact pm_Wg.iret (pm_dec tk_X5_tenantBehind rfl) rfl rfl
   · rw [if_neg h3] at H
     have J := Option.some.inj H
     subst J
     refine pm_Wg.path (k := 3) (ds := [0]) (f' := (20, [some (.ref 339), some (.int a0)], [.int 0], cl_h g0 g1 g2 g3 g4 (ct_e5 p5 t5 s5) g6 g7 g8 g9 q)) tk_X5_tenantBehind (by omega) rfl ⟨h3, trivial⟩ ?_
     exact pm_Wg.iret (pm_dec tk_X5_tenantBehind rfl) rfl rfl

def f_X5_stripeBehind (s5 : cs_S) (a0 : Int32) : Option (Int32) :=
  (match f_X3_isOfRebuild a0 with
  | none => none
  | some r1 =>
   (if r1 = 0 then
    (match f_X3_requestBehind a0 with
    | none => none
    | some r4 =>
     (match pm_inb r4 400 with
     | false => none
     | true =>
     some (s5.2.1 21 (Int32.toNatClampNeg r4))))
   else
    (match f_X3_rebuiltStripe a0 with
    | none => none
    | some r7 =>
     some r7)))
def tb_X5_stripeBehind : List pm_I := [(0, .iload_n 1, 0, 0), (1, .invokestatic 61, 40, 0), (4, .ifCond .eq 10, 14, 0), (7, .iload_n 1, 0, 0), (8, .invokestatic 71, 41, 0), (11, .goto 12, 23, 0), (14, .aload_n 0, 0, 0), (15, .getfield 19, 50, 0), (18, .iload_n 1, 0, 0), (19, .invokestatic 67, 42, 0), (22, .iaload, 0, 0), (23, .ireturn, 0, 0)]
theorem tk_X5_stripeBehind : ∀ e ∈ tb_X5_stripeBehind, pm_ck 77 e = true := List.all_eq_true.mp (by decide +kernel)
set_option maxRecDepth 20000 in
set_option maxHeartbeats 20000000 in
theorem e_X5_stripeBehind {d : Nat} (hd : 2 ≤ d) {g0 g1 g2 g3 g4 g6 g7 g8 g9 : List pm_E} {p5 t5 : Value} {q : Nat × Nat × Nat} {s5 : cs_S} {a0 : Int32} {r : Int32} (H : f_X5_stripeBehind s5 a0 = some r) : pm_Mt 77 d [.ref 339, .int a0] (cl_h g0 g1 g2 g3 g4 (ct_e5 p5 t5 s5) g6 g7 g8 g9 q) (.inl (some (.int r))) (cl_h g0 g1 g2 g3 g4 (ct_e5 p5 t5 s5) g6 g7 g8 g9 q) := by
  refine pm_Mt.of (by decide) (by decide +kernel) rfl rfl ?_
  obtain ⟨d, rfl⟩ : ∃ d', d = d' + 1 := ⟨d - 1, by omega⟩
  unfold f_X5_stripeBehind at H
  cases q2 : f_X3_isOfRebuild a0 with
  | none => rw [q2] at H; cases H
  | some r1 =>
   rw [q2] at H
   dsimp only at H
   refine pm_Wg.path (k := 1) (ds := []) (f' := (1, [some (.ref 339), some (.int a0)], [.int a0], cl_h g0 g1 g2 g3 g4 (ct_e5 p5 t5 s5) g6 g7 g8 g9 q)) tk_X5_stripeBehind (by omega) rfl trivial ?_
   refine pm_Wg.callS (m' := 45) (ix := 61) (rr := 40) (pl := 580) (As := [.int a0]) (S := []) (by decide) rfl (pm_dec tk_X5_stripeBehind rfl) rfl rfl rfl (Nat.le_of_ble_eq_true rfl) rfl (e_X3_isOfRebuild (by omega) q2) ?_
   by_cases h3 : r1 = 0
   · rw [if_pos h3] at H
     cases q5 : f_X3_requestBehind a0 with
     | none => rw [q5] at H; cases H
     | some r4 =>
      rw [q5] at H
      dsimp only at H
      refine pm_Wg.path (k := 4) (ds := [1]) (f' := (19, [some (.ref 339), some (.int a0)], [.int a0, .ref 341], cl_h g0 g1 g2 g3 g4 (ct_e5 p5 t5 s5) g6 g7 g8 g9 q)) tk_X5_stripeBehind (by omega) rfl ⟨h3, trivial⟩ ?_
      refine pm_Wg.callS (m' := 47) (ix := 67) (rr := 42) (pl := 586) (As := [.int a0]) (S := [.ref 341]) (by decide) rfl (pm_dec tk_X5_stripeBehind rfl) rfl rfl rfl (Nat.le_of_ble_eq_true rfl) rfl (e_X3_requestBehind (by omega) q5) ?_
      cases b6 : pm_inb r4 400 with
      | false => rw [b6] at H; cases H
      | true =>
       rw [b6] at H
       dsimp only at H
       have J := Option.some.inj H
       subst J
       refine pm_Wg.path (k := 1) (ds := []) (f' := (23, [some (.ref 339), some (.int a0)], [.int (s5.2.1 21 (Int32.toNatClampNeg r4))], cl_h g0 g1 g2 g3 g4 (ct_e5 p5 t5 s5) g6 g7 g8 g9 q)) tk_X5_stripeBehind (by omega) rfl ⟨pm_inb_vp b6, trivial⟩ ?_
       exact pm_Wg.iret (pm_dec tk_X5_stripeBehind rfl) rfl rfl
   · rw [if_neg h3] at H
     cases q8 : f_X3_rebuiltStripe a0 with
     | none => rw [q8] at H; cases H
     | some r7 =>
      rw [q8] at H
      dsimp only at H
      refine pm_Wg.path (k := 2) (ds := [0]) (f' := (8, [some (.ref 339), some (.int a0)], [.int a0], cl_h g0 g1 g2 g3 g4 (ct_e5 p5 t5 s5) g6 g7 g8 g9 q)) tk_X5_stripeBehind (by omega) rfl ⟨h3, trivial⟩ ?_
      refine pm_Wg.callS (m' := 46) (ix := 71) (rr := 41) (pl := 583) (As := [.int a0]) (S := []) (by decide) rfl (pm_dec tk_X5_stripeBehind rfl) rfl rfl rfl (Nat.le_of_ble_eq_true rfl) rfl (e_X3_rebuiltStripe (by omega) q8) ?_
      have J := Option.some.inj H
      subst J
      refine pm_Wg.path (k := 1) (ds := []) (f' := (23, [some (.ref 339), some (.int a0)], [.int r7], cl_h g0 g1 g2 g3 g4 (ct_e5 p5 t5 s5) g6 g7 g8 g9 q)) tk_X5_stripeBehind (by omega) rfl trivial ?_
      exact pm_Wg.iret (pm_dec tk_X5_stripeBehind rfl) rfl rfl

def fc_X5_end_c4 (s5 : cs_S) (l1 : Int32) (l2 : Int32) (l3 : Int32) (l4 : Int32) (k0 : Int32) (k1 : Int32) : Option (cs_S) :=
  (match pm_inb k1 6 with
  | false => none
  | true =>
  some (cs_a s5 30 k1 k0))
def fc_X5_end_c3 (s5 : cs_S) (l1 : Int32) (l2 : Int32) (l3 : Int32) (l4 : Int32) (k0 : Int32) (k1 : Int32) : Option (cs_S) :=
  (match pm_inb k1 6 with
  | false => none
  | true =>
  (match pm_inb l1 400 with
  | false => none
  | true =>
  (if ((cs_a s5 29 k1 k0).2.1 23 (Int32.toNatClampNeg l1)) = (-1) then
   some (cs_a s5 29 k1 k0)
  else
   (if l2 ≤ ((cs_a s5 29 k1 k0).2.1 23 (Int32.toNatClampNeg l1)) then
    some (cs_a s5 29 k1 k0)
   else
    (match pm_inb l3 6 with
    | false => none
    | true =>
    (fc_X5_end_c4 (cs_a s5 29 k1 k0) l1 l2 l3 l4 (((cs_a s5 29 k1 k0).2.1 30 (Int32.toNatClampNeg l3)) + 1) l3))))))
def fc_X5_end_c2 (s5 : cs_S) (l1 : Int32) (l2 : Int32) (l3 : Int32) (l4 : Int32) (k0 : Int32) (k1 : Int32) : Option (cs_S) :=
  (match pm_inb k1 6 with
  | false => none
  | true =>
  (match pm_inb l3 6 with
  | false => none
  | true =>
  (fc_X5_end_c3 (cs_a s5 28 k1 k0) l1 l2 l3 l4 (if ((cs_a s5 28 k1 k0).2.1 29 (Int32.toNatClampNeg l3)) < l4 then l4 else ((cs_a s5 28 k1 k0).2.1 29 (Int32.toNatClampNeg l3))) l3)))
def fc_X5_end_c1 (s5 : cs_S) (l1 : Int32) (l2 : Int32) (l3 : Int32) (l4 : Int32) (k0 : Int32) (k1 : Int32) : Option (cs_S) :=
  (match pm_inb k1 6 with
  | false => none
  | true =>
  (match pm_inb l3 6 with
  | false => none
  | true =>
  (fc_X5_end_c2 (cs_a s5 27 k1 k0) l1 l2 l3 l4 (((cs_a s5 27 k1 k0).2.1 28 (Int32.toNatClampNeg l3)) + l4) l3)))
def f_X5_end (s5 : cs_S) (a0 : Int32) (a1 : Int32) : Option (cs_S) :=
  (match pm_inb a0 400 with
  | false => none
  | true =>
  (match pm_inb (s5.2.1 20 (Int32.toNatClampNeg a0)) 6 with
  | false => none
  | true =>
  (fc_X5_end_c1 (cs_a s5 25 a0 a1) a0 a1 (s5.2.1 20 (Int32.toNatClampNeg a0)) (a1 - (s5.2.1 24 (Int32.toNatClampNeg a0))) (((cs_a s5 25 a0 a1).2.1 27 (Int32.toNatClampNeg (s5.2.1 20 (Int32.toNatClampNeg a0)))) + 1) (s5.2.1 20 (Int32.toNatClampNeg a0)))))
def tb_X5_end : List pm_I := [(0, .aload_n 0, 0, 0), (1, .getfield 15, 48, 0), (4, .iload_n 1, 0, 0), (5, .iaload, 0, 0), (6, .istore_n 3, 0, 0), (7, .iload_n 2, 0, 0), (8, .aload_n 0, 0, 0), (9, .getfield 28, 56, 0), (12, .iload_n 1, 0, 0), (13, .iaload, 0, 0), (14, .isub, 0, 0), (15, .istore 4, 0, 0), (17, .aload_n 0, 0, 0), (18, .getfield 31, 57, 0), (21, .iload_n 1, 0, 0), (22, .iload_n 2, 0, 0), (23, .iastore, 0, 0), (24, .aload_n 0, 0, 0), (25, .getfield 37, 62, 0), (28, .iload_n 3, 0, 0), (29, .dup2, 0, 0), (30, .iaload, 0, 0), (31, .iconst 1, 3, 0), (32, .iadd, 0, 0), (33, .iastore, 0, 0), (34, .aload_n 0, 0, 0), (35, .getfield 40, 64, 0), (38, .iload_n 3, 0, 0), (39, .dup2, 0, 0), (40, .iaload, 0, 0), (41, .iload 4, 0, 0), (43, .iadd, 0, 0), (44, .iastore, 0, 0), (45, .aload_n 0, 0, 0), (46, .getfield 43, 66, 0), (49, .iload_n 3, 0, 0), (50, .aload_n 0, 0, 0), (51, .getfield 43, 66, 0), (54, .iload_n 3, 0, 0), (55, .iaload, 0, 0), (56, .iload 4, 0, 0), (58, .invokestatic 78, 64, 2), (61, .iastore, 0, 0), (62, .aload_n 0, 0, 0), (63, .getfield 25, 54, 0), (66, .iload_n 1, 0, 0), (67, .iaload, 0, 0), (68, .iconst (-1), 1, 0), (69, .if_icmp .eq 23, 92, 0), (72, .iload_n 2, 0, 0), (73, .aload_n 0, 0, 0), (74, .getfield 25, 54, 0), (77, .iload_n 1, 0, 0), (78, .iaload, 0, 0), (79, .if_icmp .le 13, 92, 0), (82, .aload_n 0, 0, 0), (83, .getfield 46, 68, 0), (86, .iload_n 3, 0, 0), (87, .dup2, 0, 0), (88, .iaload, 0, 0), (89, .iconst 1, 3, 0), (90, .iadd, 0, 0), (91, .iastore, 0, 0), (92, .return_, 0, 0)]
theorem tk_X5_end : ∀ e ∈ tb_X5_end, pm_ck 79 e = true := List.all_eq_true.mp (by decide +kernel)
set_option maxRecDepth 20000 in
set_option maxHeartbeats 20000000 in
theorem ec_X5_end_c4 {d : Nat} (hd : 1 ≤ d) {g0 g1 g2 g3 g4 g6 g7 g8 g9 : List pm_E} {p5 t5 : Value} {q : Nat × Nat × Nat} {s5 : cs_S} {l1 : Int32} {l2 : Int32} {l3 : Int32} {l4 : Int32} {k0 : Int32} {k1 : Int32} {z5 : cs_S} (H : fc_X5_end_c4 s5 l1 l2 l3 l4 k0 k1 = some z5) : pm_Wg 79 d (.inl (none)) (cl_h g0 g1 g2 g3 g4 (ct_e5 p5 t5 z5) g6 g7 g8 g9 q) (91, [some (.ref 339), some (.int l1), some (.int l2), some (.int l3), some (.int l4)], [.int k0, .int k1, .ref 350], cl_h g0 g1 g2 g3 g4 (ct_e5 p5 t5 s5) g6 g7 g8 g9 q) := by
  unfold fc_X5_end_c4 at H
  try dsimp only at H
  cases b15 : pm_inb k1 6 with
  | false => rw [b15] at H; cases H
  | true =>
   rw [b15] at H
   dsimp only at H
   have J := Option.some.inj H
   subst J
   refine pm_Wg.path (k := 1) (ds := []) (f' := (92, [some (.ref 339), some (.int l1), some (.int l2), some (.int l3), some (.int l4)], [], cl_h g0 g1 g2 g3 g4 (ct_e5 p5 t5 (cs_a s5 30 k1 k0)) g6 g7 g8 g9 q)) tk_X5_end (by omega) rfl ⟨pm_inb_vp b15, trivial⟩ ?_
   exact pm_Wg.vret (pm_dec tk_X5_end rfl) rfl
set_option maxRecDepth 20000 in
set_option maxHeartbeats 20000000 in
theorem ec_X5_end_c3 {d : Nat} (hd : 1 ≤ d) {g0 g1 g2 g3 g4 g6 g7 g8 g9 : List pm_E} {p5 t5 : Value} {q : Nat × Nat × Nat} {s5 : cs_S} {l1 : Int32} {l2 : Int32} {l3 : Int32} {l4 : Int32} {k0 : Int32} {k1 : Int32} {z5 : cs_S} (H : fc_X5_end_c3 s5 l1 l2 l3 l4 k0 k1 = some z5) : pm_Wg 79 d (.inl (none)) (cl_h g0 g1 g2 g3 g4 (ct_e5 p5 t5 z5) g6 g7 g8 g9 q) (61, [some (.ref 339), some (.int l1), some (.int l2), some (.int l3), some (.int l4)], [.int k0, .int k1, .ref 349], cl_h g0 g1 g2 g3 g4 (ct_e5 p5 t5 s5) g6 g7 g8 g9 q) := by
  unfold fc_X5_end_c3 at H
  try dsimp only at H
  cases b9 : pm_inb k1 6 with
  | false => rw [b9] at H; cases H
  | true =>
   rw [b9] at H
   dsimp only at H
   cases b10 : pm_inb l1 400 with
   | false => rw [b10] at H; cases H
   | true =>
    rw [b10] at H
    dsimp only at H
    by_cases h11 : ((cs_a s5 29 k1 k0).2.1 23 (Int32.toNatClampNeg l1)) = (-1)
    · rw [if_pos h11] at H
      have J := Option.some.inj H
      subst J
      refine pm_Wg.path (k := 7) (ds := [1]) (f' := (92, [some (.ref 339), some (.int l1), some (.int l2), some (.int l3), some (.int l4)], [], cl_h g0 g1 g2 g3 g4 (ct_e5 p5 t5 (cs_a s5 29 k1 k0)) g6 g7 g8 g9 q)) tk_X5_end (by omega) rfl ⟨h11, pm_inb_vp b10, pm_inb_vp b9, trivial⟩ ?_
      exact pm_Wg.vret (pm_dec tk_X5_end rfl) rfl
    · rw [if_neg h11] at H
      by_cases h13 : l2 ≤ ((cs_a s5 29 k1 k0).2.1 23 (Int32.toNatClampNeg l1))
      · rw [if_pos h13] at H
        have J := Option.some.inj H
        subst J
        refine pm_Wg.path (k := 13) (ds := [0, 1]) (f' := (92, [some (.ref 339), some (.int l1), some (.int l2), some (.int l3), some (.int l4)], [], cl_h g0 g1 g2 g3 g4 (ct_e5 p5 t5 (cs_a s5 29 k1 k0)) g6 g7 g8 g9 q)) tk_X5_end (by omega) rfl ⟨h13, pm_inb_vp b10, h11, pm_inb_vp b10, pm_inb_vp b9, trivial⟩ ?_
        exact pm_Wg.vret (pm_dec tk_X5_end rfl) rfl
      · rw [if_neg h13] at H
        cases b14 : pm_inb l3 6 with
        | false => rw [b14] at H; cases H
        | true =>
         rw [b14] at H
         dsimp only at H
         refine pm_Wg.path (k := 20) (ds := [0, 0]) (f' := (91, [some (.ref 339), some (.int l1), some (.int l2), some (.int l3), some (.int l4)], [.int (((cs_a s5 29 k1 k0).2.1 30 (Int32.toNatClampNeg l3)) + 1), .int l3, .ref 350], cl_h g0 g1 g2 g3 g4 (ct_e5 p5 t5 (cs_a s5 29 k1 k0)) g6 g7 g8 g9 q)) tk_X5_end (by omega) rfl ⟨pm_inb_vp b14, h13, pm_inb_vp b10, h11, pm_inb_vp b10, pm_inb_vp b9, trivial⟩ ?_
         exact ec_X5_end_c4 (by omega) H
set_option maxRecDepth 20000 in
set_option maxHeartbeats 20000000 in
theorem ec_X5_end_c2 {d : Nat} (hd : 1 ≤ d) {g0 g1 g2 g3 g4 g6 g7 g8 g9 : List pm_E} {p5 t5 : Value} {q : Nat × Nat × Nat} {s5 : cs_S} {l1 : Int32} {l2 : Int32} {l3 : Int32} {l4 : Int32} {k0 : Int32} {k1 : Int32} {z5 : cs_S} (H : fc_X5_end_c2 s5 l1 l2 l3 l4 k0 k1 = some z5) : pm_Wg 79 d (.inl (none)) (cl_h g0 g1 g2 g3 g4 (ct_e5 p5 t5 z5) g6 g7 g8 g9 q) (44, [some (.ref 339), some (.int l1), some (.int l2), some (.int l3), some (.int l4)], [.int k0, .int k1, .ref 348], cl_h g0 g1 g2 g3 g4 (ct_e5 p5 t5 s5) g6 g7 g8 g9 q) := by
  unfold fc_X5_end_c2 at H
  try dsimp only at H
  cases b7 : pm_inb k1 6 with
  | false => rw [b7] at H; cases H
  | true =>
   rw [b7] at H
   dsimp only at H
   cases b8 : pm_inb l3 6 with
   | false => rw [b8] at H; cases H
   | true =>
    rw [b8] at H
    dsimp only at H
    refine pm_Wg.path (k := 10) (ds := []) (f' := (61, [some (.ref 339), some (.int l1), some (.int l2), some (.int l3), some (.int l4)], [.int (if ((cs_a s5 28 k1 k0).2.1 29 (Int32.toNatClampNeg l3)) < l4 then l4 else ((cs_a s5 28 k1 k0).2.1 29 (Int32.toNatClampNeg l3))), .int l3, .ref 349], cl_h g0 g1 g2 g3 g4 (ct_e5 p5 t5 (cs_a s5 28 k1 k0)) g6 g7 g8 g9 q)) tk_X5_end (by omega) rfl ⟨pm_inb_vp b8, pm_inb_vp b7, trivial⟩ ?_
    exact ec_X5_end_c3 (by omega) H
set_option maxRecDepth 20000 in
set_option maxHeartbeats 20000000 in
theorem ec_X5_end_c1 {d : Nat} (hd : 1 ≤ d) {g0 g1 g2 g3 g4 g6 g7 g8 g9 : List pm_E} {p5 t5 : Value} {q : Nat × Nat × Nat} {s5 : cs_S} {l1 : Int32} {l2 : Int32} {l3 : Int32} {l4 : Int32} {k0 : Int32} {k1 : Int32} {z5 : cs_S} (H : fc_X5_end_c1 s5 l1 l2 l3 l4 k0 k1 = some z5) : pm_Wg 79 d (.inl (none)) (cl_h g0 g1 g2 g3 g4 (ct_e5 p5 t5 z5) g6 g7 g8 g9 q) (33, [some (.ref 339), some (.int l1), some (.int l2), some (.int l3), some (.int l4)], [.int k0, .int k1, .ref 347], cl_h g0 g1 g2 g3 g4 (ct_e5 p5 t5 s5) g6 g7 g8 g9 q) := by
  unfold fc_X5_end_c1 at H
  try dsimp only at H
  cases b5 : pm_inb k1 6 with
  | false => rw [b5] at H; cases H
  | true =>
   rw [b5] at H
   dsimp only at H
   cases b6 : pm_inb l3 6 with
   | false => rw [b6] at H; cases H
   | true =>
    rw [b6] at H
    dsimp only at H
    refine pm_Wg.path (k := 8) (ds := []) (f' := (44, [some (.ref 339), some (.int l1), some (.int l2), some (.int l3), some (.int l4)], [.int (((cs_a s5 27 k1 k0).2.1 28 (Int32.toNatClampNeg l3)) + l4), .int l3, .ref 348], cl_h g0 g1 g2 g3 g4 (ct_e5 p5 t5 (cs_a s5 27 k1 k0)) g6 g7 g8 g9 q)) tk_X5_end (by omega) rfl ⟨pm_inb_vp b6, pm_inb_vp b5, trivial⟩ ?_
    exact ec_X5_end_c2 (by omega) H
set_option maxRecDepth 20000 in
set_option maxHeartbeats 20000000 in
theorem e_X5_end {d : Nat} (hd : 1 ≤ d) {g0 g1 g2 g3 g4 g6 g7 g8 g9 : List pm_E} {p5 t5 : Value} {q : Nat × Nat × Nat} {s5 : cs_S} {a0 : Int32} {a1 : Int32} {z5 : cs_S} (H : f_X5_end s5 a0 a1 = some z5) : pm_Mt 79 d [.ref 339, .int a0, .int a1] (cl_h g0 g1 g2 g3 g4 (ct_e5 p5 t5 s5) g6 g7 g8 g9 q) (.inl (none)) (cl_h g0 g1 g2 g3 g4 (ct_e5 p5 t5 z5) g6 g7 g8 g9 q) := by
  refine pm_Mt.of (by decide) (by decide +kernel) rfl rfl ?_
  unfold f_X5_end at H
  cases b1 : pm_inb a0 400 with
  | false => rw [b1] at H; cases H
  | true =>
   rw [b1] at H
   dsimp only at H
   cases b4 : pm_inb (s5.2.1 20 (Int32.toNatClampNeg a0)) 6 with
   | false => rw [b4] at H; cases H
   | true =>
    rw [b4] at H
    dsimp only at H
    refine pm_Wg.path (k := 24) (ds := []) (f' := (33, [some (.ref 339), some (.int a0), some (.int a1), some (.int (s5.2.1 20 (Int32.toNatClampNeg a0))), some (.int (a1 - (s5.2.1 24 (Int32.toNatClampNeg a0))))], [.int (((cs_a s5 25 a0 a1).2.1 27 (Int32.toNatClampNeg (s5.2.1 20 (Int32.toNatClampNeg a0)))) + 1), .int (s5.2.1 20 (Int32.toNatClampNeg a0)), .ref 347], cl_h g0 g1 g2 g3 g4 (ct_e5 p5 t5 (cs_a s5 25 a0 a1)) g6 g7 g8 g9 q)) tk_X5_end (by omega) rfl ⟨pm_inb_vp b4, pm_inb_vp b1, pm_inb_vp b1, pm_inb_vp b1, trivial⟩ ?_
    exact ec_X5_end_c1 (by omega) H

def lb_X6_append_3 (x : cs_S × Int32 × Int32) : Option ((cs_S × Int32 × Int32) ⊕ (cs_S)) := match x with
  | (s0, l1, l2) =>
   (if l2 < 0 then
    some (.inr s0)
   else
    (if 800 ≤ (s0.1 1 1) then
     some (.inr s0)
    else
     (match pm_inb (s0.1 1 1) 800 with
     | false => none
     | true =>
     some (.inl ((cs_i (cs_a s0 2 (s0.1 1 1) (vp_nar .byte (Int8.toInt32 (Int32.toInt8 ((Int32.toUInt32 l1 >>> (Int32.toUInt32 l2 &&& Int32.toUInt32 31)).toInt32))))) 1 1 (((cs_a s0 2 (s0.1 1 1) (vp_nar .byte (Int8.toInt32 (Int32.toInt8 ((Int32.toUInt32 l1 >>> (Int32.toUInt32 l2 &&& Int32.toUInt32 31)).toInt32))))).1 1 1) + 1)), l1, (l2 + (-8)))))))
def f_X6_append (s0 : cs_S) (a0 : Int32) : Option (cs_S) :=
  (pm_loop pm_fu lb_X6_append_3 (s0, a0, 24))
def tb_X6_append : List pm_I := [(0, .bipush 24, 16, 0), (2, .istore_n 2, 0, 0), (3, .iload_n 2, 0, 0), (4, .ifCond .lt 42, 46, 0), (7, .aload_n 0, 0, 0), (8, .getfield 15, 1, 0), (11, .sipush 800, 38, 0), (14, .if_icmp .ge 32, 46, 0), (17, .aload_n 0, 0, 0), (18, .getfield 9, 0, 0), (21, .aload_n 0, 0, 0), (22, .getfield 15, 1, 0), (25, .iload_n 1, 0, 0), (26, .iload_n 2, 0, 0), (27, .iushr, 0, 0), (28, .i2b, 0, 0), (29, .bastore, 0, 0), (30, .aload_n 0, 0, 0), (31, .dup, 0, 0), (32, .getfield 15, 1, 0), (35, .iconst 1, 3, 0), (36, .iadd, 0, 0), (37, .putfield 15, 1, 0), (40, .iinc 2 (-8), 0, 0), (43, .goto (-40), 3, 0), (46, .return_, 0, 0)]
theorem tk_X6_append : ∀ e ∈ tb_X6_append, pm_ck 81 e = true := List.all_eq_true.mp (by decide +kernel)
set_option maxRecDepth 20000 in
set_option maxHeartbeats 40000000 in
theorem ll_X6_append_3 {d : Nat} (hd : 1 ≤ d) {g1 g2 g3 g4 g5 g6 g7 g8 g9 : List pm_E} {v1 v2 v3 : Value} {q : Nat × Nat × Nat} {z0 : cs_S} (P : cs_S → Prop) (K0 : ∀ e : cs_S, P (e) → e = z0) : ∀ (n : Nat) (s0 : cs_S) (l1 : Int32) (l2 : Int32) (e : cs_S), pm_loop n lb_X6_append_3 (s0, l1, l2) = some e → P e → pm_Wg 81 d (.inl (none)) (cl_h (ct_x v1 v2 v3 z0) g1 g2 g3 g4 g5 g6 g7 g8 g9 q) (3, [some (.ref 1), some (.int l1), some (.int l2)], [], cl_h (ct_x v1 v2 v3 s0) g1 g2 g3 g4 g5 g6 g7 g8 g9 q) := by
  intro n
  induction n with
  | zero => intro s0 l1 l2 e H; cases H
  | succ n ih =>
    intro s0 l1 l2 e H hPe
    have H : pm_lst (pm_loop n lb_X6_append_3) (lb_X6_append_3 (s0, l1, l2)) = some e := H
    generalize pm_loop n lb_X6_append_3 = LB at H ih
    unfold lb_X6_append_3 at H
    try dsimp only at H
    by_cases h1 : l2 < 0
    · rw [if_pos h1] at H
      have He := Option.some.inj H
      subst He
      have J := K0 _ hPe
      subst J
      refine pm_Wg.path (k := 2) (ds := [1]) (f' := (46, [some (.ref 1), some (.int l1), some (.int l2)], [], cl_h (ct_x v1 v2 v3 s0) g1 g2 g3 g4 g5 g6 g7 g8 g9 q)) tk_X6_append (by omega) rfl ⟨h1, trivial⟩ ?_
      exact pm_Wg.vret (pm_dec tk_X6_append rfl) rfl
    · rw [if_neg h1] at H
      by_cases h2 : 800 ≤ (s0.1 1 1)
      · rw [if_pos h2] at H
        have He := Option.some.inj H
        subst He
        have J := K0 _ hPe
        subst J
        refine pm_Wg.path (k := 6) (ds := [0, 1]) (f' := (46, [some (.ref 1), some (.int l1), some (.int l2)], [], cl_h (ct_x v1 v2 v3 s0) g1 g2 g3 g4 g5 g6 g7 g8 g9 q)) tk_X6_append (by omega) rfl ⟨h2, h1, trivial⟩ ?_
        exact pm_Wg.vret (pm_dec tk_X6_append rfl) rfl
      · rw [if_neg h2] at H
        cases b3 : pm_inb (s0.1 1 1) 800 with
        | false => rw [b3] at H; cases H
        | true =>
         rw [b3] at H
         dsimp only at H
         refine pm_Wg.path (k := 23) (ds := [0, 0]) (f' := (3, [some (.ref 1), some (.int l1), some (.int (l2 + (-8)))], [], cl_h (ct_x v1 v2 v3 (cs_i (cs_a s0 2 (s0.1 1 1) (vp_nar .byte (Int8.toInt32 (Int32.toInt8 ((Int32.toUInt32 l1 >>> (Int32.toUInt32 l2 &&& Int32.toUInt32 31)).toInt32))))) 1 1 (((cs_a s0 2 (s0.1 1 1) (vp_nar .byte (Int8.toInt32 (Int32.toInt8 ((Int32.toUInt32 l1 >>> (Int32.toUInt32 l2 &&& Int32.toUInt32 31)).toInt32))))).1 1 1) + 1))) g1 g2 g3 g4 g5 g6 g7 g8 g9 q)) tk_X6_append (by omega) rfl ⟨pm_inb_vp b3, h2, h1, trivial⟩ ?_
         exact ih _ _ _ e H hPe
set_option maxRecDepth 20000 in
set_option maxHeartbeats 20000000 in
theorem e_X6_append {d : Nat} (hd : 1 ≤ d) {g1 g2 g3 g4 g5 g6 g7 g8 g9 : List pm_E} {v1 v2 v3 : Value} {q : Nat × Nat × Nat} {s0 : cs_S} {a0 : Int32} {z0 : cs_S} (H : f_X6_append s0 a0 = some z0) : pm_Mt 81 d [.ref 1, .int a0] (cl_h (ct_x v1 v2 v3 s0) g1 g2 g3 g4 g5 g6 g7 g8 g9 q) (.inl (none)) (cl_h (ct_x v1 v2 v3 z0) g1 g2 g3 g4 g5 g6 g7 g8 g9 q) := by
  refine pm_Mt.of (by decide) (by decide +kernel) rfl rfl ?_
  unfold f_X6_append at H
  refine pm_Wg.path (k := 2) (ds := []) (f' := (3, [some (.ref 1), some (.int a0), some (.int 24)], [], cl_h (ct_x v1 v2 v3 s0) g1 g2 g3 g4 g5 g6 g7 g8 g9 q)) tk_X6_append (by omega) rfl trivial ?_
  exact ll_X6_append_3 (by omega) (fun e => e = z0) (fun e he => he) pm_fu _ _ _ _ H rfl

def f_X6_kindOf (a0 : Int32) : Option (Int32) :=
  (if a0 < 97 then
   (if a0 < 48 then
    (if a0 = 32 then
     some 2
    else
     (if a0 = 10 then
      some 2
     else
      (if a0 = 59 then
       some 5
      else
       some 1)))
   else
    (if 57 < a0 then
     (if a0 = 32 then
      some 2
     else
      (if a0 = 10 then
       some 2
      else
       (if a0 = 59 then
        some 5
       else
        some 1)))
    else
     some 4))
  else
   (if 122 < a0 then
    (if a0 < 48 then
     (if a0 = 32 then
      some 2
     else
      (if a0 = 10 then
       some 2
      else
       (if a0 = 59 then
        some 5
       else
        some 1)))
    else
     (if 57 < a0 then
      (if a0 = 32 then
       some 2
      else
       (if a0 = 10 then
        some 2
       else
        (if a0 = 59 then
         some 5
        else
         some 1)))
     else
      some 4))
   else
    some 3))
def tb_X6_kindOf : List pm_I := [(0, .iload_n 0, 0, 0), (1, .bipush 97, 27, 0), (3, .if_icmp .lt 11, 14, 0), (6, .iload_n 0, 0, 0), (7, .bipush 122, 30, 0), (9, .if_icmp .gt 5, 14, 0), (12, .iconst 3, 5, 0), (13, .ireturn, 0, 0), (14, .iload_n 0, 0, 0), (15, .bipush 48, 21, 0), (17, .if_icmp .lt 11, 28, 0), (20, .iload_n 0, 0, 0), (21, .bipush 57, 23, 0), (23, .if_icmp .gt 5, 28, 0), (26, .iconst 4, 6, 0), (27, .ireturn, 0, 0), (28, .iload_n 0, 0, 0), (29, .bipush 32, 18, 0), (31, .if_icmp .eq 9, 40, 0), (34, .iload_n 0, 0, 0), (35, .bipush 10, 12, 0), (37, .if_icmp .ne 5, 42, 0), (40, .iconst 2, 4, 0), (41, .ireturn, 0, 0), (42, .iload_n 0, 0, 0), (43, .bipush 59, 24, 0), (45, .if_icmp .ne 7, 52, 0), (48, .iconst 5, 7, 0), (49, .goto 4, 53, 0), (52, .iconst 1, 3, 0), (53, .ireturn, 0, 0)]
theorem tk_X6_kindOf : ∀ e ∈ tb_X6_kindOf, pm_ck 83 e = true := List.all_eq_true.mp (by decide +kernel)
set_option maxRecDepth 20000 in
set_option maxHeartbeats 20000000 in
theorem e_X6_kindOf {d : Nat} (hd : 1 ≤ d) {g0 g1 g2 g3 g4 g5 g6 g7 g8 g9 : List pm_E} {q : Nat × Nat × Nat} {a0 : Int32} {r : Int32} (H : f_X6_kindOf a0 = some r) : pm_Mt 83 d [.int a0] (cl_h g0 g1 g2 g3 g4 g5 g6 g7 g8 g9 q) (.inl (some (.int r))) (cl_h g0 g1 g2 g3 g4 g5 g6 g7 g8 g9 q) := by
  refine pm_Mt.of (by decide) (by decide +kernel) rfl rfl ?_
  unfold f_X6_kindOf at H
  by_cases h1 : a0 < 97
  · rw [if_pos h1] at H
    by_cases h2 : a0 < 48
    · rw [if_pos h2] at H
      by_cases h3 : a0 = 32
      · rw [if_pos h3] at H
        have J := Option.some.inj H
        subst J
        refine pm_Wg.path (k := 10) (ds := [1, 1, 1]) (f' := (41, [some (.int a0)], [.int 2], cl_h g0 g1 g2 g3 g4 g5 g6 g7 g8 g9 q)) tk_X6_kindOf (by omega) rfl ⟨h3, h2, h1, trivial⟩ ?_
        exact pm_Wg.iret (pm_dec tk_X6_kindOf rfl) rfl rfl
      · rw [if_neg h3] at H
        by_cases h4 : a0 = 10
        · rw [if_pos h4] at H
          have J := Option.some.inj H
          subst J
          refine pm_Wg.path (k := 13) (ds := [1, 1, 0, 0]) (f' := (41, [some (.int a0)], [.int 2], cl_h g0 g1 g2 g3 g4 g5 g6 g7 g8 g9 q)) tk_X6_kindOf (by omega) rfl ⟨h4, h3, h2, h1, trivial⟩ ?_
          exact pm_Wg.iret (pm_dec tk_X6_kindOf rfl) rfl rfl
        · rw [if_neg h4] at H
          by_cases h5 : a0 = 59
          · rw [if_pos h5] at H
            have J := Option.some.inj H
            subst J
            refine pm_Wg.path (k := 17) (ds := [1, 1, 0, 1, 0]) (f' := (53, [some (.int a0)], [.int 5], cl_h g0 g1 g2 g3 g4 g5 g6 g7 g8 g9 q)) tk_X6_kindOf (by omega) rfl ⟨h5, h4, h3, h2, h1, trivial⟩ ?_
            exact pm_Wg.iret (pm_dec tk_X6_kindOf rfl) rfl rfl
          · rw [if_neg h5] at H
            have J := Option.some.inj H
            subst J
            refine pm_Wg.path (k := 16) (ds := [1, 1, 0, 1, 1]) (f' := (53, [some (.int a0)], [.int 1], cl_h g0 g1 g2 g3 g4 g5 g6 g7 g8 g9 q)) tk_X6_kindOf (by omega) rfl ⟨h5, h4, h3, h2, h1, trivial⟩ ?_
            exact pm_Wg.iret (pm_dec tk_X6_kindOf rfl) rfl rfl
    · rw [if_neg h2] at H
      by_cases h6 : 57 < a0
      · rw [if_pos h6] at H
        by_cases h7 : a0 = 32
        · rw [if_pos h7] at H
          have J := Option.some.inj H
          subst J
          refine pm_Wg.path (k := 13) (ds := [1, 0, 1, 1]) (f' := (41, [some (.int a0)], [.int 2], cl_h g0 g1 g2 g3 g4 g5 g6 g7 g8 g9 q)) tk_X6_kindOf (by omega) rfl ⟨h7, h6, h2, h1, trivial⟩ ?_
          exact pm_Wg.iret (pm_dec tk_X6_kindOf rfl) rfl rfl
        · rw [if_neg h7] at H
          by_cases h8 : a0 = 10
          · rw [if_pos h8] at H
            have J := Option.some.inj H
            subst J
            refine pm_Wg.path (k := 16) (ds := [1, 0, 1, 0, 0]) (f' := (41, [some (.int a0)], [.int 2], cl_h g0 g1 g2 g3 g4 g5 g6 g7 g8 g9 q)) tk_X6_kindOf (by omega) rfl ⟨h8, h7, h6, h2, h1, trivial⟩ ?_
            exact pm_Wg.iret (pm_dec tk_X6_kindOf rfl) rfl rfl
          · rw [if_neg h8] at H
            by_cases h9 : a0 = 59
            · rw [if_pos h9] at H
              have J := Option.some.inj H
              subst J
              refine pm_Wg.path (k := 20) (ds := [1, 0, 1, 0, 1, 0]) (f' := (53, [some (.int a0)], [.int 5], cl_h g0 g1 g2 g3 g4 g5 g6 g7 g8 g9 q)) tk_X6_kindOf (by omega) rfl ⟨h9, h8, h7, h6, h2, h1, trivial⟩ ?_
              exact pm_Wg.iret (pm_dec tk_X6_kindOf rfl) rfl rfl
            · rw [if_neg h9] at H
              have J := Option.some.inj H
              subst J
              refine pm_Wg.path (k := 19) (ds := [1, 0, 1, 0, 1, 1]) (f' := (53, [some (.int a0)], [.int 1], cl_h g0 g1 g2 g3 g4 g5 g6 g7 g8 g9 q)) tk_X6_kindOf (by omega) rfl ⟨h9, h8, h7, h6, h2, h1, trivial⟩ ?_
              exact pm_Wg.iret (pm_dec tk_X6_kindOf rfl) rfl rfl
      · rw [if_neg h6] at H
        have J := Option.some.inj H
        subst J
        refine pm_Wg.path (k := 10) (ds := [1, 0, 0]) (f' := (27, [some (.int a0)], [.int 4], cl_h g0 g1 g2 g3 g4 g5 g6 g7 g8 g9 q)) tk_X6_kindOf (by omega) rfl ⟨h6, h2, h1, trivial⟩ ?_
        exact pm_Wg.iret (pm_dec tk_X6_kindOf rfl) rfl rfl
  · rw [if_neg h1] at H
    by_cases h10 : 122 < a0
    · rw [if_pos h10] at H
      by_cases h11 : a0 < 48
      · rw [if_pos h11] at H
        by_cases h12 : a0 = 32
        · rw [if_pos h12] at H
          have J := Option.some.inj H
          subst J
          refine pm_Wg.path (k := 13) (ds := [0, 1, 1, 1]) (f' := (41, [some (.int a0)], [.int 2], cl_h g0 g1 g2 g3 g4 g5 g6 g7 g8 g9 q)) tk_X6_kindOf (by omega) rfl ⟨h12, h11, h10, h1, trivial⟩ ?_
          exact pm_Wg.iret (pm_dec tk_X6_kindOf rfl) rfl rfl
        · rw [if_neg h12] at H
          by_cases h13 : a0 = 10
          · rw [if_pos h13] at H
            have J := Option.some.inj H
            subst J
            refine pm_Wg.path (k := 16) (ds := [0, 1, 1, 0, 0]) (f' := (41, [some (.int a0)], [.int 2], cl_h g0 g1 g2 g3 g4 g5 g6 g7 g8 g9 q)) tk_X6_kindOf (by omega) rfl ⟨h13, h12, h11, h10, h1, trivial⟩ ?_
            exact pm_Wg.iret (pm_dec tk_X6_kindOf rfl) rfl rfl
          · rw [if_neg h13] at H
            by_cases h14 : a0 = 59
            · rw [if_pos h14] at H
              have J := Option.some.inj H
              subst J
              refine pm_Wg.path (k := 20) (ds := [0, 1, 1, 0, 1, 0]) (f' := (53, [some (.int a0)], [.int 5], cl_h g0 g1 g2 g3 g4 g5 g6 g7 g8 g9 q)) tk_X6_kindOf (by omega) rfl ⟨h14, h13, h12, h11, h10, h1, trivial⟩ ?_
              exact pm_Wg.iret (pm_dec tk_X6_kindOf rfl) rfl rfl
            · rw [if_neg h14] at H
              have J := Option.some.inj H
              subst J
              refine pm_Wg.path (k := 19) (ds := [0, 1, 1, 0, 1, 1]) (f' := (53, [some (.int a0)], [.int 1], cl_h g0 g1 g2 g3 g4 g5 g6 g7 g8 g9 q)) tk_X6_kindOf (by omega) rfl ⟨h14, h13, h12, h11, h10, h1, trivial⟩ ?_
              exact pm_Wg.iret (pm_dec tk_X6_kindOf rfl) rfl rfl
      · rw [if_neg h11] at H
        by_cases h15 : 57 < a0
        · rw [if_pos h15] at H
          by_cases h16 : a0 = 32
          · rw [if_pos h16] at H
            have J := Option.some.inj H
            subst J
            refine pm_Wg.path (k := 16) (ds := [0, 1, 0, 1, 1]) (f' := (41, [some (.int a0)], [.int 2], cl_h g0 g1 g2 g3 g4 g5 g6 g7 g8 g9 q)) tk_X6_kindOf (by omega) rfl ⟨h16, h15, h11, h10, h1, trivial⟩ ?_
            exact pm_Wg.iret (pm_dec tk_X6_kindOf rfl) rfl rfl
          · rw [if_neg h16] at H
            by_cases h17 : a0 = 10
            · rw [if_pos h17] at H
              have J := Option.some.inj H
              subst J
              refine pm_Wg.path (k := 19) (ds := [0, 1, 0, 1, 0, 0]) (f' := (41, [some (.int a0)], [.int 2], cl_h g0 g1 g2 g3 g4 g5 g6 g7 g8 g9 q)) tk_X6_kindOf (by omega) rfl ⟨h17, h16, h15, h11, h10, h1, trivial⟩ ?_
              exact pm_Wg.iret (pm_dec tk_X6_kindOf rfl) rfl rfl
            · rw [if_neg h17] at H
              by_cases h18 : a0 = 59
              · rw [if_pos h18] at H
                have J := Option.some.inj H
                subst J
                refine pm_Wg.path (k := 23) (ds := [0, 1, 0, 1, 0, 1, 0]) (f' := (53, [some (.int a0)], [.int 5], cl_h g0 g1 g2 g3 g4 g5 g6 g7 g8 g9 q)) tk_X6_kindOf (by omega) rfl ⟨h18, h17, h16, h15, h11, h10, h1, trivial⟩ ?_
                exact pm_Wg.iret (pm_dec tk_X6_kindOf rfl) rfl rfl
              · rw [if_neg h18] at H
                have J := Option.some.inj H
                subst J
                refine pm_Wg.path (k := 22) (ds := [0, 1, 0, 1, 0, 1, 1]) (f' := (53, [some (.int a0)], [.int 1], cl_h g0 g1 g2 g3 g4 g5 g6 g7 g8 g9 q)) tk_X6_kindOf (by omega) rfl ⟨h18, h17, h16, h15, h11, h10, h1, trivial⟩ ?_
                exact pm_Wg.iret (pm_dec tk_X6_kindOf rfl) rfl rfl
        · rw [if_neg h15] at H
          have J := Option.some.inj H
          subst J
          refine pm_Wg.path (k := 13) (ds := [0, 1, 0, 0]) (f' := (27, [some (.int a0)], [.int 4], cl_h g0 g1 g2 g3 g4 g5 g6 g7 g8 g9 q)) tk_X6_kindOf (by omega) rfl ⟨h15, h11, h10, h1, trivial⟩ ?_
          exact pm_Wg.iret (pm_dec tk_X6_kindOf rfl) rfl rfl
    · rw [if_neg h10] at H
      have J := Option.some.inj H
      subst J
      refine pm_Wg.path (k := 7) (ds := [0, 0]) (f' := (13, [some (.int a0)], [.int 3], cl_h g0 g1 g2 g3 g4 g5 g6 g7 g8 g9 q)) tk_X6_kindOf (by omega) rfl ⟨h10, h1, trivial⟩ ?_
      exact pm_Wg.iret (pm_dec tk_X6_kindOf rfl) rfl rfl

def lb_X6_step_151 (x : cs_S × Int32 × Int32) : Option ((cs_S × Int32 × Int32) ⊕ (cs_S)) := match x with
  | (s0, l1, l2) =>
   (if (s0.1 1 2) ≤ (s0.1 1 5) then
    (if l2 = 0 then
     (if (s0.1 1 3) = 4 then
      (if ((s0.1 1 5) - (s0.1 1 4)) ≤ 5 then
       some (.inr s0)
      else
       some (.inr (cs_i s0 1 3 1)))
     else
      some (.inr s0))
    else
     some (.inr (cs_i s0 1 3 1)))
   else
    (match pm_inb (s0.1 1 5) 800 with
    | false => none
    | true =>
    (match f_X6_kindOf (s0.2.1 2 (Int32.toNatClampNeg (s0.1 1 5))) with
    | none => none
    | some r22 =>
     (if r22 = (s0.1 1 3) then
      some (.inl ((cs_i s0 1 5 ((s0.1 1 5) + 1)), l1, l2))
     else
      (if l2 = 0 then
       (if (s0.1 1 3) = 4 then
        (if ((s0.1 1 5) - (s0.1 1 4)) ≤ 5 then
         some (.inr s0)
        else
         some (.inr (cs_i s0 1 3 1)))
       else
        some (.inr s0))
      else
       some (.inr (cs_i s0 1 3 1)))))))
def lb_X6_step_30 (x : cs_S × Int32) : Option ((cs_S × Int32) ⊕ (cs_S)) := match x with
  | (s0, l1) =>
   (if (s0.1 1 2) ≤ (s0.1 1 4) then
    (if l1 = 0 then
     (if (s0.1 1 4) < (s0.1 1 2) then
      (match pm_inb (s0.1 1 4) 800 with
      | false => none
      | true =>
      (match f_X6_kindOf (s0.2.1 2 (Int32.toNatClampNeg (s0.1 1 4))) with
      | none => none
      | some r13 =>
       (if ((cs_i (cs_i s0 1 3 r13) 1 5 (((cs_i s0 1 3 r13).1 1 4) + 1)).1 1 3) = 3 then
        (match pm_loop pm_fu lb_X6_step_151 ((cs_i (cs_i s0 1 3 r13) 1 5 (((cs_i s0 1 3 r13).1 1 4) + 1)), l1, 0) with
        | none => none
        | some e => some (.inr e))
       else
        (if ((cs_i (cs_i s0 1 3 r13) 1 5 (((cs_i s0 1 3 r13).1 1 4) + 1)).1 1 3) = 4 then
         (match pm_loop pm_fu lb_X6_step_151 ((cs_i (cs_i s0 1 3 r13) 1 5 (((cs_i s0 1 3 r13).1 1 4) + 1)), l1, 0) with
         | none => none
         | some e => some (.inr e))
        else
         some (.inr (cs_i (cs_i s0 1 3 r13) 1 5 (((cs_i s0 1 3 r13).1 1 4) + 1)))))))
     else
      some (.inr (cs_i s0 1 3 0)))
    else
     (if (s0.1 1 4) = (s0.1 1 5) then
      (if (s0.1 1 4) < (s0.1 1 2) then
       (match pm_inb (s0.1 1 4) 800 with
       | false => none
       | true =>
       (match f_X6_kindOf (s0.2.1 2 (Int32.toNatClampNeg (s0.1 1 4))) with
       | none => none
       | some r30 =>
        (if ((cs_i (cs_i s0 1 3 r30) 1 5 (((cs_i s0 1 3 r30).1 1 4) + 1)).1 1 3) = 3 then
         (match pm_loop pm_fu lb_X6_step_151 ((cs_i (cs_i s0 1 3 r30) 1 5 (((cs_i s0 1 3 r30).1 1 4) + 1)), l1, 1) with
         | none => none
         | some e => some (.inr e))
        else
         (if ((cs_i (cs_i s0 1 3 r30) 1 5 (((cs_i s0 1 3 r30).1 1 4) + 1)).1 1 3) = 4 then
          (match pm_loop pm_fu lb_X6_step_151 ((cs_i (cs_i s0 1 3 r30) 1 5 (((cs_i s0 1 3 r30).1 1 4) + 1)), l1, 1) with
          | none => none
          | some e => some (.inr e))
         else
          some (.inr (cs_i (cs_i s0 1 3 r30) 1 5 (((cs_i s0 1 3 r30).1 1 4) + 1)))))))
      else
       some (.inr (cs_i s0 1 3 0)))
     else
      (if (s0.1 1 4) < (s0.1 1 2) then
       (match pm_inb (s0.1 1 4) 800 with
       | false => none
       | true =>
       (match f_X6_kindOf (s0.2.1 2 (Int32.toNatClampNeg (s0.1 1 4))) with
       | none => none
       | some r36 =>
        (if ((cs_i (cs_i s0 1 3 r36) 1 5 (((cs_i s0 1 3 r36).1 1 4) + 1)).1 1 3) = 3 then
         (match pm_loop pm_fu lb_X6_step_151 ((cs_i (cs_i s0 1 3 r36) 1 5 (((cs_i s0 1 3 r36).1 1 4) + 1)), l1, 0) with
         | none => none
         | some e => some (.inr e))
        else
         (if ((cs_i (cs_i s0 1 3 r36) 1 5 (((cs_i s0 1 3 r36).1 1 4) + 1)).1 1 3) = 4 then
          (match pm_loop pm_fu lb_X6_step_151 ((cs_i (cs_i s0 1 3 r36) 1 5 (((cs_i s0 1 3 r36).1 1 4) + 1)), l1, 0) with
          | none => none
          | some e => some (.inr e))
         else
          some (.inr (cs_i (cs_i s0 1 3 r36) 1 5 (((cs_i s0 1 3 r36).1 1 4) + 1)))))))
      else
       some (.inr (cs_i s0 1 3 0)))))
   else
    (match pm_inb (s0.1 1 4) 800 with
    | false => none
    | true =>
    (match f_X6_kindOf (s0.2.1 2 (Int32.toNatClampNeg (s0.1 1 4))) with
    | none => none
    | some r42 =>
     (if r42 = 2 then
      some (.inl ((cs_i s0 1 4 ((s0.1 1 4) + 1)), l1))
     else
      (if l1 = 0 then
       (if (s0.1 1 4) < (s0.1 1 2) then
        (if ((cs_i (cs_i s0 1 3 r42) 1 5 (((cs_i s0 1 3 r42).1 1 4) + 1)).1 1 3) = 3 then
         (match pm_loop pm_fu lb_X6_step_151 ((cs_i (cs_i s0 1 3 r42) 1 5 (((cs_i s0 1 3 r42).1 1 4) + 1)), l1, 0) with
         | none => none
         | some e => some (.inr e))
        else
         (if ((cs_i (cs_i s0 1 3 r42) 1 5 (((cs_i s0 1 3 r42).1 1 4) + 1)).1 1 3) = 4 then
          (match pm_loop pm_fu lb_X6_step_151 ((cs_i (cs_i s0 1 3 r42) 1 5 (((cs_i s0 1 3 r42).1 1 4) + 1)), l1, 0) with
          | none => none
          | some e => some (.inr e))
         else
          some (.inr (cs_i (cs_i s0 1 3 r42) 1 5 (((cs_i s0 1 3 r42).1 1 4) + 1)))))
       else
        some (.inr (cs_i s0 1 3 0)))
      else
       (if (s0.1 1 4) = (s0.1 1 5) then
        (if (s0.1 1 4) < (s0.1 1 2) then
         (if ((cs_i (cs_i s0 1 3 r42) 1 5 (((cs_i s0 1 3 r42).1 1 4) + 1)).1 1 3) = 3 then
          (match pm_loop pm_fu lb_X6_step_151 ((cs_i (cs_i s0 1 3 r42) 1 5 (((cs_i s0 1 3 r42).1 1 4) + 1)), l1, 1) with
          | none => none
          | some e => some (.inr e))
         else
          (if ((cs_i (cs_i s0 1 3 r42) 1 5 (((cs_i s0 1 3 r42).1 1 4) + 1)).1 1 3) = 4 then
           (match pm_loop pm_fu lb_X6_step_151 ((cs_i (cs_i s0 1 3 r42) 1 5 (((cs_i s0 1 3 r42).1 1 4) + 1)), l1, 1) with
           | none => none
           | some e => some (.inr e))
          else
           some (.inr (cs_i (cs_i s0 1 3 r42) 1 5 (((cs_i s0 1 3 r42).1 1 4) + 1)))))
        else
         some (.inr (cs_i s0 1 3 0)))
       else
        (if (s0.1 1 4) < (s0.1 1 2) then
         (if ((cs_i (cs_i s0 1 3 r42) 1 5 (((cs_i s0 1 3 r42).1 1 4) + 1)).1 1 3) = 3 then
          (match pm_loop pm_fu lb_X6_step_151 ((cs_i (cs_i s0 1 3 r42) 1 5 (((cs_i s0 1 3 r42).1 1 4) + 1)), l1, 0) with
          | none => none
          | some e => some (.inr e))
         else
          (if ((cs_i (cs_i s0 1 3 r42) 1 5 (((cs_i s0 1 3 r42).1 1 4) + 1)).1 1 3) = 4 then
           (match pm_loop pm_fu lb_X6_step_151 ((cs_i (cs_i s0 1 3 r42) 1 5 (((cs_i s0 1 3 r42).1 1 4) + 1)), l1, 0) with
           | none => none
           | some e => some (.inr e))
          else
           some (.inr (cs_i (cs_i s0 1 3 r42) 1 5 (((cs_i s0 1 3 r42).1 1 4) + 1)))))
        else
         some (.inr (cs_i s0 1 3 0)))))))))
def f_X6_step (s0 : cs_S) : Option (cs_S) :=
  (if (s0.1 1 3) = 3 then
   (pm_loop pm_fu lb_X6_step_30 ((cs_i s0 1 4 (s0.1 1 5)), 1))
  else
   (if (s0.1 1 3) = 4 then
    (pm_loop pm_fu lb_X6_step_30 ((cs_i s0 1 4 (s0.1 1 5)), 1))
   else
    (pm_loop pm_fu lb_X6_step_30 ((cs_i s0 1 4 (s0.1 1 5)), 0))))
def tb_X6_step : List pm_I := [(0, .aload_n 0, 0, 0), (1, .getfield 22, 4, 0), (4, .iconst 3, 5, 0), (5, .if_icmp .eq 11, 16, 0), (8, .aload_n 0, 0, 0), (9, .getfield 22, 4, 0), (12, .iconst 4, 6, 0), (13, .if_icmp .ne 7, 20, 0), (16, .iconst 1, 3, 0), (17, .goto 4, 21, 0), (20, .iconst 0, 2, 0), (21, .istore_n 1, 0, 0), (22, .aload_n 0, 0, 0), (23, .aload_n 0, 0, 0), (24, .getfield 28, 6, 0), (27, .putfield 25, 5, 0), (30, .aload_n 0, 0, 0), (31, .getfield 25, 5, 0), (34, .aload_n 0, 0, 0), (35, .getfield 19, 3, 0), (38, .if_icmp .ge 32, 70, 0), (41, .aload_n 0, 0, 0), (42, .getfield 9, 0, 0), (45, .aload_n 0, 0, 0), (46, .getfield 25, 5, 0), (49, .baload, 0, 0), (50, .invokestatic 46, 101, 0), (53, .iconst 2, 4, 0), (54, .if_icmp .ne 16, 70, 0), (57, .aload_n 0, 0, 0), (58, .dup, 0, 0), (59, .getfield 25, 5, 0), (62, .iconst 1, 3, 0), (63, .iadd, 0, 0), (64, .putfield 25, 5, 0), (67, .goto (-37), 30, 0), (70, .iload_n 1, 0, 0), (71, .ifCond .eq 18, 89, 0), (74, .aload_n 0, 0, 0), (75, .getfield 25, 5, 0), (78, .aload_n 0, 0, 0), (79, .getfield 28, 6, 0), (82, .if_icmp .ne 7, 89, 0), (85, .iconst 1, 3, 0), (86, .goto 4, 90, 0), (89, .iconst 0, 2, 0), (90, .istore_n 2, 0, 0), (91, .aload_n 0, 0, 0), (92, .getfield 25, 5, 0), (95, .aload_n 0, 0, 0), (96, .getfield 19, 3, 0), (99, .if_icmp .lt 9, 108, 0), (102, .aload_n 0, 0, 0), (103, .iconst 0, 2, 0), (104, .putfield 22, 4, 0), (107, .return_, 0, 0), (108, .aload_n 0, 0, 0), (109, .aload_n 0, 0, 0), (110, .getfield 9, 0, 0), (113, .aload_n 0, 0, 0), (114, .getfield 25, 5, 0), (117, .baload, 0, 0), (118, .invokestatic 46, 101, 0), (121, .putfield 22, 4, 0), (124, .aload_n 0, 0, 0), (125, .aload_n 0, 0, 0), (126, .getfield 25, 5, 0), (129, .iconst 1, 3, 0), (130, .iadd, 0, 0), (131, .putfield 28, 6, 0), (134, .aload_n 0, 0, 0), (135, .getfield 22, 4, 0), (138, .iconst 3, 5, 0), (139, .if_icmp .eq 12, 151, 0), (142, .aload_n 0, 0, 0), (143, .getfield 22, 4, 0), (146, .iconst 4, 6, 0), (147, .if_icmp .eq 4, 151, 0), (150, .return_, 0, 0), (151, .aload_n 0, 0, 0), (152, .getfield 28, 6, 0), (155, .aload_n 0, 0, 0), (156, .getfield 19, 3, 0), (159, .if_icmp .ge 35, 194, 0), (162, .aload_n 0, 0, 0), (163, .getfield 9, 0, 0), (166, .aload_n 0, 0, 0), (167, .getfield 28, 6, 0), (170, .baload, 0, 0), (171, .invokestatic 46, 101, 0), (174, .aload_n 0, 0, 0), (175, .getfield 22, 4, 0), (178, .if_icmp .ne 16, 194, 0), (181, .aload_n 0, 0, 0), (182, .dup, 0, 0), (183, .getfield 28, 6, 0), (186, .iconst 1, 3, 0), (187, .iadd, 0, 0), (188, .putfield 28, 6, 0), (191, .goto (-40), 151, 0), (194, .iload_n 2, 0, 0), (195, .ifCond .ne 24, 219, 0), (198, .aload_n 0, 0, 0), (199, .getfield 22, 4, 0), (202, .iconst 4, 6, 0), (203, .if_icmp .ne 21, 224, 0), (206, .aload_n 0, 0, 0), (207, .getfield 28, 6, 0), (210, .aload_n 0, 0, 0), (211, .getfield 25, 5, 0), (214, .isub, 0, 0), (215, .iconst 5, 7, 0), (216, .if_icmp .le 8, 224, 0), (219, .aload_n 0, 0, 0), (220, .iconst 1, 3, 0), (221, .putfield 22, 4, 0), (224, .return_, 0, 0)]
theorem tk_X6_step : ∀ e ∈ tb_X6_step, pm_ck 84 e = true := List.all_eq_true.mp (by decide +kernel)
set_option maxRecDepth 20000 in
set_option maxHeartbeats 40000000 in
theorem ll_X6_step_151 {d : Nat} (hd : 2 ≤ d) {g1 g2 g3 g4 g5 g6 g7 g8 g9 : List pm_E} {v1 v2 v3 : Value} {q : Nat × Nat × Nat} {z0 : cs_S} (P : cs_S → Prop) (K0 : ∀ e : cs_S, P (e) → e = z0) : ∀ (n : Nat) (s0 : cs_S) (l1 : Int32) (l2 : Int32) (e : cs_S), pm_loop n lb_X6_step_151 (s0, l1, l2) = some e → P e → pm_Wg 84 d (.inl (none)) (cl_h (ct_x v1 v2 v3 z0) g1 g2 g3 g4 g5 g6 g7 g8 g9 q) (151, [some (.ref 1), some (.int l1), some (.int l2)], [], cl_h (ct_x v1 v2 v3 s0) g1 g2 g3 g4 g5 g6 g7 g8 g9 q) := by
  intro n
  induction n with
  | zero => intro s0 l1 l2 e H; cases H
  | succ n ih =>
    intro s0 l1 l2 e H hPe
    obtain ⟨d, rfl⟩ : ∃ d', d = d' + 1 := ⟨d - 1, by omega⟩
    have H : pm_lst (pm_loop n lb_X6_step_151) (lb_X6_step_151 (s0, l1, l2)) = some e := H
    generalize pm_loop n lb_X6_step_151 = LB at H ih
    unfold lb_X6_step_151 at H
    try dsimp only at H
    by_cases h17 : (s0.1 1 2) ≤ (s0.1 1 5)
    · rw [if_pos h17] at H
      by_cases h18 : l2 = 0
      · rw [if_pos h18] at H
        by_cases h19 : (s0.1 1 3) = 4
        · rw [if_pos h19] at H
          by_cases h20 : ((s0.1 1 5) - (s0.1 1 4)) ≤ 5
          · rw [if_pos h20] at H
            have He := Option.some.inj H
            subst He
            have J := K0 _ hPe
            subst J
            refine pm_Wg.path (k := 18) (ds := [1, 0, 0, 1]) (f' := (224, [some (.ref 1), some (.int l1), some (.int l2)], [], cl_h (ct_x v1 v2 v3 s0) g1 g2 g3 g4 g5 g6 g7 g8 g9 q)) tk_X6_step (by omega) rfl ⟨h20, h19, h18, h17, trivial⟩ ?_
            exact pm_Wg.vret (pm_dec tk_X6_step rfl) rfl
          · rw [if_neg h20] at H
            have He := Option.some.inj H
            subst He
            have J := K0 _ hPe
            subst J
            refine pm_Wg.path (k := 21) (ds := [1, 0, 0, 0]) (f' := (224, [some (.ref 1), some (.int l1), some (.int l2)], [], cl_h (ct_x v1 v2 v3 (cs_i s0 1 3 1)) g1 g2 g3 g4 g5 g6 g7 g8 g9 q)) tk_X6_step (by omega) rfl ⟨h20, h19, h18, h17, trivial⟩ ?_
            exact pm_Wg.vret (pm_dec tk_X6_step rfl) rfl
        · rw [if_neg h19] at H
          have He := Option.some.inj H
          subst He
          have J := K0 _ hPe
          subst J
          refine pm_Wg.path (k := 11) (ds := [1, 0, 1]) (f' := (224, [some (.ref 1), some (.int l1), some (.int l2)], [], cl_h (ct_x v1 v2 v3 s0) g1 g2 g3 g4 g5 g6 g7 g8 g9 q)) tk_X6_step (by omega) rfl ⟨h19, h18, h17, trivial⟩ ?_
          exact pm_Wg.vret (pm_dec tk_X6_step rfl) rfl
      · rw [if_neg h18] at H
        have He := Option.some.inj H
        subst He
        have J := K0 _ hPe
        subst J
        refine pm_Wg.path (k := 10) (ds := [1, 1]) (f' := (224, [some (.ref 1), some (.int l1), some (.int l2)], [], cl_h (ct_x v1 v2 v3 (cs_i s0 1 3 1)) g1 g2 g3 g4 g5 g6 g7 g8 g9 q)) tk_X6_step (by omega) rfl ⟨h18, h17, trivial⟩ ?_
        exact pm_Wg.vret (pm_dec tk_X6_step rfl) rfl
    · rw [if_neg h17] at H
      cases b21 : pm_inb (s0.1 1 5) 800 with
      | false => rw [b21] at H; cases H
      | true =>
       rw [b21] at H
       dsimp only at H
       cases q23 : f_X6_kindOf (s0.2.1 2 (Int32.toNatClampNeg (s0.1 1 5))) with
       | none => rw [q23] at H; cases H
       | some r22 =>
        rw [q23] at H
        dsimp only at H
        refine pm_Wg.path (k := 10) (ds := [0]) (f' := (171, [some (.ref 1), some (.int l1), some (.int l2)], [.int (s0.2.1 2 (Int32.toNatClampNeg (s0.1 1 5)))], cl_h (ct_x v1 v2 v3 s0) g1 g2 g3 g4 g5 g6 g7 g8 g9 q)) tk_X6_step (by omega) rfl ⟨pm_inb_vp b21, h17, trivial⟩ ?_
        refine pm_Wg.callS (m' := 83) (ix := 46) (rr := 101) (pl := 931) (As := [.int (s0.2.1 2 (Int32.toNatClampNeg (s0.1 1 5)))]) (S := []) (by decide) rfl (pm_dec tk_X6_step rfl) rfl rfl rfl (Nat.le_of_ble_eq_true rfl) rfl (e_X6_kindOf (by omega) q23) ?_
        by_cases h24 : r22 = (s0.1 1 3)
        · rw [if_pos h24] at H
          refine pm_Wg.path (k := 10) (ds := [0]) (f' := (151, [some (.ref 1), some (.int l1), some (.int l2)], [], cl_h (ct_x v1 v2 v3 (cs_i s0 1 5 ((s0.1 1 5) + 1))) g1 g2 g3 g4 g5 g6 g7 g8 g9 q)) tk_X6_step (by omega) rfl ⟨h24, trivial⟩ ?_
          exact ih _ _ _ e H hPe
        · rw [if_neg h24] at H
          by_cases h25 : l2 = 0
          · rw [if_pos h25] at H
            by_cases h26 : (s0.1 1 3) = 4
            · rw [if_pos h26] at H
              by_cases h27 : ((s0.1 1 5) - (s0.1 1 4)) ≤ 5
              · rw [if_pos h27] at H
                have He := Option.some.inj H
                subst He
                have J := K0 _ hPe
                subst J
                refine pm_Wg.path (k := 16) (ds := [1, 0, 0, 1]) (f' := (224, [some (.ref 1), some (.int l1), some (.int l2)], [], cl_h (ct_x v1 v2 v3 s0) g1 g2 g3 g4 g5 g6 g7 g8 g9 q)) tk_X6_step (by omega) rfl ⟨h27, h26, h25, h24, trivial⟩ ?_
                exact pm_Wg.vret (pm_dec tk_X6_step rfl) rfl
              · rw [if_neg h27] at H
                have He := Option.some.inj H
                subst He
                have J := K0 _ hPe
                subst J
                refine pm_Wg.path (k := 19) (ds := [1, 0, 0, 0]) (f' := (224, [some (.ref 1), some (.int l1), some (.int l2)], [], cl_h (ct_x v1 v2 v3 (cs_i s0 1 3 1)) g1 g2 g3 g4 g5 g6 g7 g8 g9 q)) tk_X6_step (by omega) rfl ⟨h27, h26, h25, h24, trivial⟩ ?_
                exact pm_Wg.vret (pm_dec tk_X6_step rfl) rfl
            · rw [if_neg h26] at H
              have He := Option.some.inj H
              subst He
              have J := K0 _ hPe
              subst J
              refine pm_Wg.path (k := 9) (ds := [1, 0, 1]) (f' := (224, [some (.ref 1), some (.int l1), some (.int l2)], [], cl_h (ct_x v1 v2 v3 s0) g1 g2 g3 g4 g5 g6 g7 g8 g9 q)) tk_X6_step (by omega) rfl ⟨h26, h25, h24, trivial⟩ ?_
              exact pm_Wg.vret (pm_dec tk_X6_step rfl) rfl
          · rw [if_neg h25] at H
            have He := Option.some.inj H
            subst He
            have J := K0 _ hPe
            subst J
            refine pm_Wg.path (k := 8) (ds := [1, 1]) (f' := (224, [some (.ref 1), some (.int l1), some (.int l2)], [], cl_h (ct_x v1 v2 v3 (cs_i s0 1 3 1)) g1 g2 g3 g4 g5 g6 g7 g8 g9 q)) tk_X6_step (by omega) rfl ⟨h25, h24, trivial⟩ ?_
            exact pm_Wg.vret (pm_dec tk_X6_step rfl) rfl
set_option maxRecDepth 20000 in
set_option maxHeartbeats 40000000 in
theorem ll_X6_step_30 {d : Nat} (hd : 2 ≤ d) {g1 g2 g3 g4 g5 g6 g7 g8 g9 : List pm_E} {v1 v2 v3 : Value} {q : Nat × Nat × Nat} {z0 : cs_S} (P : cs_S → Prop) (K0 : ∀ e : cs_S, P (e) → e = z0) : ∀ (n : Nat) (s0 : cs_S) (l1 : Int32) (e : cs_S), pm_loop n lb_X6_step_30 (s0, l1) = some e → P e → pm_Wg 84 d (.inl (none)) (cl_h (ct_x v1 v2 v3 z0) g1 g2 g3 g4 g5 g6 g7 g8 g9 q) (30, [some (.ref 1), some (.int l1), none], [], cl_h (ct_x v1 v2 v3 s0) g1 g2 g3 g4 g5 g6 g7 g8 g9 q) := by
  intro n
  induction n with
  | zero => intro s0 l1 e H; cases H
  | succ n ih =>
    intro s0 l1 e H hPe
    obtain ⟨d, rfl⟩ : ∃ d', d = d' + 1 := ⟨d - 1, by omega⟩
    have H : pm_lst (pm_loop n lb_X6_step_30) (lb_X6_step_30 (s0, l1)) = some e := H
    generalize pm_loop n lb_X6_step_30 = LB at H ih
    unfold lb_X6_step_30 at H
    try dsimp only at H
    by_cases h3 : (s0.1 1 2) ≤ (s0.1 1 4)
    · rw [if_pos h3] at H
      by_cases h4 : l1 = 0
      · rw [if_pos h4] at H
        by_cases h5 : (s0.1 1 4) < (s0.1 1 2)
        · rw [if_pos h5] at H
          cases b6 : pm_inb (s0.1 1 4) 800 with
          | false => rw [b6] at H; cases H
          | true =>
           rw [b6] at H
           dsimp only at H
           cases q14 : f_X6_kindOf (s0.2.1 2 (Int32.toNatClampNeg (s0.1 1 4))) with
           | none => rw [q14] at H; cases H
           | some r13 =>
            rw [q14] at H
            dsimp only at H
            refine pm_Wg.path (k := 20) (ds := [1, 1, 1]) (f' := (118, [some (.ref 1), some (.int l1), some (.int 0)], [.int (s0.2.1 2 (Int32.toNatClampNeg (s0.1 1 4))), .ref 1], cl_h (ct_x v1 v2 v3 s0) g1 g2 g3 g4 g5 g6 g7 g8 g9 q)) tk_X6_step (by omega) rfl ⟨pm_inb_vp b6, h5, h4, h3, trivial⟩ ?_
            refine pm_Wg.callS (m' := 83) (ix := 46) (rr := 101) (pl := 931) (As := [.int (s0.2.1 2 (Int32.toNatClampNeg (s0.1 1 4)))]) (S := [.ref 1]) (by decide) rfl (pm_dec tk_X6_step rfl) rfl rfl rfl (Nat.le_of_ble_eq_true rfl) rfl (e_X6_kindOf (by omega) q14) ?_
            by_cases h15 : ((cs_i (cs_i s0 1 3 r13) 1 5 (((cs_i s0 1 3 r13).1 1 4) + 1)).1 1 3) = 3
            · rw [if_pos h15] at H
              cases q28 : pm_loop pm_fu lb_X6_step_151 ((cs_i (cs_i s0 1 3 r13) 1 5 (((cs_i s0 1 3 r13).1 1 4) + 1)), l1, 0) with
              | none => rw [q28] at H; cases H
              | some e9 =>
               rw [q28] at H
               try dsimp only at H
               refine pm_Wg.path (k := 11) (ds := [1]) (f' := (151, [some (.ref 1), some (.int l1), some (.int 0)], [], cl_h (ct_x v1 v2 v3 (cs_i (cs_i s0 1 3 r13) 1 5 (((cs_i s0 1 3 r13).1 1 4) + 1))) g1 g2 g3 g4 g5 g6 g7 g8 g9 q)) tk_X6_step (by omega) rfl ⟨h15, trivial⟩ ?_
               exact ll_X6_step_151 (by omega) (fun e9 => pm_lst LB (some (.inr e9)) = some e) (fun e0 hk => K0 e0 (Option.some.inj hk ▸ hPe)) pm_fu _ _ _ _ q28 H
            · rw [if_neg h15] at H
              by_cases h16 : ((cs_i (cs_i s0 1 3 r13) 1 5 (((cs_i s0 1 3 r13).1 1 4) + 1)).1 1 3) = 4
              · rw [if_pos h16] at H
                cases q29 : pm_loop pm_fu lb_X6_step_151 ((cs_i (cs_i s0 1 3 r13) 1 5 (((cs_i s0 1 3 r13).1 1 4) + 1)), l1, 0) with
                | none => rw [q29] at H; cases H
                | some e9 =>
                 rw [q29] at H
                 try dsimp only at H
                 refine pm_Wg.path (k := 15) (ds := [0, 1]) (f' := (151, [some (.ref 1), some (.int l1), some (.int 0)], [], cl_h (ct_x v1 v2 v3 (cs_i (cs_i s0 1 3 r13) 1 5 (((cs_i s0 1 3 r13).1 1 4) + 1))) g1 g2 g3 g4 g5 g6 g7 g8 g9 q)) tk_X6_step (by omega) rfl ⟨h16, h15, trivial⟩ ?_
                 exact ll_X6_step_151 (by omega) (fun e9 => pm_lst LB (some (.inr e9)) = some e) (fun e0 hk => K0 e0 (Option.some.inj hk ▸ hPe)) pm_fu _ _ _ _ q29 H
              · rw [if_neg h16] at H
                have He := Option.some.inj H
                subst He
                have J := K0 _ hPe
                subst J
                refine pm_Wg.path (k := 15) (ds := [0, 0]) (f' := (150, [some (.ref 1), some (.int l1), some (.int 0)], [], cl_h (ct_x v1 v2 v3 (cs_i (cs_i s0 1 3 r13) 1 5 (((cs_i s0 1 3 r13).1 1 4) + 1))) g1 g2 g3 g4 g5 g6 g7 g8 g9 q)) tk_X6_step (by omega) rfl ⟨h16, h15, trivial⟩ ?_
                exact pm_Wg.vret (pm_dec tk_X6_step rfl) rfl
        · rw [if_neg h5] at H
          have He := Option.some.inj H
          subst He
          have J := K0 _ hPe
          subst J
          refine pm_Wg.path (k := 17) (ds := [1, 1, 0]) (f' := (107, [some (.ref 1), some (.int l1), some (.int 0)], [], cl_h (ct_x v1 v2 v3 (cs_i s0 1 3 0)) g1 g2 g3 g4 g5 g6 g7 g8 g9 q)) tk_X6_step (by omega) rfl ⟨h5, h4, h3, trivial⟩ ?_
          exact pm_Wg.vret (pm_dec tk_X6_step rfl) rfl
      · rw [if_neg h4] at H
        by_cases h7 : (s0.1 1 4) = (s0.1 1 5)
        · rw [if_pos h7] at H
          by_cases h8 : (s0.1 1 4) < (s0.1 1 2)
          · rw [if_pos h8] at H
            cases b9 : pm_inb (s0.1 1 4) 800 with
            | false => rw [b9] at H; cases H
            | true =>
             rw [b9] at H
             dsimp only at H
             cases q31 : f_X6_kindOf (s0.2.1 2 (Int32.toNatClampNeg (s0.1 1 4))) with
             | none => rw [q31] at H; cases H
             | some r30 =>
              rw [q31] at H
              dsimp only at H
              refine pm_Wg.path (k := 26) (ds := [1, 0, 0, 1]) (f' := (118, [some (.ref 1), some (.int l1), some (.int 1)], [.int (s0.2.1 2 (Int32.toNatClampNeg (s0.1 1 4))), .ref 1], cl_h (ct_x v1 v2 v3 s0) g1 g2 g3 g4 g5 g6 g7 g8 g9 q)) tk_X6_step (by omega) rfl ⟨pm_inb_vp b9, h8, h7, h4, h3, trivial⟩ ?_
              refine pm_Wg.callS (m' := 83) (ix := 46) (rr := 101) (pl := 931) (As := [.int (s0.2.1 2 (Int32.toNatClampNeg (s0.1 1 4)))]) (S := [.ref 1]) (by decide) rfl (pm_dec tk_X6_step rfl) rfl rfl rfl (Nat.le_of_ble_eq_true rfl) rfl (e_X6_kindOf (by omega) q31) ?_
              by_cases h32 : ((cs_i (cs_i s0 1 3 r30) 1 5 (((cs_i s0 1 3 r30).1 1 4) + 1)).1 1 3) = 3
              · rw [if_pos h32] at H
                cases q34 : pm_loop pm_fu lb_X6_step_151 ((cs_i (cs_i s0 1 3 r30) 1 5 (((cs_i s0 1 3 r30).1 1 4) + 1)), l1, 1) with
                | none => rw [q34] at H; cases H
                | some e9 =>
                 rw [q34] at H
                 try dsimp only at H
                 refine pm_Wg.path (k := 11) (ds := [1]) (f' := (151, [some (.ref 1), some (.int l1), some (.int 1)], [], cl_h (ct_x v1 v2 v3 (cs_i (cs_i s0 1 3 r30) 1 5 (((cs_i s0 1 3 r30).1 1 4) + 1))) g1 g2 g3 g4 g5 g6 g7 g8 g9 q)) tk_X6_step (by omega) rfl ⟨h32, trivial⟩ ?_
                 exact ll_X6_step_151 (by omega) (fun e9 => pm_lst LB (some (.inr e9)) = some e) (fun e0 hk => K0 e0 (Option.some.inj hk ▸ hPe)) pm_fu _ _ _ _ q34 H
              · rw [if_neg h32] at H
                by_cases h33 : ((cs_i (cs_i s0 1 3 r30) 1 5 (((cs_i s0 1 3 r30).1 1 4) + 1)).1 1 3) = 4
                · rw [if_pos h33] at H
                  cases q35 : pm_loop pm_fu lb_X6_step_151 ((cs_i (cs_i s0 1 3 r30) 1 5 (((cs_i s0 1 3 r30).1 1 4) + 1)), l1, 1) with
                  | none => rw [q35] at H; cases H
                  | some e9 =>
                   rw [q35] at H
                   try dsimp only at H
                   refine pm_Wg.path (k := 15) (ds := [0, 1]) (f' := (151, [some (.ref 1), some (.int l1), some (.int 1)], [], cl_h (ct_x v1 v2 v3 (cs_i (cs_i s0 1 3 r30) 1 5 (((cs_i s0 1 3 r30).1 1 4) + 1))) g1 g2 g3 g4 g5 g6 g7 g8 g9 q)) tk_X6_step (by omega) rfl ⟨h33, h32, trivial⟩ ?_
                   exact ll_X6_step_151 (by omega) (fun e9 => pm_lst LB (some (.inr e9)) = some e) (fun e0 hk => K0 e0 (Option.some.inj hk ▸ hPe)) pm_fu _ _ _ _ q35 H
                · rw [if_neg h33] at H
                  have He := Option.some.inj H
                  subst He
                  have J := K0 _ hPe
                  subst J
                  refine pm_Wg.path (k := 15) (ds := [0, 0]) (f' := (150, [some (.ref 1), some (.int l1), some (.int 1)], [], cl_h (ct_x v1 v2 v3 (cs_i (cs_i s0 1 3 r30) 1 5 (((cs_i s0 1 3 r30).1 1 4) + 1))) g1 g2 g3 g4 g5 g6 g7 g8 g9 q)) tk_X6_step (by omega) rfl ⟨h33, h32, trivial⟩ ?_
                  exact pm_Wg.vret (pm_dec tk_X6_step rfl) rfl
          · rw [if_neg h8] at H
            have He := Option.some.inj H
            subst He
            have J := K0 _ hPe
            subst J
            refine pm_Wg.path (k := 23) (ds := [1, 0, 0, 0]) (f' := (107, [some (.ref 1), some (.int l1), some (.int 1)], [], cl_h (ct_x v1 v2 v3 (cs_i s0 1 3 0)) g1 g2 g3 g4 g5 g6 g7 g8 g9 q)) tk_X6_step (by omega) rfl ⟨h8, h7, h4, h3, trivial⟩ ?_
            exact pm_Wg.vret (pm_dec tk_X6_step rfl) rfl
        · rw [if_neg h7] at H
          by_cases h10 : (s0.1 1 4) < (s0.1 1 2)
          · rw [if_pos h10] at H
            cases b11 : pm_inb (s0.1 1 4) 800 with
            | false => rw [b11] at H; cases H
            | true =>
             rw [b11] at H
             dsimp only at H
             cases q37 : f_X6_kindOf (s0.2.1 2 (Int32.toNatClampNeg (s0.1 1 4))) with
             | none => rw [q37] at H; cases H
             | some r36 =>
              rw [q37] at H
              dsimp only at H
              refine pm_Wg.path (k := 25) (ds := [1, 0, 1, 1]) (f' := (118, [some (.ref 1), some (.int l1), some (.int 0)], [.int (s0.2.1 2 (Int32.toNatClampNeg (s0.1 1 4))), .ref 1], cl_h (ct_x v1 v2 v3 s0) g1 g2 g3 g4 g5 g6 g7 g8 g9 q)) tk_X6_step (by omega) rfl ⟨pm_inb_vp b11, h10, h7, h4, h3, trivial⟩ ?_
              refine pm_Wg.callS (m' := 83) (ix := 46) (rr := 101) (pl := 931) (As := [.int (s0.2.1 2 (Int32.toNatClampNeg (s0.1 1 4)))]) (S := [.ref 1]) (by decide) rfl (pm_dec tk_X6_step rfl) rfl rfl rfl (Nat.le_of_ble_eq_true rfl) rfl (e_X6_kindOf (by omega) q37) ?_
              by_cases h38 : ((cs_i (cs_i s0 1 3 r36) 1 5 (((cs_i s0 1 3 r36).1 1 4) + 1)).1 1 3) = 3
              · rw [if_pos h38] at H
                cases q40 : pm_loop pm_fu lb_X6_step_151 ((cs_i (cs_i s0 1 3 r36) 1 5 (((cs_i s0 1 3 r36).1 1 4) + 1)), l1, 0) with
                | none => rw [q40] at H; cases H
                | some e9 =>
                 rw [q40] at H
                 try dsimp only at H
                 refine pm_Wg.path (k := 11) (ds := [1]) (f' := (151, [some (.ref 1), some (.int l1), some (.int 0)], [], cl_h (ct_x v1 v2 v3 (cs_i (cs_i s0 1 3 r36) 1 5 (((cs_i s0 1 3 r36).1 1 4) + 1))) g1 g2 g3 g4 g5 g6 g7 g8 g9 q)) tk_X6_step (by omega) rfl ⟨h38, trivial⟩ ?_
                 exact ll_X6_step_151 (by omega) (fun e9 => pm_lst LB (some (.inr e9)) = some e) (fun e0 hk => K0 e0 (Option.some.inj hk ▸ hPe)) pm_fu _ _ _ _ q40 H
              · rw [if_neg h38] at H
                by_cases h39 : ((cs_i (cs_i s0 1 3 r36) 1 5 (((cs_i s0 1 3 r36).1 1 4) + 1)).1 1 3) = 4
                · rw [if_pos h39] at H
                  cases q41 : pm_loop pm_fu lb_X6_step_151 ((cs_i (cs_i s0 1 3 r36) 1 5 (((cs_i s0 1 3 r36).1 1 4) + 1)), l1, 0) with
                  | none => rw [q41] at H; cases H
                  | some e9 =>
                   rw [q41] at H
                   try dsimp only at H
                   refine pm_Wg.path (k := 15) (ds := [0, 1]) (f' := (151, [some (.ref 1), some (.int l1), some (.int 0)], [], cl_h (ct_x v1 v2 v3 (cs_i (cs_i s0 1 3 r36) 1 5 (((cs_i s0 1 3 r36).1 1 4) + 1))) g1 g2 g3 g4 g5 g6 g7 g8 g9 q)) tk_X6_step (by omega) rfl ⟨h39, h38, trivial⟩ ?_
                   exact ll_X6_step_151 (by omega) (fun e9 => pm_lst LB (some (.inr e9)) = some e) (fun e0 hk => K0 e0 (Option.some.inj hk ▸ hPe)) pm_fu _ _ _ _ q41 H
                · rw [if_neg h39] at H
                  have He := Option.some.inj H
                  subst He
                  have J := K0 _ hPe
                  subst J
                  refine pm_Wg.path (k := 15) (ds := [0, 0]) (f' := (150, [some (.ref 1), some (.int l1), some (.int 0)], [], cl_h (ct_x v1 v2 v3 (cs_i (cs_i s0 1 3 r36) 1 5 (((cs_i s0 1 3 r36).1 1 4) + 1))) g1 g2 g3 g4 g5 g6 g7 g8 g9 q)) tk_X6_step (by omega) rfl ⟨h39, h38, trivial⟩ ?_
                  exact pm_Wg.vret (pm_dec tk_X6_step rfl) rfl
          · rw [if_neg h10] at H
            have He := Option.some.inj H
            subst He
            have J := K0 _ hPe
            subst J
            refine pm_Wg.path (k := 22) (ds := [1, 0, 1, 0]) (f' := (107, [some (.ref 1), some (.int l1), some (.int 0)], [], cl_h (ct_x v1 v2 v3 (cs_i s0 1 3 0)) g1 g2 g3 g4 g5 g6 g7 g8 g9 q)) tk_X6_step (by omega) rfl ⟨h10, h7, h4, h3, trivial⟩ ?_
            exact pm_Wg.vret (pm_dec tk_X6_step rfl) rfl
    · rw [if_neg h3] at H
      cases b12 : pm_inb (s0.1 1 4) 800 with
      | false => rw [b12] at H; cases H
      | true =>
       rw [b12] at H
       dsimp only at H
       cases q43 : f_X6_kindOf (s0.2.1 2 (Int32.toNatClampNeg (s0.1 1 4))) with
       | none => rw [q43] at H; cases H
       | some r42 =>
        rw [q43] at H
        dsimp only at H
        refine pm_Wg.path (k := 10) (ds := [0]) (f' := (50, [some (.ref 1), some (.int l1), none], [.int (s0.2.1 2 (Int32.toNatClampNeg (s0.1 1 4)))], cl_h (ct_x v1 v2 v3 s0) g1 g2 g3 g4 g5 g6 g7 g8 g9 q)) tk_X6_step (by omega) rfl ⟨pm_inb_vp b12, h3, trivial⟩ ?_
        refine pm_Wg.callS (m' := 83) (ix := 46) (rr := 101) (pl := 931) (As := [.int (s0.2.1 2 (Int32.toNatClampNeg (s0.1 1 4)))]) (S := []) (by decide) rfl (pm_dec tk_X6_step rfl) rfl rfl rfl (Nat.le_of_ble_eq_true rfl) rfl (e_X6_kindOf (by omega) q43) ?_
        by_cases h44 : r42 = 2
        · rw [if_pos h44] at H
          refine pm_Wg.path (k := 9) (ds := [0]) (f' := (30, [some (.ref 1), some (.int l1), none], [], cl_h (ct_x v1 v2 v3 (cs_i s0 1 4 ((s0.1 1 4) + 1))) g1 g2 g3 g4 g5 g6 g7 g8 g9 q)) tk_X6_step (by omega) rfl ⟨h44, trivial⟩ ?_
          exact ih _ _ e H hPe
        · rw [if_neg h44] at H
          by_cases h45 : l1 = 0
          · rw [if_pos h45] at H
            by_cases h46 : (s0.1 1 4) < (s0.1 1 2)
            · rw [if_pos h46] at H
              refine pm_Wg.path (k := 17) (ds := [1, 1, 1]) (f' := (118, [some (.ref 1), some (.int l1), some (.int 0)], [.int (s0.2.1 2 (Int32.toNatClampNeg (s0.1 1 4))), .ref 1], cl_h (ct_x v1 v2 v3 s0) g1 g2 g3 g4 g5 g6 g7 g8 g9 q)) tk_X6_step (by omega) rfl ⟨pm_inb_vp b12, h46, h45, h44, trivial⟩ ?_
              refine pm_Wg.callS (m' := 83) (ix := 46) (rr := 101) (pl := 931) (As := [.int (s0.2.1 2 (Int32.toNatClampNeg (s0.1 1 4)))]) (S := [.ref 1]) (by decide) rfl (pm_dec tk_X6_step rfl) rfl rfl rfl (Nat.le_of_ble_eq_true rfl) rfl (e_X6_kindOf (by omega) q43) ?_
              by_cases h55 : ((cs_i (cs_i s0 1 3 r42) 1 5 (((cs_i s0 1 3 r42).1 1 4) + 1)).1 1 3) = 3
              · rw [if_pos h55] at H
                cases q57 : pm_loop pm_fu lb_X6_step_151 ((cs_i (cs_i s0 1 3 r42) 1 5 (((cs_i s0 1 3 r42).1 1 4) + 1)), l1, 0) with
                | none => rw [q57] at H; cases H
                | some e9 =>
                 rw [q57] at H
                 try dsimp only at H
                 refine pm_Wg.path (k := 11) (ds := [1]) (f' := (151, [some (.ref 1), some (.int l1), some (.int 0)], [], cl_h (ct_x v1 v2 v3 (cs_i (cs_i s0 1 3 r42) 1 5 (((cs_i s0 1 3 r42).1 1 4) + 1))) g1 g2 g3 g4 g5 g6 g7 g8 g9 q)) tk_X6_step (by omega) rfl ⟨h55, trivial⟩ ?_
                 exact ll_X6_step_151 (by omega) (fun e9 => pm_lst LB (some (.inr e9)) = some e) (fun e0 hk => K0 e0 (Option.some.inj hk ▸ hPe)) pm_fu _ _ _ _ q57 H
              · rw [if_neg h55] at H
                by_cases h56 : ((cs_i (cs_i s0 1 3 r42) 1 5 (((cs_i s0 1 3 r42).1 1 4) + 1)).1 1 3) = 4
                · rw [if_pos h56] at H
                  cases q58 : pm_loop pm_fu lb_X6_step_151 ((cs_i (cs_i s0 1 3 r42) 1 5 (((cs_i s0 1 3 r42).1 1 4) + 1)), l1, 0) with
                  | none => rw [q58] at H; cases H
                  | some e9 =>
                   rw [q58] at H
                   try dsimp only at H
                   refine pm_Wg.path (k := 15) (ds := [0, 1]) (f' := (151, [some (.ref 1), some (.int l1), some (.int 0)], [], cl_h (ct_x v1 v2 v3 (cs_i (cs_i s0 1 3 r42) 1 5 (((cs_i s0 1 3 r42).1 1 4) + 1))) g1 g2 g3 g4 g5 g6 g7 g8 g9 q)) tk_X6_step (by omega) rfl ⟨h56, h55, trivial⟩ ?_
                   exact ll_X6_step_151 (by omega) (fun e9 => pm_lst LB (some (.inr e9)) = some e) (fun e0 hk => K0 e0 (Option.some.inj hk ▸ hPe)) pm_fu _ _ _ _ q58 H
                · rw [if_neg h56] at H
                  have He := Option.some.inj H
                  subst He
                  have J := K0 _ hPe
                  subst J
                  refine pm_Wg.path (k := 15) (ds := [0, 0]) (f' := (150, [some (.ref 1), some (.int l1), some (.int 0)], [], cl_h (ct_x v1 v2 v3 (cs_i (cs_i s0 1 3 r42) 1 5 (((cs_i s0 1 3 r42).1 1 4) + 1))) g1 g2 g3 g4 g5 g6 g7 g8 g9 q)) tk_X6_step (by omega) rfl ⟨h56, h55, trivial⟩ ?_
                  exact pm_Wg.vret (pm_dec tk_X6_step rfl) rfl
            · rw [if_neg h46] at H
              have He := Option.some.inj H
              subst He
              have J := K0 _ hPe
              subst J
              refine pm_Wg.path (k := 14) (ds := [1, 1, 0]) (f' := (107, [some (.ref 1), some (.int l1), some (.int 0)], [], cl_h (ct_x v1 v2 v3 (cs_i s0 1 3 0)) g1 g2 g3 g4 g5 g6 g7 g8 g9 q)) tk_X6_step (by omega) rfl ⟨h46, h45, h44, trivial⟩ ?_
              exact pm_Wg.vret (pm_dec tk_X6_step rfl) rfl
          · rw [if_neg h45] at H
            by_cases h48 : (s0.1 1 4) = (s0.1 1 5)
            · rw [if_pos h48] at H
              by_cases h49 : (s0.1 1 4) < (s0.1 1 2)
              · rw [if_pos h49] at H
                refine pm_Wg.path (k := 23) (ds := [1, 0, 0, 1]) (f' := (118, [some (.ref 1), some (.int l1), some (.int 1)], [.int (s0.2.1 2 (Int32.toNatClampNeg (s0.1 1 4))), .ref 1], cl_h (ct_x v1 v2 v3 s0) g1 g2 g3 g4 g5 g6 g7 g8 g9 q)) tk_X6_step (by omega) rfl ⟨pm_inb_vp b12, h49, h48, h45, h44, trivial⟩ ?_
                refine pm_Wg.callS (m' := 83) (ix := 46) (rr := 101) (pl := 931) (As := [.int (s0.2.1 2 (Int32.toNatClampNeg (s0.1 1 4)))]) (S := [.ref 1]) (by decide) rfl (pm_dec tk_X6_step rfl) rfl rfl rfl (Nat.le_of_ble_eq_true rfl) rfl (e_X6_kindOf (by omega) q43) ?_
                by_cases h61 : ((cs_i (cs_i s0 1 3 r42) 1 5 (((cs_i s0 1 3 r42).1 1 4) + 1)).1 1 3) = 3
                · rw [if_pos h61] at H
                  cases q63 : pm_loop pm_fu lb_X6_step_151 ((cs_i (cs_i s0 1 3 r42) 1 5 (((cs_i s0 1 3 r42).1 1 4) + 1)), l1, 1) with
                  | none => rw [q63] at H; cases H
                  | some e9 =>
                   rw [q63] at H
                   try dsimp only at H
                   refine pm_Wg.path (k := 11) (ds := [1]) (f' := (151, [some (.ref 1), some (.int l1), some (.int 1)], [], cl_h (ct_x v1 v2 v3 (cs_i (cs_i s0 1 3 r42) 1 5 (((cs_i s0 1 3 r42).1 1 4) + 1))) g1 g2 g3 g4 g5 g6 g7 g8 g9 q)) tk_X6_step (by omega) rfl ⟨h61, trivial⟩ ?_
                   exact ll_X6_step_151 (by omega) (fun e9 => pm_lst LB (some (.inr e9)) = some e) (fun e0 hk => K0 e0 (Option.some.inj hk ▸ hPe)) pm_fu _ _ _ _ q63 H
                · rw [if_neg h61] at H
                  by_cases h62 : ((cs_i (cs_i s0 1 3 r42) 1 5 (((cs_i s0 1 3 r42).1 1 4) + 1)).1 1 3) = 4
                  · rw [if_pos h62] at H
                    cases q64 : pm_loop pm_fu lb_X6_step_151 ((cs_i (cs_i s0 1 3 r42) 1 5 (((cs_i s0 1 3 r42).1 1 4) + 1)), l1, 1) with
                    | none => rw [q64] at H; cases H
                    | some e9 =>
                     rw [q64] at H
                     try dsimp only at H
                     refine pm_Wg.path (k := 15) (ds := [0, 1]) (f' := (151, [some (.ref 1), some (.int l1), some (.int 1)], [], cl_h (ct_x v1 v2 v3 (cs_i (cs_i s0 1 3 r42) 1 5 (((cs_i s0 1 3 r42).1 1 4) + 1))) g1 g2 g3 g4 g5 g6 g7 g8 g9 q)) tk_X6_step (by omega) rfl ⟨h62, h61, trivial⟩ ?_
                     exact ll_X6_step_151 (by omega) (fun e9 => pm_lst LB (some (.inr e9)) = some e) (fun e0 hk => K0 e0 (Option.some.inj hk ▸ hPe)) pm_fu _ _ _ _ q64 H
                  · rw [if_neg h62] at H
                    have He := Option.some.inj H
                    subst He
                    have J := K0 _ hPe
                    subst J
                    refine pm_Wg.path (k := 15) (ds := [0, 0]) (f' := (150, [some (.ref 1), some (.int l1), some (.int 1)], [], cl_h (ct_x v1 v2 v3 (cs_i (cs_i s0 1 3 r42) 1 5 (((cs_i s0 1 3 r42).1 1 4) + 1))) g1 g2 g3 g4 g5 g6 g7 g8 g9 q)) tk_X6_step (by omega) rfl ⟨h62, h61, trivial⟩ ?_
                    exact pm_Wg.vret (pm_dec tk_X6_step rfl) rfl
              · rw [if_neg h49] at H
                have He := Option.some.inj H
                subst He
                have J := K0 _ hPe
                subst J
                refine pm_Wg.path (k := 20) (ds := [1, 0, 0, 0]) (f' := (107, [some (.ref 1), some (.int l1), some (.int 1)], [], cl_h (ct_x v1 v2 v3 (cs_i s0 1 3 0)) g1 g2 g3 g4 g5 g6 g7 g8 g9 q)) tk_X6_step (by omega) rfl ⟨h49, h48, h45, h44, trivial⟩ ?_
                exact pm_Wg.vret (pm_dec tk_X6_step rfl) rfl
            · rw [if_neg h48] at H
              by_cases h51 : (s0.1 1 4) < (s0.1 1 2)
              · rw [if_pos h51] at H
                refine pm_Wg.path (k := 22) (ds := [1, 0, 1, 1]) (f' := (118, [some (.ref 1), some (.int l1), some (.int 0)], [.int (s0.2.1 2 (Int32.toNatClampNeg (s0.1 1 4))), .ref 1], cl_h (ct_x v1 v2 v3 s0) g1 g2 g3 g4 g5 g6 g7 g8 g9 q)) tk_X6_step (by omega) rfl ⟨pm_inb_vp b12, h51, h48, h45, h44, trivial⟩ ?_
                refine pm_Wg.callS (m' := 83) (ix := 46) (rr := 101) (pl := 931) (As := [.int (s0.2.1 2 (Int32.toNatClampNeg (s0.1 1 4)))]) (S := [.ref 1]) (by decide) rfl (pm_dec tk_X6_step rfl) rfl rfl rfl (Nat.le_of_ble_eq_true rfl) rfl (e_X6_kindOf (by omega) q43) ?_
                by_cases h67 : ((cs_i (cs_i s0 1 3 r42) 1 5 (((cs_i s0 1 3 r42).1 1 4) + 1)).1 1 3) = 3
                · rw [if_pos h67] at H
                  cases q69 : pm_loop pm_fu lb_X6_step_151 ((cs_i (cs_i s0 1 3 r42) 1 5 (((cs_i s0 1 3 r42).1 1 4) + 1)), l1, 0) with
                  | none => rw [q69] at H; cases H
                  | some e9 =>
                   rw [q69] at H
                   try dsimp only at H
                   refine pm_Wg.path (k := 11) (ds := [1]) (f' := (151, [some (.ref 1), some (.int l1), some (.int 0)], [], cl_h (ct_x v1 v2 v3 (cs_i (cs_i s0 1 3 r42) 1 5 (((cs_i s0 1 3 r42).1 1 4) + 1))) g1 g2 g3 g4 g5 g6 g7 g8 g9 q)) tk_X6_step (by omega) rfl ⟨h67, trivial⟩ ?_
                   exact ll_X6_step_151 (by omega) (fun e9 => pm_lst LB (some (.inr e9)) = some e) (fun e0 hk => K0 e0 (Option.some.inj hk ▸ hPe)) pm_fu _ _ _ _ q69 H
                · rw [if_neg h67] at H
                  by_cases h68 : ((cs_i (cs_i s0 1 3 r42) 1 5 (((cs_i s0 1 3 r42).1 1 4) + 1)).1 1 3) = 4
                  · rw [if_pos h68] at H
                    cases q70 : pm_loop pm_fu lb_X6_step_151 ((cs_i (cs_i s0 1 3 r42) 1 5 (((cs_i s0 1 3 r42).1 1 4) + 1)), l1, 0) with
                    | none => rw [q70] at H; cases H
                    | some e9 =>
                     rw [q70] at H
                     try dsimp only at H
                     refine pm_Wg.path (k := 15) (ds := [0, 1]) (f' := (151, [some (.ref 1), some (.int l1), some (.int 0)], [], cl_h (ct_x v1 v2 v3 (cs_i (cs_i s0 1 3 r42) 1 5 (((cs_i s0 1 3 r42).1 1 4) + 1))) g1 g2 g3 g4 g5 g6 g7 g8 g9 q)) tk_X6_step (by omega) rfl ⟨h68, h67, trivial⟩ ?_
                     exact ll_X6_step_151 (by omega) (fun e9 => pm_lst LB (some (.inr e9)) = some e) (fun e0 hk => K0 e0 (Option.some.inj hk ▸ hPe)) pm_fu _ _ _ _ q70 H
                  · rw [if_neg h68] at H
                    have He := Option.some.inj H
                    subst He
                    have J := K0 _ hPe
                    subst J
                    refine pm_Wg.path (k := 15) (ds := [0, 0]) (f' := (150, [some (.ref 1), some (.int l1), some (.int 0)], [], cl_h (ct_x v1 v2 v3 (cs_i (cs_i s0 1 3 r42) 1 5 (((cs_i s0 1 3 r42).1 1 4) + 1))) g1 g2 g3 g4 g5 g6 g7 g8 g9 q)) tk_X6_step (by omega) rfl ⟨h68, h67, trivial⟩ ?_
                    exact pm_Wg.vret (pm_dec tk_X6_step rfl) rfl
              · rw [if_neg h51] at H
                have He := Option.some.inj H
                subst He
                have J := K0 _ hPe
                subst J
                refine pm_Wg.path (k := 19) (ds := [1, 0, 1, 0]) (f' := (107, [some (.ref 1), some (.int l1), some (.int 0)], [], cl_h (ct_x v1 v2 v3 (cs_i s0 1 3 0)) g1 g2 g3 g4 g5 g6 g7 g8 g9 q)) tk_X6_step (by omega) rfl ⟨h51, h48, h45, h44, trivial⟩ ?_
                exact pm_Wg.vret (pm_dec tk_X6_step rfl) rfl
set_option maxRecDepth 20000 in
set_option maxHeartbeats 20000000 in
theorem e_X6_step {d : Nat} (hd : 2 ≤ d) {g1 g2 g3 g4 g5 g6 g7 g8 g9 : List pm_E} {v1 v2 v3 : Value} {q : Nat × Nat × Nat} {s0 : cs_S} {z0 : cs_S} (H : f_X6_step s0 = some z0) : pm_Mt 84 d [.ref 1] (cl_h (ct_x v1 v2 v3 s0) g1 g2 g3 g4 g5 g6 g7 g8 g9 q) (.inl (none)) (cl_h (ct_x v1 v2 v3 z0) g1 g2 g3 g4 g5 g6 g7 g8 g9 q) := by
  refine pm_Mt.of (by decide) (by decide +kernel) rfl rfl ?_
  obtain ⟨d, rfl⟩ : ∃ d', d = d' + 1 := ⟨d - 1, by omega⟩
  unfold f_X6_step at H
  by_cases h1 : (s0.1 1 3) = 3
  · rw [if_pos h1] at H
    refine pm_Wg.path (k := 11) (ds := [1]) (f' := (30, [some (.ref 1), some (.int 1), none], [], cl_h (ct_x v1 v2 v3 (cs_i s0 1 4 (s0.1 1 5))) g1 g2 g3 g4 g5 g6 g7 g8 g9 q)) tk_X6_step (by omega) rfl ⟨h1, trivial⟩ ?_
    exact ll_X6_step_30 (by omega) (fun e => e = z0) (fun e he => he) pm_fu _ _ _ H rfl
  · rw [if_neg h1] at H
    by_cases h2 : (s0.1 1 3) = 4
    · rw [if_pos h2] at H
      refine pm_Wg.path (k := 15) (ds := [0, 0]) (f' := (30, [some (.ref 1), some (.int 1), none], [], cl_h (ct_x v1 v2 v3 (cs_i s0 1 4 (s0.1 1 5))) g1 g2 g3 g4 g5 g6 g7 g8 g9 q)) tk_X6_step (by omega) rfl ⟨h2, h1, trivial⟩ ?_
      exact ll_X6_step_30 (by omega) (fun e => e = z0) (fun e he => he) pm_fu _ _ _ H rfl
    · rw [if_neg h2] at H
      refine pm_Wg.path (k := 14) (ds := [0, 1]) (f' := (30, [some (.ref 1), some (.int 0), none], [], cl_h (ct_x v1 v2 v3 (cs_i s0 1 4 (s0.1 1 5))) g1 g2 g3 g4 g5 g6 g7 g8 g9 q)) tk_X6_step (by omega) rfl ⟨h2, h1, trivial⟩ ?_
      exact ll_X6_step_30 (by omega) (fun e => e = z0) (fun e he => he) pm_fu _ _ _ H rfl

def fc_X6_report_c2 (s0 : cs_S) (l1 : Int32) (k0 : Int32) : Option (cs_S) :=
  some (cs_i s0 1 3 k0)
def fc_X6_report_c1 (s0 : cs_S) (l1 : Int32) (k0 : Int32) : Option (cs_S) :=
  (fc_X6_report_c2 (cs_i s0 1 7 k0) l1 1)
def f_X6_report (s0 : cs_S) (a0 : Int32) : Option (cs_S) :=
  (if (s0.1 1 6) = 0 then
   (fc_X6_report_c1 (cs_i s0 1 6 a0) a0 ((cs_i s0 1 6 a0).1 1 4))
  else
   some (cs_i s0 1 3 1))
def tb_X6_report : List pm_I := [(0, .aload_n 0, 0, 0), (1, .getfield 31, 7, 0), (4, .ifCond .ne 16, 20, 0), (7, .aload_n 0, 0, 0), (8, .iload_n 1, 0, 0), (9, .putfield 31, 7, 0), (12, .aload_n 0, 0, 0), (13, .aload_n 0, 0, 0), (14, .getfield 25, 5, 0), (17, .putfield 34, 9, 0), (20, .aload_n 0, 0, 0), (21, .iconst 1, 3, 0), (22, .putfield 22, 4, 0), (25, .return_, 0, 0)]
theorem tk_X6_report : ∀ e ∈ tb_X6_report, pm_ck 85 e = true := List.all_eq_true.mp (by decide +kernel)
set_option maxRecDepth 20000 in
set_option maxHeartbeats 20000000 in
theorem ec_X6_report_c2 {d : Nat} (hd : 1 ≤ d) {g1 g2 g3 g4 g5 g6 g7 g8 g9 : List pm_E} {v1 v2 v3 : Value} {q : Nat × Nat × Nat} {s0 : cs_S} {l1 : Int32} {k0 : Int32} {z0 : cs_S} (H : fc_X6_report_c2 s0 l1 k0 = some z0) : pm_Wg 85 d (.inl (none)) (cl_h (ct_x v1 v2 v3 z0) g1 g2 g3 g4 g5 g6 g7 g8 g9 q) (22, [some (.ref 1), some (.int l1)], [.int k0, .ref 1], cl_h (ct_x v1 v2 v3 s0) g1 g2 g3 g4 g5 g6 g7 g8 g9 q) := by
  unfold fc_X6_report_c2 at H
  try dsimp only at H
  have J := Option.some.inj H
  subst J
  refine pm_Wg.path (k := 1) (ds := []) (f' := (25, [some (.ref 1), some (.int l1)], [], cl_h (ct_x v1 v2 v3 (cs_i s0 1 3 k0)) g1 g2 g3 g4 g5 g6 g7 g8 g9 q)) tk_X6_report (by omega) rfl trivial ?_
  exact pm_Wg.vret (pm_dec tk_X6_report rfl) rfl
set_option maxRecDepth 20000 in
set_option maxHeartbeats 20000000 in
theorem ec_X6_report_c1 {d : Nat} (hd : 1 ≤ d) {g1 g2 g3 g4 g5 g6 g7 g8 g9 : List pm_E} {v1 v2 v3 : Value} {q : Nat × Nat × Nat} {s0 : cs_S} {l1 : Int32} {k0 : Int32} {z0 : cs_S} (H : fc_X6_report_c1 s0 l1 k0 = some z0) : pm_Wg 85 d (.inl (none)) (cl_h (ct_x v1 v2 v3 z0) g1 g2 g3 g4 g5 g6 g7 g8 g9 q) (17, [some (.ref 1), some (.int l1)], [.int k0, .ref 1], cl_h (ct_x v1 v2 v3 s0) g1 g2 g3 g4 g5 g6 g7 g8 g9 q) := by
  unfold fc_X6_report_c1 at H
  try dsimp only at H
  refine pm_Wg.path (k := 3) (ds := []) (f' := (22, [some (.ref 1), some (.int l1)], [.int 1, .ref 1], cl_h (ct_x v1 v2 v3 (cs_i s0 1 7 k0)) g1 g2 g3 g4 g5 g6 g7 g8 g9 q)) tk_X6_report (by omega) rfl trivial ?_
  exact ec_X6_report_c2 (by omega) H
set_option maxRecDepth 20000 in
set_option maxHeartbeats 20000000 in
theorem e_X6_report {d : Nat} (hd : 1 ≤ d) {g1 g2 g3 g4 g5 g6 g7 g8 g9 : List pm_E} {v1 v2 v3 : Value} {q : Nat × Nat × Nat} {s0 : cs_S} {a0 : Int32} {z0 : cs_S} (H : f_X6_report s0 a0 = some z0) : pm_Mt 85 d [.ref 1, .int a0] (cl_h (ct_x v1 v2 v3 s0) g1 g2 g3 g4 g5 g6 g7 g8 g9 q) (.inl (none)) (cl_h (ct_x v1 v2 v3 z0) g1 g2 g3 g4 g5 g6 g7 g8 g9 q) := by
  refine pm_Mt.of (by decide) (by decide +kernel) rfl rfl ?_
  unfold f_X6_report at H
  by_cases h1 : (s0.1 1 6) = 0
  · rw [if_pos h1] at H
    refine pm_Wg.path (k := 9) (ds := [0]) (f' := (17, [some (.ref 1), some (.int a0)], [.int ((cs_i s0 1 6 a0).1 1 4), .ref 1], cl_h (ct_x v1 v2 v3 (cs_i s0 1 6 a0)) g1 g2 g3 g4 g5 g6 g7 g8 g9 q)) tk_X6_report (by omega) rfl ⟨h1, trivial⟩ ?_
    exact ec_X6_report_c1 (by omega) H
  · rw [if_neg h1] at H
    have J := Option.some.inj H
    subst J
    refine pm_Wg.path (k := 6) (ds := [1]) (f' := (25, [some (.ref 1), some (.int a0)], [], cl_h (ct_x v1 v2 v3 (cs_i s0 1 3 1)) g1 g2 g3 g4 g5 g6 g7 g8 g9 q)) tk_X6_report (by omega) rfl ⟨h1, trivial⟩ ?_
    exact pm_Wg.vret (pm_dec tk_X6_report rfl) rfl

def f_X6_passSign (s0 : cs_S) : Option (cs_S) :=
  (if (s0.1 1 3) = 5 then
   (match f_X6_step s0 with
   | none => none
   | some s0_2 =>
    some s0_2)
  else
   (match f_X6_report s0 1 with
   | none => none
   | some s0_4 =>
    some s0_4))
def tb_X6_passSign : List pm_I := [(0, .aload_n 0, 0, 0), (1, .getfield 22, 4, 0), (4, .iconst 5, 7, 0), (5, .if_icmp .ne 10, 15, 0), (8, .aload_n 0, 0, 0), (9, .invokevirtual 43, 100, 0), (12, .goto 8, 20, 0), (15, .aload_n 0, 0, 0), (16, .iconst 1, 3, 0), (17, .invokevirtual 63, 117, 0), (20, .return_, 0, 0)]
theorem tk_X6_passSign : ∀ e ∈ tb_X6_passSign, pm_ck 88 e = true := List.all_eq_true.mp (by decide +kernel)
set_option maxRecDepth 20000 in
set_option maxHeartbeats 20000000 in
theorem e_X6_passSign {d : Nat} (hd : 3 ≤ d) {g1 g2 g3 g4 g5 g6 g7 g8 g9 : List pm_E} {v1 v2 v3 : Value} {q : Nat × Nat × Nat} {s0 : cs_S} {z0 : cs_S} (H : f_X6_passSign s0 = some z0) : pm_Mt 88 d [.ref 1] (cl_h (ct_x v1 v2 v3 s0) g1 g2 g3 g4 g5 g6 g7 g8 g9 q) (.inl (none)) (cl_h (ct_x v1 v2 v3 z0) g1 g2 g3 g4 g5 g6 g7 g8 g9 q) := by
  refine pm_Mt.of (by decide) (by decide +kernel) rfl rfl ?_
  obtain ⟨d, rfl⟩ : ∃ d', d = d' + 1 := ⟨d - 1, by omega⟩
  unfold f_X6_passSign at H
  by_cases h1 : (s0.1 1 3) = 5
  · rw [if_pos h1] at H
    cases q3 : f_X6_step s0 with
    | none => rw [q3] at H; cases H
    | some s0_2 =>
     rw [q3] at H
     dsimp only at H
     refine pm_Wg.path (k := 5) (ds := [0]) (f' := (9, [some (.ref 1)], [.ref 1], cl_h (ct_x v1 v2 v3 s0) g1 g2 g3 g4 g5 g6 g7 g8 g9 q)) tk_X6_passSign (by omega) rfl ⟨h1, trivial⟩ ?_
     refine pm_Wg.callV (m' := 84) (ix := 43) (rr := 100) (pl := 927) (b := 1) (As := []) (S := []) (by decide) rfl (pm_dec tk_X6_passSign rfl) rfl rfl (by decide) rfl rfl (by decide) (Nat.le_of_ble_eq_true rfl) rfl (e_X6_step (by omega) q3) ?_
     have J := Option.some.inj H
     subst J
     refine pm_Wg.path (k := 1) (ds := []) (f' := (20, [some (.ref 1)], [], cl_h (ct_x v1 v2 v3 s0_2) g1 g2 g3 g4 g5 g6 g7 g8 g9 q)) tk_X6_passSign (by omega) rfl trivial ?_
     exact pm_Wg.vret (pm_dec tk_X6_passSign rfl) rfl
  · rw [if_neg h1] at H
    cases q5 : f_X6_report s0 1 with
    | none => rw [q5] at H; cases H
    | some s0_4 =>
     rw [q5] at H
     dsimp only at H
     refine pm_Wg.path (k := 6) (ds := [1]) (f' := (17, [some (.ref 1)], [.int 1, .ref 1], cl_h (ct_x v1 v2 v3 s0) g1 g2 g3 g4 g5 g6 g7 g8 g9 q)) tk_X6_passSign (by omega) rfl ⟨h1, trivial⟩ ?_
     refine pm_Wg.callV (m' := 85) (ix := 63) (rr := 117) (pl := 995) (b := 1) (As := [.int 1]) (S := []) (by decide) rfl (pm_dec tk_X6_passSign rfl) rfl rfl (by decide) rfl rfl (by decide) (Nat.le_of_ble_eq_true rfl) rfl (e_X6_report (by omega) q5) ?_
     have J := Option.some.inj H
     subst J
     exact pm_Wg.vret (pm_dec tk_X6_passSign rfl) rfl

def f_X6_passEnd (s0 : cs_S) : Option (cs_S) :=
  (if (s0.1 1 3) = 0 then
   some s0
  else
   (match f_X6_report s0 1 with
   | none => none
   | some s0_2 =>
    some s0_2))
def tb_X6_passEnd : List pm_I := [(0, .aload_n 0, 0, 0), (1, .getfield 22, 4, 0), (4, .ifCond .eq 8, 12, 0), (7, .aload_n 0, 0, 0), (8, .iconst 1, 3, 0), (9, .invokevirtual 63, 117, 0), (12, .return_, 0, 0)]
theorem tk_X6_passEnd : ∀ e ∈ tb_X6_passEnd, pm_ck 89 e = true := List.all_eq_true.mp (by decide +kernel)
set_option maxRecDepth 20000 in
set_option maxHeartbeats 20000000 in
theorem e_X6_passEnd {d : Nat} (hd : 2 ≤ d) {g1 g2 g3 g4 g5 g6 g7 g8 g9 : List pm_E} {v1 v2 v3 : Value} {q : Nat × Nat × Nat} {s0 : cs_S} {z0 : cs_S} (H : f_X6_passEnd s0 = some z0) : pm_Mt 89 d [.ref 1] (cl_h (ct_x v1 v2 v3 s0) g1 g2 g3 g4 g5 g6 g7 g8 g9 q) (.inl (none)) (cl_h (ct_x v1 v2 v3 z0) g1 g2 g3 g4 g5 g6 g7 g8 g9 q) := by
  refine pm_Mt.of (by decide) (by decide +kernel) rfl rfl ?_
  obtain ⟨d, rfl⟩ : ∃ d', d = d' + 1 := ⟨d - 1, by omega⟩
  unfold f_X6_passEnd at H
  by_cases h1 : (s0.1 1 3) = 0
  · rw [if_pos h1] at H
    have J := Option.some.inj H
    subst J
    refine pm_Wg.path (k := 3) (ds := [1]) (f' := (12, [some (.ref 1)], [], cl_h (ct_x v1 v2 v3 s0) g1 g2 g3 g4 g5 g6 g7 g8 g9 q)) tk_X6_passEnd (by omega) rfl ⟨h1, trivial⟩ ?_
    exact pm_Wg.vret (pm_dec tk_X6_passEnd rfl) rfl
  · rw [if_neg h1] at H
    cases q3 : f_X6_report s0 1 with
    | none => rw [q3] at H; cases H
    | some s0_2 =>
     rw [q3] at H
     dsimp only at H
     refine pm_Wg.path (k := 5) (ds := [0]) (f' := (9, [some (.ref 1)], [.int 1, .ref 1], cl_h (ct_x v1 v2 v3 s0) g1 g2 g3 g4 g5 g6 g7 g8 g9 q)) tk_X6_passEnd (by omega) rfl ⟨h1, trivial⟩ ?_
     refine pm_Wg.callV (m' := 85) (ix := 63) (rr := 117) (pl := 995) (b := 1) (As := [.int 1]) (S := []) (by decide) rfl (pm_dec tk_X6_passEnd rfl) rfl rfl (by decide) rfl rfl (by decide) (Nat.le_of_ble_eq_true rfl) rfl (e_X6_report (by omega) q3) ?_
     have J := Option.some.inj H
     subst J
     exact pm_Wg.vret (pm_dec tk_X6_passEnd rfl) rfl

def lb_X6_takeFitting_24 (x : cs_S × Int32 × Int32 × Int32 × Int32 × Int32) : Option ((cs_S × Int32 × Int32 × Int32 × Int32 × Int32) ⊕ (Int32 × cs_S)) := match x with
  | (s0, l1, l2, l3, l4, l5) =>
   (if (s0.1 1 5) ≤ l5 then
    (if l4 < l1 then
     (if l3 = 0 then
      (match f_X6_report s0 2 with
      | none => none
      | some s0_10 =>
       some (.inr (0, s0_10)))
     else
      (if l4 = 0 then
       (match f_X6_step s0 with
       | none => none
       | some s0_12 =>
        some (.inr (l4, s0_12)))
      else
       (match f_X6_report s0 2 with
       | none => none
       | some s0_14 =>
        some (.inr (0, s0_14)))))
    else
     (if l2 < l4 then
      (if l3 = 0 then
       (match f_X6_report s0 2 with
       | none => none
       | some s0_16 =>
        some (.inr (0, s0_16)))
      else
       (if l4 = 0 then
        (match f_X6_step s0 with
        | none => none
        | some s0_18 =>
         some (.inr (l4, s0_18)))
       else
        (match f_X6_report s0 2 with
        | none => none
        | some s0_20 =>
         some (.inr (0, s0_20)))))
     else
      (match f_X6_step s0 with
      | none => none
      | some s0_22 =>
       some (.inr (l4, s0_22)))))
   else
    (match pm_inb l5 800 with
    | false => none
    | true =>
    some (.inl (s0, l1, l2, l3, ((l4 * 10) + ((s0.2.1 2 (Int32.toNatClampNeg l5)) - 48)), (l5 + 1)))))
def f_X6_takeFitting (s0 : cs_S) (a0 : Int32) (a1 : Int32) (a2 : Int32) : Option (Int32 × cs_S) :=
  (if (s0.1 1 3) = 4 then
   (pm_loop pm_fu lb_X6_takeFitting_24 (s0, a0, a1, a2, 0, (s0.1 1 4)))
  else
   (match f_X6_report s0 1 with
   | none => none
   | some s0_25 =>
    some (0, s0_25)))
def tb_X6_takeFitting : List pm_I := [(0, .aload_n 0, 0, 0), (1, .getfield 22, 4, 0), (4, .iconst 4, 6, 0), (5, .if_icmp .eq 10, 15, 0), (8, .aload_n 0, 0, 0), (9, .iconst 1, 3, 0), (10, .invokevirtual 63, 117, 0), (13, .iconst 0, 2, 0), (14, .ireturn, 0, 0), (15, .iconst 0, 2, 0), (16, .istore 4, 0, 0), (18, .aload_n 0, 0, 0), (19, .getfield 25, 5, 0), (22, .istore 5, 0, 0), (24, .iload 5, 0, 0), (26, .aload_n 0, 0, 0), (27, .getfield 28, 6, 0), (30, .if_icmp .ge 27, 57, 0), (33, .iload 4, 0, 0), (35, .bipush 10, 12, 0), (37, .imul, 0, 0), (38, .aload_n 0, 0, 0), (39, .getfield 9, 0, 0), (42, .iload 5, 0, 0), (44, .baload, 0, 0), (45, .bipush 48, 21, 0), (47, .isub, 0, 0), (48, .iadd, 0, 0), (49, .istore 4, 0, 0), (51, .iinc 5 1, 3, 0), (54, .goto (-30), 24, 0), (57, .iload 4, 0, 0), (59, .iload_n 1, 0, 0), (60, .if_icmp .lt 13, 73, 0), (63, .iload 4, 0, 0), (65, .iload_n 2, 0, 0), (66, .if_icmp .gt 7, 73, 0), (69, .iconst 1, 3, 0), (70, .goto 4, 74, 0), (73, .iconst 0, 2, 0), (74, .istore 5, 0, 0), (76, .iload 5, 0, 0), (78, .ifCond .ne 12, 90, 0), (81, .iload_n 3, 0, 0), (82, .ifCond .eq 15, 97, 0), (85, .iload 4, 0, 0), (87, .ifCond .ne 10, 97, 0), (90, .aload_n 0, 0, 0), (91, .invokevirtual 43, 100, 0), (94, .iload 4, 0, 0), (96, .ireturn, 0, 0), (97, .aload_n 0, 0, 0), (98, .iconst 2, 4, 0), (99, .invokevirtual 63, 117, 0), (102, .iconst 0, 2, 0), (103, .ireturn, 0, 0)]
theorem tk_X6_takeFitting : ∀ e ∈ tb_X6_takeFitting, pm_ck 92 e = true := List.all_eq_true.mp (by decide +kernel)
set_option maxRecDepth 20000 in
set_option maxHeartbeats 40000000 in
theorem ll_X6_takeFitting_24 {d : Nat} (hd : 3 ≤ d) {g1 g2 g3 g4 g5 g6 g7 g8 g9 : List pm_E} {v1 v2 v3 : Value} {q : Nat × Nat × Nat} {r : Int32} {z0 : cs_S} (P : Int32 × cs_S → Prop) (K0 : ∀ e : Int32 × cs_S, P (e) → e = (r, z0)) : ∀ (n : Nat) (s0 : cs_S) (l1 : Int32) (l2 : Int32) (l3 : Int32) (l4 : Int32) (l5 : Int32) (e : Int32 × cs_S), pm_loop n lb_X6_takeFitting_24 (s0, l1, l2, l3, l4, l5) = some e → P e → pm_Wg 92 d (.inl (some (.int r))) (cl_h (ct_x v1 v2 v3 z0) g1 g2 g3 g4 g5 g6 g7 g8 g9 q) (24, [some (.ref 1), some (.int l1), some (.int l2), some (.int l3), some (.int l4), some (.int l5)], [], cl_h (ct_x v1 v2 v3 s0) g1 g2 g3 g4 g5 g6 g7 g8 g9 q) := by
  intro n
  induction n with
  | zero => intro s0 l1 l2 l3 l4 l5 e H; cases H
  | succ n ih =>
    intro s0 l1 l2 l3 l4 l5 e H hPe
    obtain ⟨d, rfl⟩ : ∃ d', d = d' + 1 := ⟨d - 1, by omega⟩
    have H : pm_lst (pm_loop n lb_X6_takeFitting_24) (lb_X6_takeFitting_24 (s0, l1, l2, l3, l4, l5)) = some e := H
    generalize pm_loop n lb_X6_takeFitting_24 = LB at H ih
    unfold lb_X6_takeFitting_24 at H
    try dsimp only at H
    by_cases h2 : (s0.1 1 5) ≤ l5
    · rw [if_pos h2] at H
      by_cases h3 : l4 < l1
      · rw [if_pos h3] at H
        by_cases h4 : l3 = 0
        · rw [if_pos h4] at H
          cases q11 : f_X6_report s0 2 with
          | none => rw [q11] at H; cases H
          | some s0_10 =>
           rw [q11] at H
           dsimp only at H
           refine pm_Wg.path (k := 15) (ds := [1, 1, 0, 1]) (f' := (99, [some (.ref 1), some (.int l1), some (.int l2), some (.int l3), some (.int l4), some (.int 0)], [.int 2, .ref 1], cl_h (ct_x v1 v2 v3 s0) g1 g2 g3 g4 g5 g6 g7 g8 g9 q)) tk_X6_takeFitting (by omega) rfl ⟨h4, (by decide), h3, h2, trivial⟩ ?_
           refine pm_Wg.callV (m' := 85) (ix := 63) (rr := 117) (pl := 995) (b := 1) (As := [.int 2]) (S := []) (by decide) rfl (pm_dec tk_X6_takeFitting rfl) rfl rfl (by decide) rfl rfl (by decide) (Nat.le_of_ble_eq_true rfl) rfl (e_X6_report (by omega) q11) ?_
           have He := Option.some.inj H
           subst He
           have J := K0 _ hPe
           injection J with J0a J0z
           subst J0a
           subst J0z
           refine pm_Wg.path (k := 1) (ds := []) (f' := (103, [some (.ref 1), some (.int l1), some (.int l2), some (.int l3), some (.int l4), some (.int 0)], [.int 0], cl_h (ct_x v1 v2 v3 s0_10) g1 g2 g3 g4 g5 g6 g7 g8 g9 q)) tk_X6_takeFitting (by omega) rfl trivial ?_
           exact pm_Wg.iret (pm_dec tk_X6_takeFitting rfl) rfl rfl
        · rw [if_neg h4] at H
          by_cases h5 : l4 = 0
          · rw [if_pos h5] at H
            cases q13 : f_X6_step s0 with
            | none => rw [q13] at H; cases H
            | some s0_12 =>
             rw [q13] at H
             dsimp only at H
             refine pm_Wg.path (k := 16) (ds := [1, 1, 0, 0, 0]) (f' := (91, [some (.ref 1), some (.int l1), some (.int l2), some (.int l3), some (.int l4), some (.int 0)], [.ref 1], cl_h (ct_x v1 v2 v3 s0) g1 g2 g3 g4 g5 g6 g7 g8 g9 q)) tk_X6_takeFitting (by omega) rfl ⟨h5, h4, (by decide), h3, h2, trivial⟩ ?_
             refine pm_Wg.callV (m' := 84) (ix := 43) (rr := 100) (pl := 927) (b := 1) (As := []) (S := []) (by decide) rfl (pm_dec tk_X6_takeFitting rfl) rfl rfl (by decide) rfl rfl (by decide) (Nat.le_of_ble_eq_true rfl) rfl (e_X6_step (by omega) q13) ?_
             have He := Option.some.inj H
             subst He
             have J := K0 _ hPe
             injection J with J0a J0z
             subst J0a
             subst J0z
             refine pm_Wg.path (k := 1) (ds := []) (f' := (96, [some (.ref 1), some (.int l1), some (.int l2), some (.int l3), some (.int l4), some (.int 0)], [.int l4], cl_h (ct_x v1 v2 v3 s0_12) g1 g2 g3 g4 g5 g6 g7 g8 g9 q)) tk_X6_takeFitting (by omega) rfl trivial ?_
             exact pm_Wg.iret (pm_dec tk_X6_takeFitting rfl) rfl rfl
          · rw [if_neg h5] at H
            cases q15 : f_X6_report s0 2 with
            | none => rw [q15] at H; cases H
            | some s0_14 =>
             rw [q15] at H
             dsimp only at H
             refine pm_Wg.path (k := 17) (ds := [1, 1, 0, 0, 1]) (f' := (99, [some (.ref 1), some (.int l1), some (.int l2), some (.int l3), some (.int l4), some (.int 0)], [.int 2, .ref 1], cl_h (ct_x v1 v2 v3 s0) g1 g2 g3 g4 g5 g6 g7 g8 g9 q)) tk_X6_takeFitting (by omega) rfl ⟨h5, h4, (by decide), h3, h2, trivial⟩ ?_
             refine pm_Wg.callV (m' := 85) (ix := 63) (rr := 117) (pl := 995) (b := 1) (As := [.int 2]) (S := []) (by decide) rfl (pm_dec tk_X6_takeFitting rfl) rfl rfl (by decide) rfl rfl (by decide) (Nat.le_of_ble_eq_true rfl) rfl (e_X6_report (by omega) q15) ?_
             have He := Option.some.inj H
             subst He
             have J := K0 _ hPe
             injection J with J0a J0z
             subst J0a
             subst J0z
             refine pm_Wg.path (k := 1) (ds := []) (f' := (103, [some (.ref 1), some (.int l1), some (.int l2), some (.int l3), some (.int l4), some (.int 0)], [.int 0], cl_h (ct_x v1 v2 v3 s0_14) g1 g2 g3 g4 g5 g6 g7 g8 g9 q)) tk_X6_takeFitting (by omega) rfl trivial ?_
             exact pm_Wg.iret (pm_dec tk_X6_takeFitting rfl) rfl rfl
      · rw [if_neg h3] at H
        by_cases h6 : l2 < l4
        · rw [if_pos h6] at H
          by_cases h7 : l3 = 0
          · rw [if_pos h7] at H
            cases q17 : f_X6_report s0 2 with
            | none => rw [q17] at H; cases H
            | some s0_16 =>
             rw [q17] at H
             dsimp only at H
             refine pm_Wg.path (k := 18) (ds := [1, 0, 1, 0, 1]) (f' := (99, [some (.ref 1), some (.int l1), some (.int l2), some (.int l3), some (.int l4), some (.int 0)], [.int 2, .ref 1], cl_h (ct_x v1 v2 v3 s0) g1 g2 g3 g4 g5 g6 g7 g8 g9 q)) tk_X6_takeFitting (by omega) rfl ⟨h7, (by decide), h6, h3, h2, trivial⟩ ?_
             refine pm_Wg.callV (m' := 85) (ix := 63) (rr := 117) (pl := 995) (b := 1) (As := [.int 2]) (S := []) (by decide) rfl (pm_dec tk_X6_takeFitting rfl) rfl rfl (by decide) rfl rfl (by decide) (Nat.le_of_ble_eq_true rfl) rfl (e_X6_report (by omega) q17) ?_
             have He := Option.some.inj H
             subst He
             have J := K0 _ hPe
             injection J with J0a J0z
             subst J0a
             subst J0z
             refine pm_Wg.path (k := 1) (ds := []) (f' := (103, [some (.ref 1), some (.int l1), some (.int l2), some (.int l3), some (.int l4), some (.int 0)], [.int 0], cl_h (ct_x v1 v2 v3 s0_16) g1 g2 g3 g4 g5 g6 g7 g8 g9 q)) tk_X6_takeFitting (by omega) rfl trivial ?_
             exact pm_Wg.iret (pm_dec tk_X6_takeFitting rfl) rfl rfl
          · rw [if_neg h7] at H
            by_cases h8 : l4 = 0
            · rw [if_pos h8] at H
              cases q19 : f_X6_step s0 with
              | none => rw [q19] at H; cases H
              | some s0_18 =>
               rw [q19] at H
               dsimp only at H
               refine pm_Wg.path (k := 19) (ds := [1, 0, 1, 0, 0, 0]) (f' := (91, [some (.ref 1), some (.int l1), some (.int l2), some (.int l3), some (.int l4), some (.int 0)], [.ref 1], cl_h (ct_x v1 v2 v3 s0) g1 g2 g3 g4 g5 g6 g7 g8 g9 q)) tk_X6_takeFitting (by omega) rfl ⟨h8, h7, (by decide), h6, h3, h2, trivial⟩ ?_
               refine pm_Wg.callV (m' := 84) (ix := 43) (rr := 100) (pl := 927) (b := 1) (As := []) (S := []) (by decide) rfl (pm_dec tk_X6_takeFitting rfl) rfl rfl (by decide) rfl rfl (by decide) (Nat.le_of_ble_eq_true rfl) rfl (e_X6_step (by omega) q19) ?_
               have He := Option.some.inj H
               subst He
               have J := K0 _ hPe
               injection J with J0a J0z
               subst J0a
               subst J0z
               refine pm_Wg.path (k := 1) (ds := []) (f' := (96, [some (.ref 1), some (.int l1), some (.int l2), some (.int l3), some (.int l4), some (.int 0)], [.int l4], cl_h (ct_x v1 v2 v3 s0_18) g1 g2 g3 g4 g5 g6 g7 g8 g9 q)) tk_X6_takeFitting (by omega) rfl trivial ?_
               exact pm_Wg.iret (pm_dec tk_X6_takeFitting rfl) rfl rfl
            · rw [if_neg h8] at H
              cases q21 : f_X6_report s0 2 with
              | none => rw [q21] at H; cases H
              | some s0_20 =>
               rw [q21] at H
               dsimp only at H
               refine pm_Wg.path (k := 20) (ds := [1, 0, 1, 0, 0, 1]) (f' := (99, [some (.ref 1), some (.int l1), some (.int l2), some (.int l3), some (.int l4), some (.int 0)], [.int 2, .ref 1], cl_h (ct_x v1 v2 v3 s0) g1 g2 g3 g4 g5 g6 g7 g8 g9 q)) tk_X6_takeFitting (by omega) rfl ⟨h8, h7, (by decide), h6, h3, h2, trivial⟩ ?_
               refine pm_Wg.callV (m' := 85) (ix := 63) (rr := 117) (pl := 995) (b := 1) (As := [.int 2]) (S := []) (by decide) rfl (pm_dec tk_X6_takeFitting rfl) rfl rfl (by decide) rfl rfl (by decide) (Nat.le_of_ble_eq_true rfl) rfl (e_X6_report (by omega) q21) ?_
               have He := Option.some.inj H
               subst He
               have J := K0 _ hPe
               injection J with J0a J0z
               subst J0a
               subst J0z
               refine pm_Wg.path (k := 1) (ds := []) (f' := (103, [some (.ref 1), some (.int l1), some (.int l2), some (.int l3), some (.int l4), some (.int 0)], [.int 0], cl_h (ct_x v1 v2 v3 s0_20) g1 g2 g3 g4 g5 g6 g7 g8 g9 q)) tk_X6_takeFitting (by omega) rfl trivial ?_
               exact pm_Wg.iret (pm_dec tk_X6_takeFitting rfl) rfl rfl
        · rw [if_neg h6] at H
          cases q23 : f_X6_step s0 with
          | none => rw [q23] at H; cases H
          | some s0_22 =>
           rw [q23] at H
           dsimp only at H
           refine pm_Wg.path (k := 16) (ds := [1, 0, 0, 1]) (f' := (91, [some (.ref 1), some (.int l1), some (.int l2), some (.int l3), some (.int l4), some (.int 1)], [.ref 1], cl_h (ct_x v1 v2 v3 s0) g1 g2 g3 g4 g5 g6 g7 g8 g9 q)) tk_X6_takeFitting (by omega) rfl ⟨(by decide), h6, h3, h2, trivial⟩ ?_
           refine pm_Wg.callV (m' := 84) (ix := 43) (rr := 100) (pl := 927) (b := 1) (As := []) (S := []) (by decide) rfl (pm_dec tk_X6_takeFitting rfl) rfl rfl (by decide) rfl rfl (by decide) (Nat.le_of_ble_eq_true rfl) rfl (e_X6_step (by omega) q23) ?_
           have He := Option.some.inj H
           subst He
           have J := K0 _ hPe
           injection J with J0a J0z
           subst J0a
           subst J0z
           refine pm_Wg.path (k := 1) (ds := []) (f' := (96, [some (.ref 1), some (.int l1), some (.int l2), some (.int l3), some (.int l4), some (.int 1)], [.int l4], cl_h (ct_x v1 v2 v3 s0_22) g1 g2 g3 g4 g5 g6 g7 g8 g9 q)) tk_X6_takeFitting (by omega) rfl trivial ?_
           exact pm_Wg.iret (pm_dec tk_X6_takeFitting rfl) rfl rfl
    · rw [if_neg h2] at H
      cases b9 : pm_inb l5 800 with
      | false => rw [b9] at H; cases H
      | true =>
       rw [b9] at H
       dsimp only at H
       refine pm_Wg.path (k := 17) (ds := [0]) (f' := (24, [some (.ref 1), some (.int l1), some (.int l2), some (.int l3), some (.int ((l4 * 10) + ((s0.2.1 2 (Int32.toNatClampNeg l5)) - 48))), some (.int (l5 + 1))], [], cl_h (ct_x v1 v2 v3 s0) g1 g2 g3 g4 g5 g6 g7 g8 g9 q)) tk_X6_takeFitting (by omega) rfl ⟨pm_inb_vp b9, h2, trivial⟩ ?_
       exact ih _ _ _ _ _ _ e H hPe
set_option maxRecDepth 20000 in
set_option maxHeartbeats 20000000 in
theorem e_X6_takeFitting {d : Nat} (hd : 3 ≤ d) {g1 g2 g3 g4 g5 g6 g7 g8 g9 : List pm_E} {v1 v2 v3 : Value} {q : Nat × Nat × Nat} {s0 : cs_S} {a0 : Int32} {a1 : Int32} {a2 : Int32} {r : Int32} {z0 : cs_S} (H : f_X6_takeFitting s0 a0 a1 a2 = some (r, z0)) : pm_Mt 92 d [.ref 1, .int a0, .int a1, .int a2] (cl_h (ct_x v1 v2 v3 s0) g1 g2 g3 g4 g5 g6 g7 g8 g9 q) (.inl (some (.int r))) (cl_h (ct_x v1 v2 v3 z0) g1 g2 g3 g4 g5 g6 g7 g8 g9 q) := by
  refine pm_Mt.of (by decide) (by decide +kernel) rfl rfl ?_
  obtain ⟨d, rfl⟩ : ∃ d', d = d' + 1 := ⟨d - 1, by omega⟩
  unfold f_X6_takeFitting at H
  by_cases h1 : (s0.1 1 3) = 4
  · rw [if_pos h1] at H
    refine pm_Wg.path (k := 9) (ds := [1]) (f' := (24, [some (.ref 1), some (.int a0), some (.int a1), some (.int a2), some (.int 0), some (.int (s0.1 1 4))], [], cl_h (ct_x v1 v2 v3 s0) g1 g2 g3 g4 g5 g6 g7 g8 g9 q)) tk_X6_takeFitting (by omega) rfl ⟨h1, trivial⟩ ?_
    exact ll_X6_takeFitting_24 (by omega) (fun e => e = (r, z0)) (fun e he => he) pm_fu _ _ _ _ _ _ _ H rfl
  · rw [if_neg h1] at H
    cases q26 : f_X6_report s0 1 with
    | none => rw [q26] at H; cases H
    | some s0_25 =>
     rw [q26] at H
     dsimp only at H
     refine pm_Wg.path (k := 6) (ds := [0]) (f' := (10, [some (.ref 1), some (.int a0), some (.int a1), some (.int a2), none, none], [.int 1, .ref 1], cl_h (ct_x v1 v2 v3 s0) g1 g2 g3 g4 g5 g6 g7 g8 g9 q)) tk_X6_takeFitting (by omega) rfl ⟨h1, trivial⟩ ?_
     refine pm_Wg.callV (m' := 85) (ix := 63) (rr := 117) (pl := 995) (b := 1) (As := [.int 1]) (S := []) (by decide) rfl (pm_dec tk_X6_takeFitting rfl) rfl rfl (by decide) rfl rfl (by decide) (Nat.le_of_ble_eq_true rfl) rfl (e_X6_report (by omega) q26) ?_
     have J := Option.some.inj H
     injection J with J0a J0z
     subst J0a
     subst J0z
     refine pm_Wg.path (k := 1) (ds := []) (f' := (14, [some (.ref 1), some (.int a0), some (.int a1), some (.int a2), none, none], [.int 0], cl_h (ct_x v1 v2 v3 s0_25) g1 g2 g3 g4 g5 g6 g7 g8 g9 q)) tk_X6_takeFitting (by omega) rfl trivial ?_
     exact pm_Wg.iret (pm_dec tk_X6_takeFitting rfl) rfl rfl

def f_J6_bitCount_0f7a4 (a0 : Int32) : Option (Int32) :=
  some ((((((((a0 - ((Int32.toUInt32 a0 >>> (Int32.toUInt32 1 &&& Int32.toUInt32 31)).toInt32 &&& 1431655765)) &&& 858993459) + ((Int32.toUInt32 (a0 - ((Int32.toUInt32 a0 >>> (Int32.toUInt32 1 &&& Int32.toUInt32 31)).toInt32 &&& 1431655765)) >>> (Int32.toUInt32 2 &&& Int32.toUInt32 31)).toInt32 &&& 858993459)) + (Int32.toUInt32 (((a0 - ((Int32.toUInt32 a0 >>> (Int32.toUInt32 1 &&& Int32.toUInt32 31)).toInt32 &&& 1431655765)) &&& 858993459) + ((Int32.toUInt32 (a0 - ((Int32.toUInt32 a0 >>> (Int32.toUInt32 1 &&& Int32.toUInt32 31)).toInt32 &&& 1431655765)) >>> (Int32.toUInt32 2 &&& Int32.toUInt32 31)).toInt32 &&& 858993459)) >>> (Int32.toUInt32 4 &&& Int32.toUInt32 31)).toInt32) &&& 252645135) + (Int32.toUInt32 (((((a0 - ((Int32.toUInt32 a0 >>> (Int32.toUInt32 1 &&& Int32.toUInt32 31)).toInt32 &&& 1431655765)) &&& 858993459) + ((Int32.toUInt32 (a0 - ((Int32.toUInt32 a0 >>> (Int32.toUInt32 1 &&& Int32.toUInt32 31)).toInt32 &&& 1431655765)) >>> (Int32.toUInt32 2 &&& Int32.toUInt32 31)).toInt32 &&& 858993459)) + (Int32.toUInt32 (((a0 - ((Int32.toUInt32 a0 >>> (Int32.toUInt32 1 &&& Int32.toUInt32 31)).toInt32 &&& 1431655765)) &&& 858993459) + ((Int32.toUInt32 (a0 - ((Int32.toUInt32 a0 >>> (Int32.toUInt32 1 &&& Int32.toUInt32 31)).toInt32 &&& 1431655765)) >>> (Int32.toUInt32 2 &&& Int32.toUInt32 31)).toInt32 &&& 858993459)) >>> (Int32.toUInt32 4 &&& Int32.toUInt32 31)).toInt32) &&& 252645135) >>> (Int32.toUInt32 8 &&& Int32.toUInt32 31)).toInt32) + (Int32.toUInt32 ((((((a0 - ((Int32.toUInt32 a0 >>> (Int32.toUInt32 1 &&& Int32.toUInt32 31)).toInt32 &&& 1431655765)) &&& 858993459) + ((Int32.toUInt32 (a0 - ((Int32.toUInt32 a0 >>> (Int32.toUInt32 1 &&& Int32.toUInt32 31)).toInt32 &&& 1431655765)) >>> (Int32.toUInt32 2 &&& Int32.toUInt32 31)).toInt32 &&& 858993459)) + (Int32.toUInt32 (((a0 - ((Int32.toUInt32 a0 >>> (Int32.toUInt32 1 &&& Int32.toUInt32 31)).toInt32 &&& 1431655765)) &&& 858993459) + ((Int32.toUInt32 (a0 - ((Int32.toUInt32 a0 >>> (Int32.toUInt32 1 &&& Int32.toUInt32 31)).toInt32 &&& 1431655765)) >>> (Int32.toUInt32 2 &&& Int32.toUInt32 31)).toInt32 &&& 858993459)) >>> (Int32.toUInt32 4 &&& Int32.toUInt32 31)).toInt32) &&& 252645135) + (Int32.toUInt32 (((((a0 - ((Int32.toUInt32 a0 >>> (Int32.toUInt32 1 &&& Int32.toUInt32 31)).toInt32 &&& 1431655765)) &&& 858993459) + ((Int32.toUInt32 (a0 - ((Int32.toUInt32 a0 >>> (Int32.toUInt32 1 &&& Int32.toUInt32 31)).toInt32 &&& 1431655765)) >>> (Int32.toUInt32 2 &&& Int32.toUInt32 31)).toInt32 &&& 858993459)) + (Int32.toUInt32 (((a0 - ((Int32.toUInt32 a0 >>> (Int32.toUInt32 1 &&& Int32.toUInt32 31)).toInt32 &&& 1431655765)) &&& 858993459) + ((Int32.toUInt32 (a0 - ((Int32.toUInt32 a0 >>> (Int32.toUInt32 1 &&& Int32.toUInt32 31)).toInt32 &&& 1431655765)) >>> (Int32.toUInt32 2 &&& Int32.toUInt32 31)).toInt32 &&& 858993459)) >>> (Int32.toUInt32 4 &&& Int32.toUInt32 31)).toInt32) &&& 252645135) >>> (Int32.toUInt32 8 &&& Int32.toUInt32 31)).toInt32) >>> (Int32.toUInt32 16 &&& Int32.toUInt32 31)).toInt32) &&& 63)
def tb_J6_bitCount_0f7a4 : List pm_I := [(0, .iload_n 0, 0, 0), (1, .iload_n 0, 0, 0), (2, .iconst 1, 3, 0), (3, .iushr, 0, 0), (4, .ldc_w 265, 2, 0), (7, .iand, 0, 0), (8, .isub, 0, 0), (9, .istore_n 0, 0, 0), (10, .iload_n 0, 0, 0), (11, .ldc_w 266, 3, 0), (14, .iand, 0, 0), (15, .iload_n 0, 0, 0), (16, .iconst 2, 4, 0), (17, .iushr, 0, 0), (18, .ldc_w 266, 3, 0), (21, .iand, 0, 0), (22, .iadd, 0, 0), (23, .istore_n 0, 0, 0), (24, .iload_n 0, 0, 0), (25, .iload_n 0, 0, 0), (26, .iconst 4, 6, 0), (27, .iushr, 0, 0), (28, .iadd, 0, 0), (29, .ldc_w 267, 4, 0), (32, .iand, 0, 0), (33, .istore_n 0, 0, 0), (34, .iload_n 0, 0, 0), (35, .iload_n 0, 0, 0), (36, .bipush 8, 10, 0), (38, .iushr, 0, 0), (39, .iadd, 0, 0), (40, .istore_n 0, 0, 0), (41, .iload_n 0, 0, 0), (42, .iload_n 0, 0, 0), (43, .bipush 16, 13, 0), (45, .iushr, 0, 0), (46, .iadd, 0, 0), (47, .istore_n 0, 0, 0), (48, .iload_n 0, 0, 0), (49, .bipush 63, 25, 0), (51, .iand, 0, 0), (52, .ireturn, 0, 0)]
theorem tk_J6_bitCount_0f7a4 : ∀ e ∈ tb_J6_bitCount_0f7a4, pm_ck 289 e = true := List.all_eq_true.mp (by decide +kernel)
set_option maxRecDepth 20000 in
set_option maxHeartbeats 20000000 in
theorem e_J6_bitCount_0f7a4 {d : Nat} (hd : 1 ≤ d) {g0 g1 g2 g3 g4 g5 g6 g7 g8 g9 : List pm_E} {q : Nat × Nat × Nat} {a0 : Int32} {r : Int32} (H : f_J6_bitCount_0f7a4 a0 = some r) : pm_Mt 289 d [.int a0] (cl_h g0 g1 g2 g3 g4 g5 g6 g7 g8 g9 q) (.inl (some (.int r))) (cl_h g0 g1 g2 g3 g4 g5 g6 g7 g8 g9 q) := by
  refine pm_Mt.of (by decide) (by decide +kernel) rfl rfl ?_
  unfold f_J6_bitCount_0f7a4 at H
  have J := Option.some.inj H
  subst J
  refine pm_Wg.path (k := 41) (ds := []) (f' := (52, [some (.int (((((((a0 - ((Int32.toUInt32 a0 >>> (Int32.toUInt32 1 &&& Int32.toUInt32 31)).toInt32 &&& 1431655765)) &&& 858993459) + ((Int32.toUInt32 (a0 - ((Int32.toUInt32 a0 >>> (Int32.toUInt32 1 &&& Int32.toUInt32 31)).toInt32 &&& 1431655765)) >>> (Int32.toUInt32 2 &&& Int32.toUInt32 31)).toInt32 &&& 858993459)) + (Int32.toUInt32 (((a0 - ((Int32.toUInt32 a0 >>> (Int32.toUInt32 1 &&& Int32.toUInt32 31)).toInt32 &&& 1431655765)) &&& 858993459) + ((Int32.toUInt32 (a0 - ((Int32.toUInt32 a0 >>> (Int32.toUInt32 1 &&& Int32.toUInt32 31)).toInt32 &&& 1431655765)) >>> (Int32.toUInt32 2 &&& Int32.toUInt32 31)).toInt32 &&& 858993459)) >>> (Int32.toUInt32 4 &&& Int32.toUInt32 31)).toInt32) &&& 252645135) + (Int32.toUInt32 (((((a0 - ((Int32.toUInt32 a0 >>> (Int32.toUInt32 1 &&& Int32.toUInt32 31)).toInt32 &&& 1431655765)) &&& 858993459) + ((Int32.toUInt32 (a0 - ((Int32.toUInt32 a0 >>> (Int32.toUInt32 1 &&& Int32.toUInt32 31)).toInt32 &&& 1431655765)) >>> (Int32.toUInt32 2 &&& Int32.toUInt32 31)).toInt32 &&& 858993459)) + (Int32.toUInt32 (((a0 - ((Int32.toUInt32 a0 >>> (Int32.toUInt32 1 &&& Int32.toUInt32 31)).toInt32 &&& 1431655765)) &&& 858993459) + ((Int32.toUInt32 (a0 - ((Int32.toUInt32 a0 >>> (Int32.toUInt32 1 &&& Int32.toUInt32 31)).toInt32 &&& 1431655765)) >>> (Int32.toUInt32 2 &&& Int32.toUInt32 31)).toInt32 &&& 858993459)) >>> (Int32.toUInt32 4 &&& Int32.toUInt32 31)).toInt32) &&& 252645135) >>> (Int32.toUInt32 8 &&& Int32.toUInt32 31)).toInt32) + (Int32.toUInt32 ((((((a0 - ((Int32.toUInt32 a0 >>> (Int32.toUInt32 1 &&& Int32.toUInt32 31)).toInt32 &&& 1431655765)) &&& 858993459) + ((Int32.toUInt32 (a0 - ((Int32.toUInt32 a0 >>> (Int32.toUInt32 1 &&& Int32.toUInt32 31)).toInt32 &&& 1431655765)) >>> (Int32.toUInt32 2 &&& Int32.toUInt32 31)).toInt32 &&& 858993459)) + (Int32.toUInt32 (((a0 - ((Int32.toUInt32 a0 >>> (Int32.toUInt32 1 &&& Int32.toUInt32 31)).toInt32 &&& 1431655765)) &&& 858993459) + ((Int32.toUInt32 (a0 - ((Int32.toUInt32 a0 >>> (Int32.toUInt32 1 &&& Int32.toUInt32 31)).toInt32 &&& 1431655765)) >>> (Int32.toUInt32 2 &&& Int32.toUInt32 31)).toInt32 &&& 858993459)) >>> (Int32.toUInt32 4 &&& Int32.toUInt32 31)).toInt32) &&& 252645135) + (Int32.toUInt32 (((((a0 - ((Int32.toUInt32 a0 >>> (Int32.toUInt32 1 &&& Int32.toUInt32 31)).toInt32 &&& 1431655765)) &&& 858993459) + ((Int32.toUInt32 (a0 - ((Int32.toUInt32 a0 >>> (Int32.toUInt32 1 &&& Int32.toUInt32 31)).toInt32 &&& 1431655765)) >>> (Int32.toUInt32 2 &&& Int32.toUInt32 31)).toInt32 &&& 858993459)) + (Int32.toUInt32 (((a0 - ((Int32.toUInt32 a0 >>> (Int32.toUInt32 1 &&& Int32.toUInt32 31)).toInt32 &&& 1431655765)) &&& 858993459) + ((Int32.toUInt32 (a0 - ((Int32.toUInt32 a0 >>> (Int32.toUInt32 1 &&& Int32.toUInt32 31)).toInt32 &&& 1431655765)) >>> (Int32.toUInt32 2 &&& Int32.toUInt32 31)).toInt32 &&& 858993459)) >>> (Int32.toUInt32 4 &&& Int32.toUInt32 31)).toInt32) &&& 252645135) >>> (Int32.toUInt32 8 &&& Int32.toUInt32 31)).toInt32) >>> (Int32.toUInt32 16 &&& Int32.toUInt32 31)).toInt32))], [.int ((((((((a0 - ((Int32.toUInt32 a0 >>> (Int32.toUInt32 1 &&& Int32.toUInt32 31)).toInt32 &&& 1431655765)) &&& 858993459) + ((Int32.toUInt32 (a0 - ((Int32.toUInt32 a0 >>> (Int32.toUInt32 1 &&& Int32.toUInt32 31)).toInt32 &&& 1431655765)) >>> (Int32.toUInt32 2 &&& Int32.toUInt32 31)).toInt32 &&& 858993459)) + (Int32.toUInt32 (((a0 - ((Int32.toUInt32 a0 >>> (Int32.toUInt32 1 &&& Int32.toUInt32 31)).toInt32 &&& 1431655765)) &&& 858993459) + ((Int32.toUInt32 (a0 - ((Int32.toUInt32 a0 >>> (Int32.toUInt32 1 &&& Int32.toUInt32 31)).toInt32 &&& 1431655765)) >>> (Int32.toUInt32 2 &&& Int32.toUInt32 31)).toInt32 &&& 858993459)) >>> (Int32.toUInt32 4 &&& Int32.toUInt32 31)).toInt32) &&& 252645135) + (Int32.toUInt32 (((((a0 - ((Int32.toUInt32 a0 >>> (Int32.toUInt32 1 &&& Int32.toUInt32 31)).toInt32 &&& 1431655765)) &&& 858993459) + ((Int32.toUInt32 (a0 - ((Int32.toUInt32 a0 >>> (Int32.toUInt32 1 &&& Int32.toUInt32 31)).toInt32 &&& 1431655765)) >>> (Int32.toUInt32 2 &&& Int32.toUInt32 31)).toInt32 &&& 858993459)) + (Int32.toUInt32 (((a0 - ((Int32.toUInt32 a0 >>> (Int32.toUInt32 1 &&& Int32.toUInt32 31)).toInt32 &&& 1431655765)) &&& 858993459) + ((Int32.toUInt32 (a0 - ((Int32.toUInt32 a0 >>> (Int32.toUInt32 1 &&& Int32.toUInt32 31)).toInt32 &&& 1431655765)) >>> (Int32.toUInt32 2 &&& Int32.toUInt32 31)).toInt32 &&& 858993459)) >>> (Int32.toUInt32 4 &&& Int32.toUInt32 31)).toInt32) &&& 252645135) >>> (Int32.toUInt32 8 &&& Int32.toUInt32 31)).toInt32) + (Int32.toUInt32 ((((((a0 - ((Int32.toUInt32 a0 >>> (Int32.toUInt32 1 &&& Int32.toUInt32 31)).toInt32 &&& 1431655765)) &&& 858993459) + ((Int32.toUInt32 (a0 - ((Int32.toUInt32 a0 >>> (Int32.toUInt32 1 &&& Int32.toUInt32 31)).toInt32 &&& 1431655765)) >>> (Int32.toUInt32 2 &&& Int32.toUInt32 31)).toInt32 &&& 858993459)) + (Int32.toUInt32 (((a0 - ((Int32.toUInt32 a0 >>> (Int32.toUInt32 1 &&& Int32.toUInt32 31)).toInt32 &&& 1431655765)) &&& 858993459) + ((Int32.toUInt32 (a0 - ((Int32.toUInt32 a0 >>> (Int32.toUInt32 1 &&& Int32.toUInt32 31)).toInt32 &&& 1431655765)) >>> (Int32.toUInt32 2 &&& Int32.toUInt32 31)).toInt32 &&& 858993459)) >>> (Int32.toUInt32 4 &&& Int32.toUInt32 31)).toInt32) &&& 252645135) + (Int32.toUInt32 (((((a0 - ((Int32.toUInt32 a0 >>> (Int32.toUInt32 1 &&& Int32.toUInt32 31)).toInt32 &&& 1431655765)) &&& 858993459) + ((Int32.toUInt32 (a0 - ((Int32.toUInt32 a0 >>> (Int32.toUInt32 1 &&& Int32.toUInt32 31)).toInt32 &&& 1431655765)) >>> (Int32.toUInt32 2 &&& Int32.toUInt32 31)).toInt32 &&& 858993459)) + (Int32.toUInt32 (((a0 - ((Int32.toUInt32 a0 >>> (Int32.toUInt32 1 &&& Int32.toUInt32 31)).toInt32 &&& 1431655765)) &&& 858993459) + ((Int32.toUInt32 (a0 - ((Int32.toUInt32 a0 >>> (Int32.toUInt32 1 &&& Int32.toUInt32 31)).toInt32 &&& 1431655765)) >>> (Int32.toUInt32 2 &&& Int32.toUInt32 31)).toInt32 &&& 858993459)) >>> (Int32.toUInt32 4 &&& Int32.toUInt32 31)).toInt32) &&& 252645135) >>> (Int32.toUInt32 8 &&& Int32.toUInt32 31)).toInt32) >>> (Int32.toUInt32 16 &&& Int32.toUInt32 31)).toInt32) &&& 63)], cl_h g0 g1 g2 g3 g4 g5 g6 g7 g8 g9 q)) tk_J6_bitCount_0f7a4 (by omega) rfl trivial ?_
  exact pm_Wg.iret (pm_dec tk_J6_bitCount_0f7a4 rfl) rfl rfl

def f_X2_diskWith (s4 : cs_S) (a0 : Int32) : Option (Int32) :=
  (if 1 < (s4.1 0 0) then
   (match f_X2_stripeWith s4 a0 with
   | none => none
   | some r2 =>
    (match f_X2_parityOf s4 r2 with
    | none => none
    | some r4 =>
     (if ((s4.1 0 0) - 1) = 0 then none else
     (if (s4.1 0 0) = 0 then none else
     some (((r4 + 1) + (a0 - a0 / ((s4.1 0 0) - 1) * ((s4.1 0 0) - 1))) - ((r4 + 1) + (a0 - a0 / ((s4.1 0 0) - 1) * ((s4.1 0 0) - 1))) / (s4.1 0 0) * (s4.1 0 0))))))
  else
   some 0)
def tb_X2_diskWith : List pm_I := [(0, .aload_n 0, 0, 0), (1, .getfield 9, 115, 0), (4, .iconst 1, 3, 0), (5, .if_icmp .gt 5, 10, 0), (8, .iconst 0, 2, 0), (9, .ireturn, 0, 0), (10, .aload_n 0, 0, 0), (11, .aload_n 0, 0, 0), (12, .iload_n 1, 0, 0), (13, .invokevirtual 104, 69, 0), (16, .invokevirtual 108, 70, 0), (19, .iconst 1, 3, 0), (20, .iadd, 0, 0), (21, .iload_n 1, 0, 0), (22, .aload_n 0, 0, 0), (23, .getfield 9, 115, 0), (26, .iconst 1, 3, 0), (27, .isub, 0, 0), (28, .irem, 0, 0), (29, .iadd, 0, 0), (30, .aload_n 0, 0, 0), (31, .getfield 9, 115, 0), (34, .irem, 0, 0), (35, .ireturn, 0, 0)]
theorem tk_X2_diskWith : ∀ e ∈ tb_X2_diskWith, pm_ck 39 e = true := List.all_eq_true.mp (by decide +kernel)
set_option maxRecDepth 20000 in
set_option maxHeartbeats 20000000 in
theorem e_X2_diskWith {d : Nat} (hd : 2 ≤ d) {g0 g1 g2 g3 g5 g6 g7 g8 g9 : List pm_E} {q : Nat × Nat × Nat} {s4 : cs_S} {a0 : Int32} {r : Int32} (H : f_X2_diskWith s4 a0 = some r) : pm_Mt 39 d [.ref 256, .int a0] (cl_h g0 g1 g2 g3 (ct_p4 s4) g5 g6 g7 g8 g9 q) (.inl (some (.int r))) (cl_h g0 g1 g2 g3 (ct_p4 s4) g5 g6 g7 g8 g9 q) := by
  refine pm_Mt.of (by decide) (by decide +kernel) rfl rfl ?_
  obtain ⟨d, rfl⟩ : ∃ d', d = d' + 1 := ⟨d - 1, by omega⟩
  unfold f_X2_diskWith at H
  by_cases h1 : 1 < (s4.1 0 0)
  · rw [if_pos h1] at H
    cases q3 : f_X2_stripeWith s4 a0 with
    | none => rw [q3] at H; cases H
    | some r2 =>
     rw [q3] at H
     dsimp only at H
     refine pm_Wg.path (k := 7) (ds := [1]) (f' := (13, [some (.ref 256), some (.int a0)], [.int a0, .ref 256, .ref 256], cl_h g0 g1 g2 g3 (ct_p4 s4) g5 g6 g7 g8 g9 q)) tk_X2_diskWith (by omega) rfl ⟨h1, trivial⟩ ?_
     refine pm_Wg.callV (m' := 38) (ix := 104) (rr := 69) (pl := 682) (b := 256) (As := [.int a0]) (S := [.ref 256]) (by decide) rfl (pm_dec tk_X2_diskWith rfl) rfl rfl (by decide) rfl rfl (by decide) (Nat.le_of_ble_eq_true rfl) rfl (e_X2_stripeWith (by omega) q3) ?_
     cases q5 : f_X2_parityOf s4 r2 with
     | none => rw [q5] at H; cases H
     | some r4 =>
      rw [q5] at H
      dsimp only at H
      refine pm_Wg.callV (m' := 40) (ix := 108) (rr := 70) (pl := 683) (b := 256) (As := [.int r2]) (S := []) (by decide) rfl (pm_dec tk_X2_diskWith rfl) rfl rfl (by decide) rfl rfl (by decide) (Nat.le_of_ble_eq_true rfl) rfl (e_X2_parityOf (by omega) q5) ?_
      by_cases b6 : ((s4.1 0 0) - 1) = 0
      · rw [if_pos b6] at H; cases H
      rw [if_neg b6] at H
      by_cases b7 : (s4.1 0 0) = 0
      · rw [if_pos b7] at H; cases H
      rw [if_neg b7] at H
      have J := Option.some.inj H
      subst J
      refine pm_Wg.path (k := 12) (ds := []) (f' := (35, [some (.ref 256), some (.int a0)], [.int (((r4 + 1) + (a0 - a0 / ((s4.1 0 0) - 1) * ((s4.1 0 0) - 1))) - ((r4 + 1) + (a0 - a0 / ((s4.1 0 0) - 1) * ((s4.1 0 0) - 1))) / (s4.1 0 0) * (s4.1 0 0))], cl_h g0 g1 g2 g3 (ct_p4 s4) g5 g6 g7 g8 g9 q)) tk_X2_diskWith (by omega) rfl ⟨b7, b6, trivial⟩ ?_
      exact pm_Wg.iret (pm_dec tk_X2_diskWith rfl) rfl rfl
  · rw [if_neg h1] at H
    have J := Option.some.inj H
    subst J
    refine pm_Wg.path (k := 5) (ds := [0]) (f' := (9, [some (.ref 256), some (.int a0)], [.int 0], cl_h g0 g1 g2 g3 (ct_p4 s4) g5 g6 g7 g8 g9 q)) tk_X2_diskWith (by omega) rfl ⟨h1, trivial⟩ ?_
    exact pm_Wg.iret (pm_dec tk_X2_diskWith rfl) rfl rfl

def lb_X3_remove_18 (x : cs_S × Int32 × Int32 × Int32 × Int32 × Int32) : Option ((cs_S × Int32 × Int32 × Int32 × Int32 × Int32) ⊕ (Int32 × cs_S)) := match x with
  | (s5, l1, l2, l3, l4, l5) =>
   (if l5 ≤ 0 then
    some (.inr (0, s5))
   else
    (if l4 = l2 then
     (match f_X3_unlink s5 l1 l3 l4 with
     | none => none
     | some s5_6 =>
      some (.inr (1, s5_6)))
    else
     (match pm_inb l4 3248 with
     | false => none
     | true =>
     some (.inl (s5, l1, l2, l4, (s5.2.1 12 (Int32.toNatClampNeg l4)), (l5 + (-1)))))))
def f_X3_remove (s5 : cs_S) (a0 : Int32) (a1 : Int32) : Option (Int32 × cs_S) :=
  (match pm_inb a0 42 with
  | false => none
  | true =>
  (pm_loop pm_fu lb_X3_remove_18 (s5, a0, a1, (-1), (s5.2.1 2 (Int32.toNatClampNeg a0)), (s5.2.1 4 (Int32.toNatClampNeg a0)))))
def tb_X3_remove : List pm_I := [(0, .iconst (-1), 1, 0), (1, .istore_n 3, 0, 0), (2, .aload_n 0, 0, 0), (3, .getfield 11, 15, 0), (6, .iload_n 1, 0, 0), (7, .iaload, 0, 0), (8, .istore 4, 0, 0), (10, .aload_n 0, 0, 0), (11, .getfield 18, 18, 0), (14, .iload_n 1, 0, 0), (15, .iaload, 0, 0), (16, .istore 5, 0, 0), (18, .iload 5, 0, 0), (20, .ifCond .le 37, 57, 0), (23, .iload 4, 0, 0), (25, .iload_n 2, 0, 0), (26, .if_icmp .ne 13, 39, 0), (29, .aload_n 0, 0, 0), (30, .iload_n 1, 0, 0), (31, .iload_n 3, 0, 0), (32, .iload 4, 0, 0), (34, .invokevirtual 90, 51, 0), (37, .iconst 1, 3, 0), (38, .ireturn, 0, 0), (39, .iload 4, 0, 0), (41, .istore_n 3, 0, 0), (42, .aload_n 0, 0, 0), (43, .getfield 43, 31, 0), (46, .iload 4, 0, 0), (48, .iaload, 0, 0), (49, .istore 4, 0, 0), (51, .iinc 5 (-1), 1, 0), (54, .goto (-36), 18, 0), (57, .iconst 0, 2, 0), (58, .ireturn, 0, 0)]
theorem tk_X3_remove : ∀ e ∈ tb_X3_remove, pm_ck 53 e = true := List.all_eq_true.mp (by decide +kernel)
set_option maxRecDepth 20000 in
set_option maxHeartbeats 40000000 in
theorem ll_X3_remove_18 {d : Nat} (hd : 2 ≤ d) {g0 g1 g2 g3 g4 g6 g7 g8 g9 : List pm_E} {p5 t5 : Value} {q : Nat × Nat × Nat} {r : Int32} {z5 : cs_S} (P : Int32 × cs_S → Prop) (K0 : ∀ e : Int32 × cs_S, P (e) → e = (r, z5)) : ∀ (n : Nat) (s5 : cs_S) (l1 : Int32) (l2 : Int32) (l3 : Int32) (l4 : Int32) (l5 : Int32) (e : Int32 × cs_S), pm_loop n lb_X3_remove_18 (s5, l1, l2, l3, l4, l5) = some e → P e → pm_Wg 53 d (.inl (some (.int r))) (cl_h g0 g1 g2 g3 g4 (ct_e5 p5 t5 z5) g6 g7 g8 g9 q) (18, [some (.ref 321), some (.int l1), some (.int l2), some (.int l3), some (.int l4), some (.int l5)], [], cl_h g0 g1 g2 g3 g4 (ct_e5 p5 t5 s5) g6 g7 g8 g9 q) := by
  intro n
  induction n with
  | zero => intro s5 l1 l2 l3 l4 l5 e H; cases H
  | succ n ih =>
    intro s5 l1 l2 l3 l4 l5 e H hPe
    obtain ⟨d, rfl⟩ : ∃ d', d = d' + 1 := ⟨d - 1, by omega⟩
    have H : pm_lst (pm_loop n lb_X3_remove_18) (lb_X3_remove_18 (s5, l1, l2, l3, l4, l5)) = some e := H
    generalize pm_loop n lb_X3_remove_18 = LB at H ih
    unfold lb_X3_remove_18 at H
    try dsimp only at H
    by_cases h3 : l5 ≤ 0
    · rw [if_pos h3] at H
      have He := Option.some.inj H
      subst He
      have J := K0 _ hPe
      injection J with J0a J0z
      subst J0a
      subst J0z
      refine pm_Wg.path (k := 3) (ds := [1]) (f' := (58, [some (.ref 321), some (.int l1), some (.int l2), some (.int l3), some (.int l4), some (.int l5)], [.int 0], cl_h g0 g1 g2 g3 g4 (ct_e5 p5 t5 s5) g6 g7 g8 g9 q)) tk_X3_remove (by omega) rfl ⟨h3, trivial⟩ ?_
      exact pm_Wg.iret (pm_dec tk_X3_remove rfl) rfl rfl
    · rw [if_neg h3] at H
      by_cases h4 : l4 = l2
      · rw [if_pos h4] at H
        cases q7 : f_X3_unlink s5 l1 l3 l4 with
        | none => rw [q7] at H; cases H
        | some s5_6 =>
         rw [q7] at H
         dsimp only at H
         refine pm_Wg.path (k := 9) (ds := [0, 0]) (f' := (34, [some (.ref 321), some (.int l1), some (.int l2), some (.int l3), some (.int l4), some (.int l5)], [.int l4, .int l3, .int l1, .ref 321], cl_h g0 g1 g2 g3 g4 (ct_e5 p5 t5 s5) g6 g7 g8 g9 q)) tk_X3_remove (by omega) rfl ⟨h4, h3, trivial⟩ ?_
         refine pm_Wg.callV (m' := 54) (ix := 90) (rr := 51) (pl := 614) (b := 321) (As := [.int l1, .int l3, .int l4]) (S := []) (by decide) rfl (pm_dec tk_X3_remove rfl) rfl rfl (by decide) rfl rfl (by decide) (Nat.le_of_ble_eq_true rfl) rfl (e_X3_unlink (by omega) q7) ?_
         have He := Option.some.inj H
         subst He
         have J := K0 _ hPe
         injection J with J0a J0z
         subst J0a
         subst J0z
         refine pm_Wg.path (k := 1) (ds := []) (f' := (38, [some (.ref 321), some (.int l1), some (.int l2), some (.int l3), some (.int l4), some (.int l5)], [.int 1], cl_h g0 g1 g2 g3 g4 (ct_e5 p5 t5 s5_6) g6 g7 g8 g9 q)) tk_X3_remove (by omega) rfl trivial ?_
         exact pm_Wg.iret (pm_dec tk_X3_remove rfl) rfl rfl
      · rw [if_neg h4] at H
        cases b5 : pm_inb l4 3248 with
        | false => rw [b5] at H; cases H
        | true =>
         rw [b5] at H
         dsimp only at H
         refine pm_Wg.path (k := 14) (ds := [0, 1]) (f' := (18, [some (.ref 321), some (.int l1), some (.int l2), some (.int l4), some (.int (s5.2.1 12 (Int32.toNatClampNeg l4))), some (.int (l5 + (-1)))], [], cl_h g0 g1 g2 g3 g4 (ct_e5 p5 t5 s5) g6 g7 g8 g9 q)) tk_X3_remove (by omega) rfl ⟨pm_inb_vp b5, h4, h3, trivial⟩ ?_
         exact ih _ _ _ _ _ _ e H hPe
set_option maxRecDepth 20000 in
set_option maxHeartbeats 20000000 in
theorem e_X3_remove {d : Nat} (hd : 2 ≤ d) {g0 g1 g2 g3 g4 g6 g7 g8 g9 : List pm_E} {p5 t5 : Value} {q : Nat × Nat × Nat} {s5 : cs_S} {a0 : Int32} {a1 : Int32} {r : Int32} {z5 : cs_S} (H : f_X3_remove s5 a0 a1 = some (r, z5)) : pm_Mt 53 d [.ref 321, .int a0, .int a1] (cl_h g0 g1 g2 g3 g4 (ct_e5 p5 t5 s5) g6 g7 g8 g9 q) (.inl (some (.int r))) (cl_h g0 g1 g2 g3 g4 (ct_e5 p5 t5 z5) g6 g7 g8 g9 q) := by
  refine pm_Mt.of (by decide) (by decide +kernel) rfl rfl ?_
  obtain ⟨d, rfl⟩ : ∃ d', d = d' + 1 := ⟨d - 1, by omega⟩
  unfold f_X3_remove at H
  cases b1 : pm_inb a0 42 with
  | false => rw [b1] at H; cases H
  | true =>
   rw [b1] at H
   dsimp only at H
   refine pm_Wg.path (k := 12) (ds := []) (f' := (18, [some (.ref 321), some (.int a0), some (.int a1), some (.int (-1)), some (.int (s5.2.1 2 (Int32.toNatClampNeg a0))), some (.int (s5.2.1 4 (Int32.toNatClampNeg a0)))], [], cl_h g0 g1 g2 g3 g4 (ct_e5 p5 t5 s5) g6 g7 g8 g9 q)) tk_X3_remove (by omega) rfl ⟨pm_inb_vp b1, pm_inb_vp b1, trivial⟩ ?_
   exact ll_X3_remove_18 (by omega) (fun e => e = (r, z5)) (fun e he => he) pm_fu _ _ _ _ _ _ _ H rfl

def f_X4_holdsAll (s5 : cs_S) (a0 : Int32) (a1 : Int32) : Option (Int32) :=
  (match pm_inb a0 64 with
  | false => none
  | true =>
  (match f_J6_bitCount_0f7a4 (s5.2.1 33 (Int32.toNatClampNeg a0)) with
  | none => none
  | some r2 =>
   (if r2 = (a1 - 1) then
    some 1
   else
    some 0)))
def tb_X4_holdsAll : List pm_I := [(0, .aload_n 0, 0, 0), (1, .getfield 19, 76, 0), (4, .iload_n 1, 0, 0), (5, .iaload, 0, 0), (6, .invokestatic 58, 54, 0), (9, .iload_n 2, 0, 0), (10, .iconst 1, 3, 0), (11, .isub, 0, 0), (12, .if_icmp .ne 7, 19, 0), (15, .iconst 1, 3, 0), (16, .goto 4, 20, 0), (19, .iconst 0, 2, 0), (20, .ireturn, 0, 0)]
theorem tk_X4_holdsAll : ∀ e ∈ tb_X4_holdsAll, pm_ck 67 e = true := List.all_eq_true.mp (by decide +kernel)
set_option maxRecDepth 20000 in
set_option maxHeartbeats 20000000 in
theorem e_X4_holdsAll {d : Nat} (hd : 2 ≤ d) {g0 g1 g2 g3 g4 g6 g7 g8 g9 : List pm_E} {p5 t5 : Value} {q : Nat × Nat × Nat} {s5 : cs_S} {a0 : Int32} {a1 : Int32} {r : Int32} (H : f_X4_holdsAll s5 a0 a1 = some r) : pm_Mt 67 d [.ref 351, .int a0, .int a1] (cl_h g0 g1 g2 g3 g4 (ct_e5 p5 t5 s5) g6 g7 g8 g9 q) (.inl (some (.int r))) (cl_h g0 g1 g2 g3 g4 (ct_e5 p5 t5 s5) g6 g7 g8 g9 q) := by
  refine pm_Mt.of (by decide) (by decide +kernel) rfl rfl ?_
  obtain ⟨d, rfl⟩ : ∃ d', d = d' + 1 := ⟨d - 1, by omega⟩
  unfold f_X4_holdsAll at H
  cases b1 : pm_inb a0 64 with
  | false => rw [b1] at H; cases H
  | true =>
   rw [b1] at H
   dsimp only at H
   cases q3 : f_J6_bitCount_0f7a4 (s5.2.1 33 (Int32.toNatClampNeg a0)) with
   | none => rw [q3] at H; cases H
   | some r2 =>
    rw [q3] at H
    dsimp only at H
    refine pm_Wg.path (k := 4) (ds := []) (f' := (6, [some (.ref 351), some (.int a0), some (.int a1)], [.int (s5.2.1 33 (Int32.toNatClampNeg a0))], cl_h g0 g1 g2 g3 g4 (ct_e5 p5 t5 s5) g6 g7 g8 g9 q)) tk_X4_holdsAll (by omega) rfl ⟨pm_inb_vp b1, trivial⟩ ?_
    refine pm_Wg.callS (m' := 289) (ix := 58) (rr := 54) (pl := 626) (As := [.int (s5.2.1 33 (Int32.toNatClampNeg a0))]) (S := []) (by decide) rfl (pm_dec tk_X4_holdsAll rfl) rfl rfl rfl (Nat.le_of_ble_eq_true rfl) rfl (e_J6_bitCount_0f7a4 (by omega) q3) ?_
    by_cases h4 : r2 = (a1 - 1)
    · rw [if_pos h4] at H
      have J := Option.some.inj H
      subst J
      refine pm_Wg.path (k := 6) (ds := [0]) (f' := (20, [some (.ref 351), some (.int a0), some (.int a1)], [.int 1], cl_h g0 g1 g2 g3 g4 (ct_e5 p5 t5 s5) g6 g7 g8 g9 q)) tk_X4_holdsAll (by omega) rfl ⟨h4, trivial⟩ ?_
      exact pm_Wg.iret (pm_dec tk_X4_holdsAll rfl) rfl rfl
    · rw [if_neg h4] at H
      have J := Option.some.inj H
      subst J
      refine pm_Wg.path (k := 5) (ds := [1]) (f' := (20, [some (.ref 351), some (.int a0), some (.int a1)], [.int 0], cl_h g0 g1 g2 g3 g4 (ct_e5 p5 t5 s5) g6 g7 g8 g9 q)) tk_X4_holdsAll (by omega) rfl ⟨h4, trivial⟩ ?_
      exact pm_Wg.iret (pm_dec tk_X4_holdsAll rfl) rfl rfl

def fc_X4_collect_c2 (s5 : cs_S) (l1 : Int32) (k0 : Int32) : Option (cs_S) :=
  some (cs_i s5 31 3 k0)
def fc_X4_collect_c1 (s5 : cs_S) (l1 : Int32) (k0 : Int32) (k1 : Int32) : Option (cs_S) :=
  (match pm_inb k1 64 with
  | false => none
  | true =>
  (fc_X4_collect_c2 (cs_a s5 32 k1 k0) l1 (((cs_a s5 32 k1 k0).1 31 3) + 1)))
def f_X4_collect (s5 : cs_S) (a0 : Int32) : Option (cs_S) :=
  (match pm_inb a0 64 with
  | false => none
  | true =>
  (match f_J6_bitCount_0f7a4 (s5.2.1 33 (Int32.toNatClampNeg a0)) with
  | none => none
  | some r2 =>
   (fc_X4_collect_c1 (cs_i s5 31 4 ((s5.1 31 4) - r2)) a0 1 a0)))
def tb_X4_collect : List pm_I := [(0, .aload_n 0, 0, 0), (1, .dup, 0, 0), (2, .getfield 25, 79, 0), (5, .aload_n 0, 0, 0), (6, .getfield 19, 76, 0), (9, .iload_n 1, 0, 0), (10, .iaload, 0, 0), (11, .invokestatic 58, 54, 0), (14, .isub, 0, 0), (15, .putfield 25, 79, 0), (18, .aload_n 0, 0, 0), (19, .getfield 15, 73, 0), (22, .iload_n 1, 0, 0), (23, .iconst 1, 3, 0), (24, .iastore, 0, 0), (25, .aload_n 0, 0, 0), (26, .dup, 0, 0), (27, .getfield 22, 77, 0), (30, .iconst 1, 3, 0), (31, .iadd, 0, 0), (32, .putfield 22, 77, 0), (35, .return_, 0, 0)]
theorem tk_X4_collect : ∀ e ∈ tb_X4_collect, pm_ck 68 e = true := List.all_eq_true.mp (by decide +kernel)
set_option maxRecDepth 20000 in
set_option maxHeartbeats 20000000 in
theorem ec_X4_collect_c2 {d : Nat} (hd : 2 ≤ d) {g0 g1 g2 g3 g4 g6 g7 g8 g9 : List pm_E} {p5 t5 : Value} {q : Nat × Nat × Nat} {s5 : cs_S} {l1 : Int32} {k0 : Int32} {z5 : cs_S} (H : fc_X4_collect_c2 s5 l1 k0 = some z5) : pm_Wg 68 d (.inl (none)) (cl_h g0 g1 g2 g3 g4 (ct_e5 p5 t5 z5) g6 g7 g8 g9 q) (32, [some (.ref 351), some (.int l1)], [.int k0, .ref 351], cl_h g0 g1 g2 g3 g4 (ct_e5 p5 t5 s5) g6 g7 g8 g9 q) := by
  obtain ⟨d, rfl⟩ : ∃ d', d = d' + 1 := ⟨d - 1, by omega⟩
  unfold fc_X4_collect_c2 at H
  try dsimp only at H
  have J := Option.some.inj H
  subst J
  refine pm_Wg.path (k := 1) (ds := []) (f' := (35, [some (.ref 351), some (.int l1)], [], cl_h g0 g1 g2 g3 g4 (ct_e5 p5 t5 (cs_i s5 31 3 k0)) g6 g7 g8 g9 q)) tk_X4_collect (by omega) rfl trivial ?_
  exact pm_Wg.vret (pm_dec tk_X4_collect rfl) rfl
set_option maxRecDepth 20000 in
set_option maxHeartbeats 20000000 in
theorem ec_X4_collect_c1 {d : Nat} (hd : 2 ≤ d) {g0 g1 g2 g3 g4 g6 g7 g8 g9 : List pm_E} {p5 t5 : Value} {q : Nat × Nat × Nat} {s5 : cs_S} {l1 : Int32} {k0 : Int32} {k1 : Int32} {z5 : cs_S} (H : fc_X4_collect_c1 s5 l1 k0 k1 = some z5) : pm_Wg 68 d (.inl (none)) (cl_h g0 g1 g2 g3 g4 (ct_e5 p5 t5 z5) g6 g7 g8 g9 q) (24, [some (.ref 351), some (.int l1)], [.int k0, .int k1, .ref 352], cl_h g0 g1 g2 g3 g4 (ct_e5 p5 t5 s5) g6 g7 g8 g9 q) := by
  obtain ⟨d, rfl⟩ : ∃ d', d = d' + 1 := ⟨d - 1, by omega⟩
  unfold fc_X4_collect_c1 at H
  try dsimp only at H
  cases b4 : pm_inb k1 64 with
  | false => rw [b4] at H; cases H
  | true =>
   rw [b4] at H
   dsimp only at H
   refine pm_Wg.path (k := 6) (ds := []) (f' := (32, [some (.ref 351), some (.int l1)], [.int (((cs_a s5 32 k1 k0).1 31 3) + 1), .ref 351], cl_h g0 g1 g2 g3 g4 (ct_e5 p5 t5 (cs_a s5 32 k1 k0)) g6 g7 g8 g9 q)) tk_X4_collect (by omega) rfl ⟨pm_inb_vp b4, trivial⟩ ?_
   exact ec_X4_collect_c2 (by omega) H
set_option maxRecDepth 20000 in
set_option maxHeartbeats 20000000 in
theorem e_X4_collect {d : Nat} (hd : 2 ≤ d) {g0 g1 g2 g3 g4 g6 g7 g8 g9 : List pm_E} {p5 t5 : Value} {q : Nat × Nat × Nat} {s5 : cs_S} {a0 : Int32} {z5 : cs_S} (H : f_X4_collect s5 a0 = some z5) : pm_Mt 68 d [.ref 351, .int a0] (cl_h g0 g1 g2 g3 g4 (ct_e5 p5 t5 s5) g6 g7 g8 g9 q) (.inl (none)) (cl_h g0 g1 g2 g3 g4 (ct_e5 p5 t5 z5) g6 g7 g8 g9 q) := by
  refine pm_Mt.of (by decide) (by decide +kernel) rfl rfl ?_
  obtain ⟨d, rfl⟩ : ∃ d', d = d' + 1 := ⟨d - 1, by omega⟩
  unfold f_X4_collect at H
  cases b1 : pm_inb a0 64 with
  | false => rw [b1] at H; cases H
  | true =>
   rw [b1] at H
   dsimp only at H
   cases q3 : f_J6_bitCount_0f7a4 (s5.2.1 33 (Int32.toNatClampNeg a0)) with
   | none => rw [q3] at H; cases H
   | some r2 =>
    rw [q3] at H
    dsimp only at H
    refine pm_Wg.path (k := 7) (ds := []) (f' := (11, [some (.ref 351), some (.int a0)], [.int (s5.2.1 33 (Int32.toNatClampNeg a0)), .int (s5.1 31 4), .ref 351], cl_h g0 g1 g2 g3 g4 (ct_e5 p5 t5 s5) g6 g7 g8 g9 q)) tk_X4_collect (by omega) rfl ⟨pm_inb_vp b1, trivial⟩ ?_
    refine pm_Wg.callS (m' := 289) (ix := 58) (rr := 54) (pl := 626) (As := [.int (s5.2.1 33 (Int32.toNatClampNeg a0))]) (S := [.int (s5.1 31 4), .ref 351]) (by decide) rfl (pm_dec tk_X4_collect rfl) rfl rfl rfl (Nat.le_of_ble_eq_true rfl) rfl (e_J6_bitCount_0f7a4 (by omega) q3) ?_
    refine pm_Wg.path (k := 6) (ds := []) (f' := (24, [some (.ref 351), some (.int a0)], [.int 1, .int a0, .ref 352], cl_h g0 g1 g2 g3 g4 (ct_e5 p5 t5 (cs_i s5 31 4 ((s5.1 31 4) - r2))) g6 g7 g8 g9 q)) tk_X4_collect (by omega) rfl trivial ?_
    exact ec_X4_collect_c1 (by omega) H

def f_X5_endOperation (s5 : cs_S) (a0 : Int32) (a1 : Int32) : Option (cs_S) :=
  (match pm_inb a0 400 with
  | false => none
  | true =>
  (if ((cs_a s5 26 a0 ((s5.2.1 26 (Int32.toNatClampNeg a0)) - 1)).2.1 26 (Int32.toNatClampNeg a0)) = 0 then
   (match f_X5_end (cs_a s5 26 a0 ((s5.2.1 26 (Int32.toNatClampNeg a0)) - 1)) a0 a1 with
   | none => none
   | some s5_5 =>
    some s5_5)
  else
   some (cs_a s5 26 a0 ((s5.2.1 26 (Int32.toNatClampNeg a0)) - 1))))
def tb_X5_endOperation : List pm_I := [(0, .aload_n 0, 0, 0), (1, .getfield 34, 59, 0), (4, .iload_n 1, 0, 0), (5, .dup2, 0, 0), (6, .iaload, 0, 0), (7, .iconst 1, 3, 0), (8, .isub, 0, 0), (9, .iastore, 0, 0), (10, .aload_n 0, 0, 0), (11, .getfield 34, 59, 0), (14, .iload_n 1, 0, 0), (15, .iaload, 0, 0), (16, .ifCond .ne 9, 25, 0), (19, .aload_n 0, 0, 0), (20, .iload_n 1, 0, 0), (21, .iload_n 2, 0, 0), (22, .invokevirtual 74, 63, 0), (25, .return_, 0, 0)]
theorem tk_X5_endOperation : ∀ e ∈ tb_X5_endOperation, pm_ck 78 e = true := List.all_eq_true.mp (by decide +kernel)
set_option maxRecDepth 20000 in
set_option maxHeartbeats 20000000 in
theorem e_X5_endOperation {d : Nat} (hd : 2 ≤ d) {g0 g1 g2 g3 g4 g6 g7 g8 g9 : List pm_E} {p5 t5 : Value} {q : Nat × Nat × Nat} {s5 : cs_S} {a0 : Int32} {a1 : Int32} {z5 : cs_S} (H : f_X5_endOperation s5 a0 a1 = some z5) : pm_Mt 78 d [.ref 339, .int a0, .int a1] (cl_h g0 g1 g2 g3 g4 (ct_e5 p5 t5 s5) g6 g7 g8 g9 q) (.inl (none)) (cl_h g0 g1 g2 g3 g4 (ct_e5 p5 t5 z5) g6 g7 g8 g9 q) := by
  refine pm_Mt.of (by decide) (by decide +kernel) rfl rfl ?_
  obtain ⟨d, rfl⟩ : ∃ d', d = d' + 1 := ⟨d - 1, by omega⟩
  unfold f_X5_endOperation at H
  cases b1 : pm_inb a0 400 with
  | false => rw [b1] at H; cases H
  | true =>
   rw [b1] at H
   dsimp only at H
   by_cases h4 : ((cs_a s5 26 a0 ((s5.2.1 26 (Int32.toNatClampNeg a0)) - 1)).2.1 26 (Int32.toNatClampNeg a0)) = 0
   · rw [if_pos h4] at H
     cases q6 : f_X5_end (cs_a s5 26 a0 ((s5.2.1 26 (Int32.toNatClampNeg a0)) - 1)) a0 a1 with
     | none => rw [q6] at H; cases H
     | some s5_5 =>
      rw [q6] at H
      dsimp only at H
      refine pm_Wg.path (k := 16) (ds := [0]) (f' := (22, [some (.ref 339), some (.int a0), some (.int a1)], [.int a1, .int a0, .ref 339], cl_h g0 g1 g2 g3 g4 (ct_e5 p5 t5 (cs_a s5 26 a0 ((s5.2.1 26 (Int32.toNatClampNeg a0)) - 1))) g6 g7 g8 g9 q)) tk_X5_endOperation (by omega) rfl ⟨h4, pm_inb_vp b1, pm_inb_vp b1, pm_inb_vp b1, trivial⟩ ?_
      refine pm_Wg.callV (m' := 79) (ix := 74) (rr := 63) (pl := 659) (b := 339) (As := [.int a0, .int a1]) (S := []) (by decide) rfl (pm_dec tk_X5_endOperation rfl) rfl rfl (by decide) rfl rfl (by decide) (Nat.le_of_ble_eq_true rfl) rfl (e_X5_end (by omega) q6) ?_
      have J := Option.some.inj H
      subst J
      exact pm_Wg.vret (pm_dec tk_X5_endOperation rfl) rfl
   · rw [if_neg h4] at H
     have J := Option.some.inj H
     subst J
     refine pm_Wg.path (k := 13) (ds := [1]) (f' := (25, [some (.ref 339), some (.int a0), some (.int a1)], [], cl_h g0 g1 g2 g3 g4 (ct_e5 p5 t5 (cs_a s5 26 a0 ((s5.2.1 26 (Int32.toNatClampNeg a0)) - 1))) g6 g7 g8 g9 q)) tk_X5_endOperation (by omega) rfl ⟨h4, pm_inb_vp b1, pm_inb_vp b1, pm_inb_vp b1, trivial⟩ ?_
     exact pm_Wg.vret (pm_dec tk_X5_endOperation rfl) rfl

def fc_X6_begin_c4 (s0 : cs_S) (l1 : Int32) (k0 : Int32) : Option (cs_S) :=
  (match f_X6_step (cs_i s0 1 7 k0) with
  | none => none
  | some s0_1 =>
   some s0_1)
def fc_X6_begin_c3 (s0 : cs_S) (l1 : Int32) (k0 : Int32) : Option (cs_S) :=
  (fc_X6_begin_c4 (cs_i s0 1 6 k0) l1 (-1))
def fc_X6_begin_c2 (s0 : cs_S) (l1 : Int32) (k0 : Int32) : Option (cs_S) :=
  (fc_X6_begin_c3 (cs_i s0 1 5 k0) l1 0)
def fc_X6_begin_c1 (s0 : cs_S) (l1 : Int32) (k0 : Int32) : Option (cs_S) :=
  (fc_X6_begin_c2 (cs_i s0 1 3 k0) l1 0)
def f_X6_begin (s0 : cs_S) (a0 : Int32) : Option (cs_S) :=
  (fc_X6_begin_c1 (cs_i s0 1 2 (if (s0.1 1 1) < a0 then (s0.1 1 1) else a0)) a0 0)
def tb_X6_begin : List pm_I := [(0, .aload_n 0, 0, 0), (1, .iload_n 1, 0, 0), (2, .aload_n 0, 0, 0), (3, .getfield 15, 1, 0), (6, .invokestatic 37, 99, 3), (9, .putfield 19, 3, 0), (12, .aload_n 0, 0, 0), (13, .iconst 0, 2, 0), (14, .putfield 22, 4, 0), (17, .aload_n 0, 0, 0), (18, .iconst 0, 2, 0), (19, .putfield 28, 6, 0), (22, .aload_n 0, 0, 0), (23, .iconst 0, 2, 0), (24, .putfield 31, 7, 0), (27, .aload_n 0, 0, 0), (28, .iconst (-1), 1, 0), (29, .putfield 34, 9, 0), (32, .aload_n 0, 0, 0), (33, .invokevirtual 43, 100, 0), (36, .return_, 0, 0)]
theorem tk_X6_begin : ∀ e ∈ tb_X6_begin, pm_ck 82 e = true := List.all_eq_true.mp (by decide +kernel)
set_option maxRecDepth 20000 in
set_option maxHeartbeats 20000000 in
theorem ec_X6_begin_c4 {d : Nat} (hd : 3 ≤ d) {g1 g2 g3 g4 g5 g6 g7 g8 g9 : List pm_E} {v1 v2 v3 : Value} {q : Nat × Nat × Nat} {s0 : cs_S} {l1 : Int32} {k0 : Int32} {z0 : cs_S} (H : fc_X6_begin_c4 s0 l1 k0 = some z0) : pm_Wg 82 d (.inl (none)) (cl_h (ct_x v1 v2 v3 z0) g1 g2 g3 g4 g5 g6 g7 g8 g9 q) (29, [some (.ref 1), some (.int l1)], [.int k0, .ref 1], cl_h (ct_x v1 v2 v3 s0) g1 g2 g3 g4 g5 g6 g7 g8 g9 q) := by
  obtain ⟨d, rfl⟩ : ∃ d', d = d' + 1 := ⟨d - 1, by omega⟩
  unfold fc_X6_begin_c4 at H
  try dsimp only at H
  cases q2 : f_X6_step (cs_i s0 1 7 k0) with
  | none => rw [q2] at H; cases H
  | some s0_1 =>
   rw [q2] at H
   dsimp only at H
   refine pm_Wg.path (k := 2) (ds := []) (f' := (33, [some (.ref 1), some (.int l1)], [.ref 1], cl_h (ct_x v1 v2 v3 (cs_i s0 1 7 k0)) g1 g2 g3 g4 g5 g6 g7 g8 g9 q)) tk_X6_begin (by omega) rfl trivial ?_
   refine pm_Wg.callV (m' := 84) (ix := 43) (rr := 100) (pl := 927) (b := 1) (As := []) (S := []) (by decide) rfl (pm_dec tk_X6_begin rfl) rfl rfl (by decide) rfl rfl (by decide) (Nat.le_of_ble_eq_true rfl) rfl (e_X6_step (by omega) q2) ?_
   have J := Option.some.inj H
   subst J
   exact pm_Wg.vret (pm_dec tk_X6_begin rfl) rfl
set_option maxRecDepth 20000 in
set_option maxHeartbeats 20000000 in
theorem ec_X6_begin_c3 {d : Nat} (hd : 3 ≤ d) {g1 g2 g3 g4 g5 g6 g7 g8 g9 : List pm_E} {v1 v2 v3 : Value} {q : Nat × Nat × Nat} {s0 : cs_S} {l1 : Int32} {k0 : Int32} {z0 : cs_S} (H : fc_X6_begin_c3 s0 l1 k0 = some z0) : pm_Wg 82 d (.inl (none)) (cl_h (ct_x v1 v2 v3 z0) g1 g2 g3 g4 g5 g6 g7 g8 g9 q) (24, [some (.ref 1), some (.int l1)], [.int k0, .ref 1], cl_h (ct_x v1 v2 v3 s0) g1 g2 g3 g4 g5 g6 g7 g8 g9 q) := by
  obtain ⟨d, rfl⟩ : ∃ d', d = d' + 1 := ⟨d - 1, by omega⟩
  unfold fc_X6_begin_c3 at H
  try dsimp only at H
  refine pm_Wg.path (k := 3) (ds := []) (f' := (29, [some (.ref 1), some (.int l1)], [.int (-1), .ref 1], cl_h (ct_x v1 v2 v3 (cs_i s0 1 6 k0)) g1 g2 g3 g4 g5 g6 g7 g8 g9 q)) tk_X6_begin (by omega) rfl trivial ?_
  exact ec_X6_begin_c4 (by omega) H
set_option maxRecDepth 20000 in
set_option maxHeartbeats 20000000 in
theorem ec_X6_begin_c2 {d : Nat} (hd : 3 ≤ d) {g1 g2 g3 g4 g5 g6 g7 g8 g9 : List pm_E} {v1 v2 v3 : Value} {q : Nat × Nat × Nat} {s0 : cs_S} {l1 : Int32} {k0 : Int32} {z0 : cs_S} (H : fc_X6_begin_c2 s0 l1 k0 = some z0) : pm_Wg 82 d (.inl (none)) (cl_h (ct_x v1 v2 v3 z0) g1 g2 g3 g4 g5 g6 g7 g8 g9 q) (19, [some (.ref 1), some (.int l1)], [.int k0, .ref 1], cl_h (ct_x v1 v2 v3 s0) g1 g2 g3 g4 g5 g6 g7 g8 g9 q) := by
  obtain ⟨d, rfl⟩ : ∃ d', d = d' + 1 := ⟨d - 1, by omega⟩
  unfold fc_X6_begin_c2 at H
  try dsimp only at H
  refine pm_Wg.path (k := 3) (ds := []) (f' := (24, [some (.ref 1), some (.int l1)], [.int 0, .ref 1], cl_h (ct_x v1 v2 v3 (cs_i s0 1 5 k0)) g1 g2 g3 g4 g5 g6 g7 g8 g9 q)) tk_X6_begin (by omega) rfl trivial ?_
  exact ec_X6_begin_c3 (by omega) H
set_option maxRecDepth 20000 in
set_option maxHeartbeats 20000000 in
theorem ec_X6_begin_c1 {d : Nat} (hd : 3 ≤ d) {g1 g2 g3 g4 g5 g6 g7 g8 g9 : List pm_E} {v1 v2 v3 : Value} {q : Nat × Nat × Nat} {s0 : cs_S} {l1 : Int32} {k0 : Int32} {z0 : cs_S} (H : fc_X6_begin_c1 s0 l1 k0 = some z0) : pm_Wg 82 d (.inl (none)) (cl_h (ct_x v1 v2 v3 z0) g1 g2 g3 g4 g5 g6 g7 g8 g9 q) (14, [some (.ref 1), some (.int l1)], [.int k0, .ref 1], cl_h (ct_x v1 v2 v3 s0) g1 g2 g3 g4 g5 g6 g7 g8 g9 q) := by
  obtain ⟨d, rfl⟩ : ∃ d', d = d' + 1 := ⟨d - 1, by omega⟩
  unfold fc_X6_begin_c1 at H
  try dsimp only at H
  refine pm_Wg.path (k := 3) (ds := []) (f' := (19, [some (.ref 1), some (.int l1)], [.int 0, .ref 1], cl_h (ct_x v1 v2 v3 (cs_i s0 1 3 k0)) g1 g2 g3 g4 g5 g6 g7 g8 g9 q)) tk_X6_begin (by omega) rfl trivial ?_
  exact ec_X6_begin_c2 (by omega) H
set_option maxRecDepth 20000 in
set_option maxHeartbeats 20000000 in
theorem e_X6_begin {d : Nat} (hd : 3 ≤ d) {g1 g2 g3 g4 g5 g6 g7 g8 g9 : List pm_E} {v1 v2 v3 : Value} {q : Nat × Nat × Nat} {s0 : cs_S} {a0 : Int32} {z0 : cs_S} (H : f_X6_begin s0 a0 = some z0) : pm_Mt 82 d [.ref 1, .int a0] (cl_h (ct_x v1 v2 v3 s0) g1 g2 g3 g4 g5 g6 g7 g8 g9 q) (.inl (none)) (cl_h (ct_x v1 v2 v3 z0) g1 g2 g3 g4 g5 g6 g7 g8 g9 q) := by
  refine pm_Mt.of (by decide) (by decide +kernel) rfl rfl ?_
  obtain ⟨d, rfl⟩ : ∃ d', d = d' + 1 := ⟨d - 1, by omega⟩
  unfold f_X6_begin at H
  refine pm_Wg.path (k := 8) (ds := []) (f' := (14, [some (.ref 1), some (.int a0)], [.int 0, .ref 1], cl_h (ct_x v1 v2 v3 (cs_i s0 1 2 (if (s0.1 1 1) < a0 then (s0.1 1 1) else a0))) g1 g2 g3 g4 g5 g6 g7 g8 g9 q)) tk_X6_begin (by omega) rfl trivial ?_
  exact ec_X6_begin_c1 (by omega) H

def f_X6_takeNumber (s0 : cs_S) (a0 : Int32) (a1 : Int32) : Option (Int32 × cs_S) :=
  (match f_X6_takeFitting s0 a0 a1 0 with
  | none => none
  | some (r1, s0_2) =>
   some (r1, s0_2))
def tb_X6_takeNumber : List pm_I := [(0, .aload_n 0, 0, 0), (1, .iload_n 1, 0, 0), (2, .iload_n 2, 0, 0), (3, .iconst 0, 2, 0), (4, .invokevirtual 67, 119, 0), (7, .ireturn, 0, 0)]
theorem tk_X6_takeNumber : ∀ e ∈ tb_X6_takeNumber, pm_ck 90 e = true := List.all_eq_true.mp (by decide +kernel)
set_option maxRecDepth 20000 in
set_option maxHeartbeats 20000000 in
theorem e_X6_takeNumber {d : Nat} (hd : 4 ≤ d) {g1 g2 g3 g4 g5 g6 g7 g8 g9 : List pm_E} {v1 v2 v3 : Value} {q : Nat × Nat × Nat} {s0 : cs_S} {a0 : Int32} {a1 : Int32} {r : Int32} {z0 : cs_S} (H : f_X6_takeNumber s0 a0 a1 = some (r, z0)) : pm_Mt 90 d [.ref 1, .int a0, .int a1] (cl_h (ct_x v1 v2 v3 s0) g1 g2 g3 g4 g5 g6 g7 g8 g9 q) (.inl (some (.int r))) (cl_h (ct_x v1 v2 v3 z0) g1 g2 g3 g4 g5 g6 g7 g8 g9 q) := by
  refine pm_Mt.of (by decide) (by decide +kernel) rfl rfl ?_
  obtain ⟨d, rfl⟩ : ∃ d', d = d' + 1 := ⟨d - 1, by omega⟩
  unfold f_X6_takeNumber at H
  cases q3 : f_X6_takeFitting s0 a0 a1 0 with
  | none => rw [q3] at H; cases H
  | some w =>
   obtain ⟨r1, s0_2⟩ := w
   rw [q3] at H
   dsimp only at H
   refine pm_Wg.path (k := 4) (ds := []) (f' := (4, [some (.ref 1), some (.int a0), some (.int a1)], [.int 0, .int a1, .int a0, .ref 1], cl_h (ct_x v1 v2 v3 s0) g1 g2 g3 g4 g5 g6 g7 g8 g9 q)) tk_X6_takeNumber (by omega) rfl trivial ?_
   refine pm_Wg.callV (m' := 92) (ix := 67) (rr := 119) (pl := 1003) (b := 1) (As := [.int a0, .int a1, .int 0]) (S := []) (by decide) rfl (pm_dec tk_X6_takeNumber rfl) rfl rfl (by decide) rfl rfl (by decide) (Nat.le_of_ble_eq_true rfl) rfl (e_X6_takeFitting (by omega) q3) ?_
   have J := Option.some.inj H
   injection J with J0a J0z
   subst J0a
   subst J0z
   exact pm_Wg.iret (pm_dec tk_X6_takeNumber rfl) rfl rfl

def f_X6_takeNumberOrZero (s0 : cs_S) (a0 : Int32) (a1 : Int32) : Option (Int32 × cs_S) :=
  (match f_X6_takeFitting s0 a0 a1 1 with
  | none => none
  | some (r1, s0_2) =>
   some (r1, s0_2))
def tb_X6_takeNumberOrZero : List pm_I := [(0, .aload_n 0, 0, 0), (1, .iload_n 1, 0, 0), (2, .iload_n 2, 0, 0), (3, .iconst 1, 3, 0), (4, .invokevirtual 67, 119, 0), (7, .ireturn, 0, 0)]
theorem tk_X6_takeNumberOrZero : ∀ e ∈ tb_X6_takeNumberOrZero, pm_ck 91 e = true := List.all_eq_true.mp (by decide +kernel)
set_option maxRecDepth 20000 in
set_option maxHeartbeats 20000000 in
theorem e_X6_takeNumberOrZero {d : Nat} (hd : 4 ≤ d) {g1 g2 g3 g4 g5 g6 g7 g8 g9 : List pm_E} {v1 v2 v3 : Value} {q : Nat × Nat × Nat} {s0 : cs_S} {a0 : Int32} {a1 : Int32} {r : Int32} {z0 : cs_S} (H : f_X6_takeNumberOrZero s0 a0 a1 = some (r, z0)) : pm_Mt 91 d [.ref 1, .int a0, .int a1] (cl_h (ct_x v1 v2 v3 s0) g1 g2 g3 g4 g5 g6 g7 g8 g9 q) (.inl (some (.int r))) (cl_h (ct_x v1 v2 v3 z0) g1 g2 g3 g4 g5 g6 g7 g8 g9 q) := by
  refine pm_Mt.of (by decide) (by decide +kernel) rfl rfl ?_
  obtain ⟨d, rfl⟩ : ∃ d', d = d' + 1 := ⟨d - 1, by omega⟩
  unfold f_X6_takeNumberOrZero at H
  cases q3 : f_X6_takeFitting s0 a0 a1 1 with
  | none => rw [q3] at H; cases H
  | some w =>
   obtain ⟨r1, s0_2⟩ := w
   rw [q3] at H
   dsimp only at H
   refine pm_Wg.path (k := 4) (ds := []) (f' := (4, [some (.ref 1), some (.int a0), some (.int a1)], [.int 1, .int a1, .int a0, .ref 1], cl_h (ct_x v1 v2 v3 s0) g1 g2 g3 g4 g5 g6 g7 g8 g9 q)) tk_X6_takeNumberOrZero (by omega) rfl trivial ?_
   refine pm_Wg.callV (m' := 92) (ix := 67) (rr := 119) (pl := 1003) (b := 1) (As := [.int a0, .int a1, .int 1]) (S := []) (by decide) rfl (pm_dec tk_X6_takeNumberOrZero rfl) rfl rfl (by decide) rfl rfl (by decide) (Nat.le_of_ble_eq_true rfl) rfl (e_X6_takeFitting (by omega) q3) ?_
   have J := Option.some.inj H
   injection J with J0a J0z
   subst J0a
   subst J0z
   exact pm_Wg.iret (pm_dec tk_X6_takeNumberOrZero rfl) rfl rfl

def fc_X2_readShare_c2 (s0 : cs_S) (s3 : cs_S) (l2 : Int32) (k0 : Int32) (k1 : Int32) : Option (cs_S × cs_S) :=
  (match pm_inb k1 6 with
  | false => none
  | true =>
  some (s0, (cs_a s3 3 k1 k0)))
def fc_X2_readShare_c1 (s0 : cs_S) (s3 : cs_S) (l2 : Int32) (k0 : Int32) (k1 : Int32) : Option (cs_S × cs_S) :=
  (match pm_inb k1 6 with
  | false => none
  | true =>
  (match pm_inb l2 6 with
  | false => none
  | true =>
  (match f_X6_takeNumberOrZero s0 ((cs_a s3 2 k1 k0).2.1 1 (Int32.toNatClampNeg l2)) 1000 with
  | none => none
  | some (r10, s0_11) =>
   (fc_X2_readShare_c2 s0_11 (cs_a s3 2 k1 k0) l2 r10 l2))))
def f_X2_readShare (s0 : cs_S) (s3 : cs_S) (a1 : Int32) : Option (cs_S × cs_S) :=
  (match f_X6_takeNumber s0 0 1000 with
  | none => none
  | some (r1, s0_2) =>
   (match pm_inb a1 6 with
   | false => none
   | true =>
   (match f_X6_takeNumber s0_2 1 100 with
   | none => none
   | some (r5, s0_6) =>
    (fc_X2_readShare_c1 s0_6 (cs_a s3 1 a1 r1) a1 r5 a1))))
def tb_X2_readShare : List pm_I := [(0, .aload_n 0, 0, 0), (1, .getfield 36, 136, 0), (4, .iload_n 2, 0, 0), (5, .aload_n 1, 0, 0), (6, .iconst 0, 2, 0), (7, .sipush 1000, 39, 0), (10, .invokevirtual 53, 118, 0), (13, .iastore, 0, 0), (14, .aload_n 0, 0, 0), (15, .getfield 40, 140, 0), (18, .iload_n 2, 0, 0), (19, .aload_n 1, 0, 0), (20, .iconst 1, 3, 0), (21, .bipush 100, 29, 0), (23, .invokevirtual 53, 118, 0), (26, .iastore, 0, 0), (27, .aload_n 0, 0, 0), (28, .getfield 43, 143, 0), (31, .iload_n 2, 0, 0), (32, .aload_n 1, 0, 0), (33, .aload_n 0, 0, 0), (34, .getfield 36, 136, 0), (37, .iload_n 2, 0, 0), (38, .iaload, 0, 0), (39, .sipush 1000, 39, 0), (42, .invokevirtual 89, 122, 0), (45, .iastore, 0, 0), (46, .return_, 0, 0)]
theorem tk_X2_readShare : ∀ e ∈ tb_X2_readShare, pm_ck 30 e = true := List.all_eq_true.mp (by decide +kernel)
set_option maxRecDepth 20000 in
set_option maxHeartbeats 20000000 in
theorem ec_X2_readShare_c2 {d : Nat} (hd : 5 ≤ d) {g1 g2 g4 g5 g6 g7 g8 g9 : List pm_E} {v1 v2 v3 : Value} {q : Nat × Nat × Nat} {s0 : cs_S} {s3 : cs_S} {l2 : Int32} {k0 : Int32} {k1 : Int32} {z0 : cs_S} {z3 : cs_S} (H : fc_X2_readShare_c2 s0 s3 l2 k0 k1 = some (z0, z3)) : pm_Wg 30 d (.inl (none)) (cl_h (ct_x v1 v2 v3 z0) g1 g2 (ct_p3 z3) g4 g5 g6 g7 g8 g9 q) (45, [some (.ref 192), some (.ref 1), some (.int l2)], [.int k0, .int k1, .ref 195], cl_h (ct_x v1 v2 v3 s0) g1 g2 (ct_p3 s3) g4 g5 g6 g7 g8 g9 q) := by
  obtain ⟨d, rfl⟩ : ∃ d', d = d' + 1 := ⟨d - 1, by omega⟩
  unfold fc_X2_readShare_c2 at H
  try dsimp only at H
  cases b13 : pm_inb k1 6 with
  | false => rw [b13] at H; cases H
  | true =>
   rw [b13] at H
   dsimp only at H
   have J := Option.some.inj H
   injection J with J0a J0z
   subst J0a
   subst J0z
   refine pm_Wg.path (k := 1) (ds := []) (f' := (46, [some (.ref 192), some (.ref 1), some (.int l2)], [], cl_h (ct_x v1 v2 v3 s0) g1 g2 (ct_p3 (cs_a s3 3 k1 k0)) g4 g5 g6 g7 g8 g9 q)) tk_X2_readShare (by omega) rfl ⟨pm_inb_vp b13, trivial⟩ ?_
   exact pm_Wg.vret (pm_dec tk_X2_readShare rfl) rfl
set_option maxRecDepth 20000 in
set_option maxHeartbeats 20000000 in
theorem ec_X2_readShare_c1 {d : Nat} (hd : 5 ≤ d) {g1 g2 g4 g5 g6 g7 g8 g9 : List pm_E} {v1 v2 v3 : Value} {q : Nat × Nat × Nat} {s0 : cs_S} {s3 : cs_S} {l2 : Int32} {k0 : Int32} {k1 : Int32} {z0 : cs_S} {z3 : cs_S} (H : fc_X2_readShare_c1 s0 s3 l2 k0 k1 = some (z0, z3)) : pm_Wg 30 d (.inl (none)) (cl_h (ct_x v1 v2 v3 z0) g1 g2 (ct_p3 z3) g4 g5 g6 g7 g8 g9 q) (26, [some (.ref 192), some (.ref 1), some (.int l2)], [.int k0, .int k1, .ref 194], cl_h (ct_x v1 v2 v3 s0) g1 g2 (ct_p3 s3) g4 g5 g6 g7 g8 g9 q) := by
  obtain ⟨d, rfl⟩ : ∃ d', d = d' + 1 := ⟨d - 1, by omega⟩
  unfold fc_X2_readShare_c1 at H
  try dsimp only at H
  cases b8 : pm_inb k1 6 with
  | false => rw [b8] at H; cases H
  | true =>
   rw [b8] at H
   dsimp only at H
   cases b9 : pm_inb l2 6 with
   | false => rw [b9] at H; cases H
   | true =>
    rw [b9] at H
    dsimp only at H
    cases q12 : f_X6_takeNumberOrZero s0 ((cs_a s3 2 k1 k0).2.1 1 (Int32.toNatClampNeg l2)) 1000 with
    | none => rw [q12] at H; cases H
    | some w =>
     obtain ⟨r10, s0_11⟩ := w
     rw [q12] at H
     dsimp only at H
     refine pm_Wg.path (k := 10) (ds := []) (f' := (42, [some (.ref 192), some (.ref 1), some (.int l2)], [.int 1000, .int ((cs_a s3 2 k1 k0).2.1 1 (Int32.toNatClampNeg l2)), .ref 1, .int l2, .ref 195], cl_h (ct_x v1 v2 v3 s0) g1 g2 (ct_p3 (cs_a s3 2 k1 k0)) g4 g5 g6 g7 g8 g9 q)) tk_X2_readShare (by omega) rfl ⟨pm_inb_vp b9, pm_inb_vp b8, trivial⟩ ?_
     refine pm_Wg.callV (m' := 91) (ix := 89) (rr := 122) (pl := 1019) (b := 1) (As := [.int ((cs_a s3 2 k1 k0).2.1 1 (Int32.toNatClampNeg l2)), .int 1000]) (S := [.int l2, .ref 195]) (by decide) rfl (pm_dec tk_X2_readShare rfl) rfl rfl (by decide) rfl rfl (by decide) (Nat.le_of_ble_eq_true rfl) rfl (e_X6_takeNumberOrZero (by omega) q12) ?_
     exact ec_X2_readShare_c2 (by omega) H
set_option maxRecDepth 20000 in
set_option maxHeartbeats 20000000 in
theorem e_X2_readShare {d : Nat} (hd : 5 ≤ d) {g1 g2 g4 g5 g6 g7 g8 g9 : List pm_E} {v1 v2 v3 : Value} {q : Nat × Nat × Nat} {s0 : cs_S} {s3 : cs_S} {a1 : Int32} {z0 : cs_S} {z3 : cs_S} (H : f_X2_readShare s0 s3 a1 = some (z0, z3)) : pm_Mt 30 d [.ref 192, .ref 1, .int a1] (cl_h (ct_x v1 v2 v3 s0) g1 g2 (ct_p3 s3) g4 g5 g6 g7 g8 g9 q) (.inl (none)) (cl_h (ct_x v1 v2 v3 z0) g1 g2 (ct_p3 z3) g4 g5 g6 g7 g8 g9 q) := by
  refine pm_Mt.of (by decide) (by decide +kernel) rfl rfl ?_
  obtain ⟨d, rfl⟩ : ∃ d', d = d' + 1 := ⟨d - 1, by omega⟩
  unfold f_X2_readShare at H
  cases q3 : f_X6_takeNumber s0 0 1000 with
  | none => rw [q3] at H; cases H
  | some w =>
   obtain ⟨r1, s0_2⟩ := w
   rw [q3] at H
   dsimp only at H
   refine pm_Wg.path (k := 6) (ds := []) (f' := (10, [some (.ref 192), some (.ref 1), some (.int a1)], [.int 1000, .int 0, .ref 1, .int a1, .ref 193], cl_h (ct_x v1 v2 v3 s0) g1 g2 (ct_p3 s3) g4 g5 g6 g7 g8 g9 q)) tk_X2_readShare (by omega) rfl trivial ?_
   refine pm_Wg.callV (m' := 90) (ix := 53) (rr := 118) (pl := 999) (b := 1) (As := [.int 0, .int 1000]) (S := [.int a1, .ref 193]) (by decide) rfl (pm_dec tk_X2_readShare rfl) rfl rfl (by decide) rfl rfl (by decide) (Nat.le_of_ble_eq_true rfl) rfl (e_X6_takeNumber (by omega) q3) ?_
   cases b4 : pm_inb a1 6 with
   | false => rw [b4] at H; cases H
   | true =>
    rw [b4] at H
    dsimp only at H
    cases q7 : f_X6_takeNumber s0_2 1 100 with
    | none => rw [q7] at H; cases H
    | some w =>
     obtain ⟨r5, s0_6⟩ := w
     rw [q7] at H
     dsimp only at H
     refine pm_Wg.path (k := 7) (ds := []) (f' := (23, [some (.ref 192), some (.ref 1), some (.int a1)], [.int 100, .int 1, .ref 1, .int a1, .ref 194], cl_h (ct_x v1 v2 v3 s0_2) g1 g2 (ct_p3 (cs_a s3 1 a1 r1)) g4 g5 g6 g7 g8 g9 q)) tk_X2_readShare (by omega) rfl ⟨pm_inb_vp b4, trivial⟩ ?_
     refine pm_Wg.callV (m' := 90) (ix := 53) (rr := 118) (pl := 999) (b := 1) (As := [.int 1, .int 100]) (S := [.int a1, .ref 194]) (by decide) rfl (pm_dec tk_X2_readShare rfl) rfl rfl (by decide) rfl rfl (by decide) (Nat.le_of_ble_eq_true rfl) rfl (e_X6_takeNumber (by omega) q7) ?_
     exact ec_X2_readShare_c1 (by omega) H
