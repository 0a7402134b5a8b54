/-! loadArray, loadTrace, forecast: they make objects (wip/whole/decy.py). -/
def tb_X8_loadArray : List pm_I := [(0, .iload_n 1, 0, 0), (1, .ifCond .lt 14, 15, 0), (4, .iload_n 1, 0, 0), (5, .aload_n 0, 0, 0), (6, .getfield 10, 11, 0), (9, .getfield 27, 2, 0), (12, .if_icmp .le 13, 25, 0), (25, .new 47, 7, 5), (28, .dup, 0, 0), (29, .invokespecial 49, 374, 0), (32, .astore_n 2, 0, 0), (33, .aload_n 0, 0, 0), (34, .getfield 10, 11, 0), (37, .iload_n 1, 0, 0), (38, .invokevirtual 50, 98, 0), (41, .aload_n 2, 0, 0), (42, .aload_n 0, 0, 0), (43, .getfield 10, 11, 0), (46, .invokevirtual 53, 102, 0), (49, .aload_n 0, 0, 0), (50, .getfield 10, 11, 0), (53, .iconst 0, 2, 0), (54, .putfield 27, 2, 0), (57, .aload_n 0, 0, 0), (58, .getfield 10, 11, 0), (61, .getfield 57, 8, 0), (64, .ifCond .eq 13, 77, 0), (77, .aload_n 0, 0, 0), (78, .getfield 20, 13, 0), (81, .ifnonnull 22, 103, 0), (84, .aload_n 0, 0, 0), (85, .new 62, 2, 7), (88, .dup, 0, 0), (89, .aload_n 2, 0, 0), (90, .new 64, 8, 8), (93, .dup, 0, 0), (94, .invokespecial 66, 375, 0), (97, .invokespecial 67, 17, 0), (100, .putfield 20, 13, 0), (103, .aload_n 0, 0, 0), (104, .getfield 20, 13, 0), (107, .aload_n 2, 0, 0), (108, .invokevirtual 70, 127, 0), (111, .aload_n 2, 0, 0), (112, .getfield 74, 133, 0), (115, .ireturn, 0, 0)]
theorem tk_X8_loadArray : ∀ e ∈ tb_X8_loadArray, pm_ck 98 e = true := List.all_eq_true.mp (by decide +kernel)

def f_X8_loadArray_N (s0 : cs_S) (s3 : cs_S) (s5 : cs_S) (s6 : cs_S) (a0 : Int32) : Option ((Int32 ⊕ Nat) × cs_S × cs_S × cs_S × cs_S) :=
  (if a0 < 0 then
   some (.inr 1, s0, cs_z, cs_z, cs_z)
  else
   (if a0 ≤ (s0.1 1 1) then
    (match f_X6_begin s0 a0 with
    | none => none
    | some s0_3 =>
     (match f_X2_readFrom s0_3 cs_p0 with
     | none => none
     | some (s0_5, s3_6) =>
      (if ((cs_i s0_5 1 1 0).1 1 6) = 0 then
       (match f_X1_beginAnew cs_e0 cs_z with
       | none => none
       | some (s5_9, s6_10) =>
        some (.inl (s3_6.1 0 7), (cs_i s0_5 1 1 0), s3_6, s5_9, s6_10))
      else
       some (.inr 0, (cs_i s0_5 1 1 0), s3_6, cs_z, cs_z))))
   else
    some (.inr 1, s0, cs_z, cs_z, cs_z)))
set_option maxRecDepth 20000 in
set_option maxHeartbeats 20000000 in
theorem e_X8_loadArray_N {d : Nat} (hd : 9 ≤ d) {g1 g2 g4 g7 g8 g9 : List pm_E} {v1 v3 : Value} {q : Nat × Nat × Nat} {s0 : cs_S} {s3 : cs_S} {s5 : cs_S} {s6 : cs_S} {a0 : Int32} {r : Int32} {z0 : cs_S} {z3 : cs_S} {z5 : cs_S} {z6 : cs_S} (H : f_X8_loadArray_N s0 s3 s5 s6 a0 = some (.inl r, z0, z3, z5, z6)) : pm_Mt 98 d [.ref 0, .int a0] (cl_h (ct_x v1 (.null) v3 s0) g1 g2 [] g4 [] [] g7 g8 g9 q) (.inl (some (.int r))) (cl_h (ct_x v1 (.ref 320) v3 z0) g1 g2 (ct_p3 z3) g4 (ct_e5 (.ref 192) (.ref 384) z5) (ct_t6 z6) g7 g8 g9 (5, ((((((((((((((((((((((((((((((((((((((((((((q.2.1 + 1) + 1) + 1) + 1) + 1) + 1) + 1) + 1) + 1) + 1) + 1) + 1) + 1) + 1) + 1) + 1) + 1) + 1) + 1) + 1) + 1) + 1) + 1) + 1) + 1) + 1) + 1) + 1) + 1) + 1) + 1) + 1) + 1) + 1) + 1) + 1) + 1) + 1) + 1) + 1) + 1) + 1) + 1) + 1), ((((((((((((((((((((((((((((((((((((((((((((q.2.2 + 11) + 6) + 6) + 6) + 9) + 6) + 100) + 100) + 100) + 100) + 100) + 11) + 42) + 42) + 42) + 42) + 42) + 42) + 3248) + 3248) + 3248) + 3248) + 3248) + 5) + 7) + 7) + 7) + 7) + 18) + 12) + 400) + 400) + 400) + 400) + 400) + 400) + 400) + 6) + 6) + 6) + 6) + 11) + 64) + 64))) := by
  refine pm_Mt.of (by decide) (by decide +kernel) rfl rfl ?_
  obtain ⟨d, rfl⟩ : ∃ d', d = d' + 1 := ⟨d - 1, by omega⟩
  unfold f_X8_loadArray_N at H
  by_cases h1 : a0 < 0
  · rw [if_pos h1] at H
    have J := Option.some.inj H
    injection J with J0a J0z
    cases J0a
  · rw [if_neg h1] at H
    by_cases h2 : a0 ≤ (s0.1 1 1)
    · rw [if_pos h2] at H
      refine pm_Wg.path (k := 9) (ds := [0, 1]) (f' := (29, [some (.ref 0), some (.int a0), none], [.ref 192, .ref 192], cl_h (ct_x v1 (.null) v3 s0) g1 g2 [.inr (2, pm_df 2)] g4 [] [] g7 g8 g9 (3, (q.2.1 + 1), (q.2.2 + 11)))) tk_X8_loadArray (by omega) rfl ⟨h2, h1, trivial⟩ ?_
      refine pm_Wg.callI (m' := 27) (ix := 49) (rr := 374) (pl := 864) (b := 192) (z := 1) (As := []) (S := [.ref 192]) (by decide) rfl (pm_dec tk_X8_loadArray rfl) rfl (by decide) rfl (by decide) rfl rfl (Nat.le_of_ble_eq_true rfl) rfl (w_X2_init_3 (by omega)) ?_
      cases q4 : f_X6_begin s0 a0 with
      | none => rw [q4] at H; cases H
      | some s0_3 =>
       rw [q4] at H
       dsimp only at H
       refine pm_Wg.path (k := 4) (ds := []) (f' := (38, [some (.ref 0), some (.int a0), some (.ref 192)], [.int a0, .ref 1], cl_h (ct_x v1 (.null) v3 s0) g1 g2 (ct_p3 cs_p0) g4 [] [] g7 g8 g9 (3, ((((q.2.1 + 1) + 1) + 1) + 1), ((((q.2.2 + 11) + 6) + 6) + 6)))) tk_X8_loadArray (by omega) rfl trivial ?_
       refine pm_Wg.callV (m' := 82) (ix := 50) (rr := 98) (pl := 922) (b := 1) (As := [.int a0]) (S := []) (by decide) rfl (pm_dec tk_X8_loadArray rfl) rfl rfl (by decide) rfl rfl (by decide) (Nat.le_of_ble_eq_true rfl) rfl (e_X6_begin (by omega) q4) ?_
       cases q7 : f_X2_readFrom s0_3 cs_p0 with
       | none => rw [q7] at H; cases H
       | some w =>
        obtain ⟨s0_5, s3_6⟩ := w
        rw [q7] at H
        dsimp only at H
        refine pm_Wg.path (k := 3) (ds := []) (f' := (46, [some (.ref 0), some (.int a0), some (.ref 192)], [.ref 1, .ref 192], cl_h (ct_x v1 (.null) v3 s0_3) g1 g2 (ct_p3 cs_p0) g4 [] [] g7 g8 g9 (3, ((((q.2.1 + 1) + 1) + 1) + 1), ((((q.2.2 + 11) + 6) + 6) + 6)))) tk_X8_loadArray (by omega) rfl trivial ?_
        refine pm_Wg.callV (m' := 28) (ix := 53) (rr := 102) (pl := 934) (b := 192) (As := [.ref 1]) (S := []) (by decide) rfl (pm_dec tk_X8_loadArray rfl) rfl rfl (by decide) rfl rfl (by decide) (Nat.le_of_ble_eq_true rfl) rfl (e_X2_readFrom (by omega) q7) ?_
        by_cases h8 : ((cs_i s0_5 1 1 0).1 1 6) = 0
        · rw [if_pos h8] at H
          refine pm_Wg.path (k := 17) (ds := [1]) (f' := (94, [some (.ref 0), some (.int a0), some (.ref 192)], [.ref 384, .ref 384, .ref 192, .ref 320, .ref 320, .ref 0], cl_h (ct_x v1 (.null) v3 (cs_i s0_5 1 1 0)) g1 g2 (ct_p3 s3_6) g4 [.inr (1, pm_df 1)] [.inr (7, pm_df 7)] g7 g8 g9 (6, ((((((q.2.1 + 1) + 1) + 1) + 1) + 1) + 1), ((((((q.2.2 + 11) + 6) + 6) + 6) + 9) + 6)))) tk_X8_loadArray (by omega) rfl ⟨h8, trivial⟩ ?_
          refine pm_Wg.callI (m' := 93) (ix := 66) (rr := 375) (pl := 1040) (b := 384) (z := 1) (As := []) (S := [.ref 384, .ref 192, .ref 320, .ref 320, .ref 0]) (by decide) rfl (pm_dec tk_X8_loadArray rfl) rfl (by decide) rfl (by decide) rfl rfl (Nat.le_of_ble_eq_true rfl) rfl (w_X7_init_6 (by omega)) ?_
          refine pm_Wg.callI (m' := 5) (ix := 67) (rr := 17) (pl := 263) (b := 320) (z := 0) (As := [.ref 192, .ref 384]) (S := [.ref 320, .ref 0]) (by decide) rfl (pm_dec tk_X8_loadArray rfl) rfl (by decide) rfl (by decide) rfl rfl (Nat.le_of_ble_eq_true rfl) rfl (w_X1_init_5 (by omega)) ?_
          cases q11 : f_X1_beginAnew cs_e0 cs_z with
          | none => rw [q11] at H; cases H
          | some w =>
           obtain ⟨s5_9, s6_10⟩ := w
           rw [q11] at H
           dsimp only at H
           refine pm_Wg.path (k := 4) (ds := []) (f' := (108, [some (.ref 0), some (.int a0), some (.ref 192)], [.ref 192, .ref 320], cl_h (ct_x v1 (.ref 320) v3 (cs_i s0_5 1 1 0)) g1 g2 (ct_p3 s3_6) g4 (ct_e5 (.ref 192) (.ref 384) cs_e0) (ct_t6 cs_z) g7 g8 g9 (5, ((((((((((((((((((((((((((((((((((((((((((((q.2.1 + 1) + 1) + 1) + 1) + 1) + 1) + 1) + 1) + 1) + 1) + 1) + 1) + 1) + 1) + 1) + 1) + 1) + 1) + 1) + 1) + 1) + 1) + 1) + 1) + 1) + 1) + 1) + 1) + 1) + 1) + 1) + 1) + 1) + 1) + 1) + 1) + 1) + 1) + 1) + 1) + 1) + 1) + 1) + 1), ((((((((((((((((((((((((((((((((((((((((((((q.2.2 + 11) + 6) + 6) + 6) + 9) + 6) + 100) + 100) + 100) + 100) + 100) + 11) + 42) + 42) + 42) + 42) + 42) + 42) + 3248) + 3248) + 3248) + 3248) + 3248) + 5) + 7) + 7) + 7) + 7) + 18) + 12) + 400) + 400) + 400) + 400) + 400) + 400) + 400) + 6) + 6) + 6) + 6) + 11) + 64) + 64)))) tk_X8_loadArray (by omega) rfl trivial ?_
           refine pm_Wg.callV (m' := 6) (ix := 70) (rr := 127) (pl := 1071) (b := 320) (As := [.ref 192]) (S := []) (by decide) rfl (pm_dec tk_X8_loadArray rfl) rfl rfl (by decide) rfl rfl (by decide) (Nat.le_of_ble_eq_true rfl) rfl (e_X1_beginAnew (by omega) q11) ?_
           have J := Option.some.inj H
           injection J with J0a J0b
           injection J0b with J1a J1b
           injection J1b with J2a J2b
           injection J2b with J3a J3z
           injection J0a with JR
           subst JR
           subst J1a
           subst J2a
           subst J3a
           subst J3z
           refine pm_Wg.path (k := 2) (ds := []) (f' := (115, [some (.ref 0), some (.int a0), some (.ref 192)], [.int (s3_6.1 0 7)], cl_h (ct_x v1 (.ref 320) v3 (cs_i s0_5 1 1 0)) g1 g2 (ct_p3 s3_6) g4 (ct_e5 (.ref 192) (.ref 384) s5_9) (ct_t6 s6_10) g7 g8 g9 (5, ((((((((((((((((((((((((((((((((((((((((((((q.2.1 + 1) + 1) + 1) + 1) + 1) + 1) + 1) + 1) + 1) + 1) + 1) + 1) + 1) + 1) + 1) + 1) + 1) + 1) + 1) + 1) + 1) + 1) + 1) + 1) + 1) + 1) + 1) + 1) + 1) + 1) + 1) + 1) + 1) + 1) + 1) + 1) + 1) + 1) + 1) + 1) + 1) + 1) + 1) + 1), ((((((((((((((((((((((((((((((((((((((((((((q.2.2 + 11) + 6) + 6) + 6) + 9) + 6) + 100) + 100) + 100) + 100) + 100) + 11) + 42) + 42) + 42) + 42) + 42) + 42) + 3248) + 3248) + 3248) + 3248) + 3248) + 5) + 7) + 7) + 7) + 7) + 18) + 12) + 400) + 400) + 400) + 400) + 400) + 400) + 400) + 6) + 6) + 6) + 6) + 11) + 64) + 64)))) tk_X8_loadArray (by omega) rfl trivial ?_
           exact pm_Wg.iret (pm_dec tk_X8_loadArray rfl) rfl rfl
        · rw [if_neg h8] at H
          have J := Option.some.inj H
          injection J with J0a J0z
          cases J0a
    · rw [if_neg h2] at H
      have J := Option.some.inj H
      injection J with J0a J0z
      cases J0a
set_option maxRecDepth 20000 in
set_option maxHeartbeats 20000000 in
theorem e_X8_loadArray_N_t0 {d : Nat} (hd : 9 ≤ d) {g1 g2 g4 g7 g8 g9 : List pm_E} {v1 v3 : Value} {q : Nat × Nat × Nat} {s0 : cs_S} {s3 : cs_S} {s5 : cs_S} {s6 : cs_S} {a0 : Int32} {z0 : cs_S} {z3 : cs_S} {z5 : cs_S} {z6 : cs_S} (H : f_X8_loadArray_N s0 s3 s5 s6 a0 = some (.inr 0, z0, z3, z5, z6)) : pm_Mt 98 d [.ref 0, .int a0] (cl_h (ct_x v1 (.null) v3 s0) g1 g2 [] g4 [] [] g7 g8 g9 q) (.inr "java/lang/IllegalStateException") (cl_h (ct_x v1 (.null) v3 z0) g1 g2 (ct_p3 z3) g4 [] [] g7 g8 g9 (3, ((((q.2.1 + 1) + 1) + 1) + 1) + 1, ((((q.2.2 + 11) + 6) + 6) + 6) + 6)) := by
  refine pm_Mt.of (by decide) (by decide +kernel) rfl rfl ?_
  obtain ⟨d, rfl⟩ : ∃ d', d = d' + 1 := ⟨d - 1, by omega⟩
  unfold f_X8_loadArray_N at H
  by_cases h1 : a0 < 0
  · rw [if_pos h1] at H
    have J := Option.some.inj H
    injection J with J0a J0z
    cases J0a
  · rw [if_neg h1] at H
    by_cases h2 : a0 ≤ (s0.1 1 1)
    · rw [if_pos h2] at H
      refine pm_Wg.path (k := 9) (ds := [0, 1]) (f' := (29, [some (.ref 0), some (.int a0), none], [.ref 192, .ref 192], cl_h (ct_x v1 (.null) v3 s0) g1 g2 [.inr (2, pm_df 2)] g4 [] [] g7 g8 g9 (3, (q.2.1 + 1), (q.2.2 + 11)))) tk_X8_loadArray (by omega) rfl ⟨h2, h1, trivial⟩ ?_
      refine pm_Wg.callI (m' := 27) (ix := 49) (rr := 374) (pl := 864) (b := 192) (z := 1) (As := []) (S := [.ref 192]) (by decide) rfl (pm_dec tk_X8_loadArray rfl) rfl (by decide) rfl (by decide) rfl rfl (Nat.le_of_ble_eq_true rfl) rfl (w_X2_init_3 (by omega)) ?_
      cases q4 : f_X6_begin s0 a0 with
      | none => rw [q4] at H; cases H
      | some s0_3 =>
       rw [q4] at H
       dsimp only at H
       refine pm_Wg.path (k := 4) (ds := []) (f' := (38, [some (.ref 0), some (.int a0), some (.ref 192)], [.int a0, .ref 1], cl_h (ct_x v1 (.null) v3 s0) g1 g2 (ct_p3 cs_p0) g4 [] [] g7 g8 g9 (3, ((((q.2.1 + 1) + 1) + 1) + 1), ((((q.2.2 + 11) + 6) + 6) + 6)))) tk_X8_loadArray (by omega) rfl trivial ?_
       refine pm_Wg.callV (m' := 82) (ix := 50) (rr := 98) (pl := 922) (b := 1) (As := [.int a0]) (S := []) (by decide) rfl (pm_dec tk_X8_loadArray rfl) rfl rfl (by decide) rfl rfl (by decide) (Nat.le_of_ble_eq_true rfl) rfl (e_X6_begin (by omega) q4) ?_
       cases q7 : f_X2_readFrom s0_3 cs_p0 with
       | none => rw [q7] at H; cases H
       | some w =>
        obtain ⟨s0_5, s3_6⟩ := w
        rw [q7] at H
        dsimp only at H
        refine pm_Wg.path (k := 3) (ds := []) (f' := (46, [some (.ref 0), some (.int a0), some (.ref 192)], [.ref 1, .ref 192], cl_h (ct_x v1 (.null) v3 s0_3) g1 g2 (ct_p3 cs_p0) g4 [] [] g7 g8 g9 (3, ((((q.2.1 + 1) + 1) + 1) + 1), ((((q.2.2 + 11) + 6) + 6) + 6)))) tk_X8_loadArray (by omega) rfl trivial ?_
        refine pm_Wg.callV (m' := 28) (ix := 53) (rr := 102) (pl := 934) (b := 192) (As := [.ref 1]) (S := []) (by decide) rfl (pm_dec tk_X8_loadArray rfl) rfl rfl (by decide) rfl rfl (by decide) (Nat.le_of_ble_eq_true rfl) rfl (e_X2_readFrom (by omega) q7) ?_
        by_cases h8 : ((cs_i s0_5 1 1 0).1 1 6) = 0
        · rw [if_pos h8] at H
          refine pm_Wg.path (k := 17) (ds := [1]) (f' := (94, [some (.ref 0), some (.int a0), some (.ref 192)], [.ref 384, .ref 384, .ref 192, .ref 320, .ref 320, .ref 0], cl_h (ct_x v1 (.null) v3 (cs_i s0_5 1 1 0)) g1 g2 (ct_p3 s3_6) g4 [.inr (1, pm_df 1)] [.inr (7, pm_df 7)] g7 g8 g9 (6, ((((((q.2.1 + 1) + 1) + 1) + 1) + 1) + 1), ((((((q.2.2 + 11) + 6) + 6) + 6) + 9) + 6)))) tk_X8_loadArray (by omega) rfl ⟨h8, trivial⟩ ?_
          refine pm_Wg.callI (m' := 93) (ix := 66) (rr := 375) (pl := 1040) (b := 384) (z := 1) (As := []) (S := [.ref 384, .ref 192, .ref 320, .ref 320, .ref 0]) (by decide) rfl (pm_dec tk_X8_loadArray rfl) rfl (by decide) rfl (by decide) rfl rfl (Nat.le_of_ble_eq_true rfl) rfl (w_X7_init_6 (by omega)) ?_
          refine pm_Wg.callI (m' := 5) (ix := 67) (rr := 17) (pl := 263) (b := 320) (z := 0) (As := [.ref 192, .ref 384]) (S := [.ref 320, .ref 0]) (by decide) rfl (pm_dec tk_X8_loadArray rfl) rfl (by decide) rfl (by decide) rfl rfl (Nat.le_of_ble_eq_true rfl) rfl (w_X1_init_5 (by omega)) ?_
          cases q11 : f_X1_beginAnew cs_e0 cs_z with
          | none => rw [q11] at H; cases H
          | some w =>
           obtain ⟨s5_9, s6_10⟩ := w
           rw [q11] at H
           dsimp only at H
           refine pm_Wg.path (k := 4) (ds := []) (f' := (108, [some (.ref 0), some (.int a0), some (.ref 192)], [.ref 192, .ref 320], cl_h (ct_x v1 (.ref 320) v3 (cs_i s0_5 1 1 0)) g1 g2 (ct_p3 s3_6) g4 (ct_e5 (.ref 192) (.ref 384) cs_e0) (ct_t6 cs_z) g7 g8 g9 (5, ((((((((((((((((((((((((((((((((((((((((((((q.2.1 + 1) + 1) + 1) + 1) + 1) + 1) + 1) + 1) + 1) + 1) + 1) + 1) + 1) + 1) + 1) + 1) + 1) + 1) + 1) + 1) + 1) + 1) + 1) + 1) + 1) + 1) + 1) + 1) + 1) + 1) + 1) + 1) + 1) + 1) + 1) + 1) + 1) + 1) + 1) + 1) + 1) + 1) + 1) + 1), ((((((((((((((((((((((((((((((((((((((((((((q.2.2 + 11) + 6) + 6) + 6) + 9) + 6) + 100) + 100) + 100) + 100) + 100) + 11) + 42) + 42) + 42) + 42) + 42) + 42) + 3248) + 3248) + 3248) + 3248) + 3248) + 5) + 7) + 7) + 7) + 7) + 18) + 12) + 400) + 400) + 400) + 400) + 400) + 400) + 400) + 6) + 6) + 6) + 6) + 11) + 64) + 64)))) tk_X8_loadArray (by omega) rfl trivial ?_
           refine pm_Wg.callV (m' := 6) (ix := 70) (rr := 127) (pl := 1071) (b := 320) (As := [.ref 192]) (S := []) (by decide) rfl (pm_dec tk_X8_loadArray rfl) rfl rfl (by decide) rfl rfl (by decide) (Nat.le_of_ble_eq_true rfl) rfl (e_X1_beginAnew (by omega) q11) ?_
           have J := Option.some.inj H
           injection J with J0a J0z
           cases J0a
        · rw [if_neg h8] at H
          have J := Option.some.inj H
          injection J with J0a J0b
          injection J0b with J1a J1b
          injection J1b with J2a J2b
          injection J2b with J3a J3z
          subst J1a
          subst J2a
          subst J3a
          subst J3z
          refine pm_Wg.path (k := 8) (ds := [0]) (f' := (67, [some (.ref 0), some (.int a0), some (.ref 192)], [], cl_h (ct_x v1 (.null) v3 (cs_i s0_5 1 1 0)) g1 g2 (ct_p3 s3_6) g4 [] [] g7 g8 g9 (3, ((((q.2.1 + 1) + 1) + 1) + 1), ((((q.2.2 + 11) + 6) + 6) + 6)))) tk_X8_loadArray (by omega) rfl ⟨h8, trivial⟩ ?_
          exact pm_Wg.throw (ik := 31) (ic := 35) (ix := 7) (rx := Bundle.six) (k := 11) rfl rfl (by omega) px_ISE rfl rfl (by decide +kernel) (by decide +kernel) (by decide +kernel) (by decide +kernel) (by decide +kernel) (Nat.le_of_ble_eq_true rfl)
    · rw [if_neg h2] at H
      have J := Option.some.inj H
      injection J with J0a J0z
      cases J0a
set_option maxRecDepth 20000 in
set_option maxHeartbeats 20000000 in
theorem e_X8_loadArray_N_t1 {d : Nat} (hd : 9 ≤ d) {g1 g2 g4 g7 g8 g9 : List pm_E} {v1 v3 : Value} {q : Nat × Nat × Nat} {s0 : cs_S} {s3 : cs_S} {s5 : cs_S} {s6 : cs_S} {a0 : Int32} {z0 : cs_S} {z3 : cs_S} {z5 : cs_S} {z6 : cs_S} (H : f_X8_loadArray_N s0 s3 s5 s6 a0 = some (.inr 1, z0, z3, z5, z6)) : pm_Mt 98 d [.ref 0, .int a0] (cl_h (ct_x v1 (.null) v3 s0) g1 g2 [] g4 [] [] g7 g8 g9 q) (.inr "java/lang/IllegalArgumentException") (cl_h (ct_x v1 (.null) v3 z0) g1 g2 [] g4 [] [] g7 g8 g9 (q.1, q.2.1 + 1, q.2.2 + 6)) := by
  refine pm_Mt.of (by decide) (by decide +kernel) rfl rfl ?_
  obtain ⟨d, rfl⟩ : ∃ d', d = d' + 1 := ⟨d - 1, by omega⟩
  unfold f_X8_loadArray_N at H
  by_cases h1 : a0 < 0
  · rw [if_pos h1] at H
    have J := Option.some.inj H
    injection J with J0a J0b
    injection J0b with J1a J1b
    injection J1b with J2a J2b
    injection J2b with J3a J3z
    subst J1a
    subst J2a
    subst J3a
    subst J3z
    refine pm_Wg.path (k := 2) (ds := [1]) (f' := (15, [some (.ref 0), some (.int a0), none], [], cl_h (ct_x v1 (.null) v3 s0) g1 g2 [] g4 [] [] g7 g8 g9 q)) tk_X8_loadArray (by omega) rfl ⟨h1, trivial⟩ ?_
    exact pm_Wg.throw (ik := 42) (ic := 46) (ix := 7) (rx := Bundle.six) (k := 1) rfl rfl (by omega) px_IAE rfl rfl (by decide +kernel) (by decide +kernel) (by decide +kernel) (by decide +kernel) (by decide +kernel) (Nat.le_of_ble_eq_true rfl)
  · rw [if_neg h1] at H
    by_cases h2 : a0 ≤ (s0.1 1 1)
    · rw [if_pos h2] at H
      refine pm_Wg.path (k := 9) (ds := [0, 1]) (f' := (29, [some (.ref 0), some (.int a0), none], [.ref 192, .ref 192], cl_h (ct_x v1 (.null) v3 s0) g1 g2 [.inr (2, pm_df 2)] g4 [] [] g7 g8 g9 (3, (q.2.1 + 1), (q.2.2 + 11)))) tk_X8_loadArray (by omega) rfl ⟨h2, h1, trivial⟩ ?_
      refine pm_Wg.callI (m' := 27) (ix := 49) (rr := 374) (pl := 864) (b := 192) (z := 1) (As := []) (S := [.ref 192]) (by decide) rfl (pm_dec tk_X8_loadArray rfl) rfl (by decide) rfl (by decide) rfl rfl (Nat.le_of_ble_eq_true rfl) rfl (w_X2_init_3 (by omega)) ?_
      cases q4 : f_X6_begin s0 a0 with
      | none => rw [q4] at H; cases H
      | some s0_3 =>
       rw [q4] at H
       dsimp only at H
       refine pm_Wg.path (k := 4) (ds := []) (f' := (38, [some (.ref 0), some (.int a0), some (.ref 192)], [.int a0, .ref 1], cl_h (ct_x v1 (.null) v3 s0) g1 g2 (ct_p3 cs_p0) g4 [] [] g7 g8 g9 (3, ((((q.2.1 + 1) + 1) + 1) + 1), ((((q.2.2 + 11) + 6) + 6) + 6)))) tk_X8_loadArray (by omega) rfl trivial ?_
       refine pm_Wg.callV (m' := 82) (ix := 50) (rr := 98) (pl := 922) (b := 1) (As := [.int a0]) (S := []) (by decide) rfl (pm_dec tk_X8_loadArray rfl) rfl rfl (by decide) rfl rfl (by decide) (Nat.le_of_ble_eq_true rfl) rfl (e_X6_begin (by omega) q4) ?_
       cases q7 : f_X2_readFrom s0_3 cs_p0 with
       | none => rw [q7] at H; cases H
       | some w =>
        obtain ⟨s0_5, s3_6⟩ := w
        rw [q7] at H
        dsimp only at H
        refine pm_Wg.path (k := 3) (ds := []) (f' := (46, [some (.ref 0), some (.int a0), some (.ref 192)], [.ref 1, .ref 192], cl_h (ct_x v1 (.null) v3 s0_3) g1 g2 (ct_p3 cs_p0) g4 [] [] g7 g8 g9 (3, ((((q.2.1 + 1) + 1) + 1) + 1), ((((q.2.2 + 11) + 6) + 6) + 6)))) tk_X8_loadArray (by omega) rfl trivial ?_
        refine pm_Wg.callV (m' := 28) (ix := 53) (rr := 102) (pl := 934) (b := 192) (As := [.ref 1]) (S := []) (by decide) rfl (pm_dec tk_X8_loadArray rfl) rfl rfl (by decide) rfl rfl (by decide) (Nat.le_of_ble_eq_true rfl) rfl (e_X2_readFrom (by omega) q7) ?_
        by_cases h8 : ((cs_i s0_5 1 1 0).1 1 6) = 0
        · rw [if_pos h8] at H
          refine pm_Wg.path (k := 17) (ds := [1]) (f' := (94, [some (.ref 0), some (.int a0), some (.ref 192)], [.ref 384, .ref 384, .ref 192, .ref 320, .ref 320, .ref 0], cl_h (ct_x v1 (.null) v3 (cs_i s0_5 1 1 0)) g1 g2 (ct_p3 s3_6) g4 [.inr (1, pm_df 1)] [.inr (7, pm_df 7)] g7 g8 g9 (6, ((((((q.2.1 + 1) + 1) + 1) + 1) + 1) + 1), ((((((q.2.2 + 11) + 6) + 6) + 6) + 9) + 6)))) tk_X8_loadArray (by omega) rfl ⟨h8, trivial⟩ ?_
          refine pm_Wg.callI (m' := 93) (ix := 66) (rr := 375) (pl := 1040) (b := 384) (z := 1) (As := []) (S := [.ref 384, .ref 192, .ref 320, .ref 320, .ref 0]) (by decide) rfl (pm_dec tk_X8_loadArray rfl) rfl (by decide) rfl (by decide) rfl rfl (Nat.le_of_ble_eq_true rfl) rfl (w_X7_init_6 (by omega)) ?_
          refine pm_Wg.callI (m' := 5) (ix := 67) (rr := 17) (pl := 263) (b := 320) (z := 0) (As := [.ref 192, .ref 384]) (S := [.ref 320, .ref 0]) (by decide) rfl (pm_dec tk_X8_loadArray rfl) rfl (by decide) rfl (by decide) rfl rfl (Nat.le_of_ble_eq_true rfl) rfl (w_X1_init_5 (by omega)) ?_
          cases q11 : f_X1_beginAnew cs_e0 cs_z with
          | none => rw [q11] at H; cases H
          | some w =>
           obtain ⟨s5_9, s6_10⟩ := w
           rw [q11] at H
           dsimp only at H
           refine pm_Wg.path (k := 4) (ds := []) (f' := (108, [some (.ref 0), some (.int a0), some (.ref 192)], [.ref 192, .ref 320], cl_h (ct_x v1 (.ref 320) v3 (cs_i s0_5 1 1 0)) g1 g2 (ct_p3 s3_6) g4 (ct_e5 (.ref 192) (.ref 384) cs_e0) (ct_t6 cs_z) g7 g8 g9 (5, ((((((((((((((((((((((((((((((((((((((((((((q.2.1 + 1) + 1) + 1) + 1) + 1) + 1) + 1) + 1) + 1) + 1) + 1) + 1) + 1) + 1) + 1) + 1) + 1) + 1) + 1) + 1) + 1) + 1) + 1) + 1) + 1) + 1) + 1) + 1) + 1) + 1) + 1) + 1) + 1) + 1) + 1) + 1) + 1) + 1) + 1) + 1) + 1) + 1) + 1) + 1), ((((((((((((((((((((((((((((((((((((((((((((q.2.2 + 11) + 6) + 6) + 6) + 9) + 6) + 100) + 100) + 100) + 100) + 100) + 11) + 42) + 42) + 42) + 42) + 42) + 42) + 3248) + 3248) + 3248) + 3248) + 3248) + 5) + 7) + 7) + 7) + 7) + 18) + 12) + 400) + 400) + 400) + 400) + 400) + 400) + 400) + 6) + 6) + 6) + 6) + 11) + 64) + 64)))) tk_X8_loadArray (by omega) rfl trivial ?_
           refine pm_Wg.callV (m' := 6) (ix := 70) (rr := 127) (pl := 1071) (b := 320) (As := [.ref 192]) (S := []) (by decide) rfl (pm_dec tk_X8_loadArray rfl) rfl rfl (by decide) rfl rfl (by decide) (Nat.le_of_ble_eq_true rfl) rfl (e_X1_beginAnew (by omega) q11) ?_
           have J := Option.some.inj H
           injection J with J0a J0z
           cases J0a
        · rw [if_neg h8] at H
          have J := Option.some.inj H
          injection J with J0a J0z
          cases J0a
    · rw [if_neg h2] at H
      have J := Option.some.inj H
      injection J with J0a J0b
      injection J0b with J1a J1b
      injection J1b with J2a J2b
      injection J2b with J3a J3z
      subst J1a
      subst J2a
      subst J3a
      subst J3z
      refine pm_Wg.path (k := 7) (ds := [0, 0]) (f' := (15, [some (.ref 0), some (.int a0), none], [], cl_h (ct_x v1 (.null) v3 s0) g1 g2 [] g4 [] [] g7 g8 g9 q)) tk_X8_loadArray (by omega) rfl ⟨h2, h1, trivial⟩ ?_
      exact pm_Wg.throw (ik := 42) (ic := 46) (ix := 7) (rx := Bundle.six) (k := 1) rfl rfl (by omega) px_IAE rfl rfl (by decide +kernel) (by decide +kernel) (by decide +kernel) (by decide +kernel) (by decide +kernel) (Nat.le_of_ble_eq_true rfl)

def f_X8_loadArray_E (s0 : cs_S) (s3 : cs_S) (s5 : cs_S) (s6 : cs_S) (a0 : Int32) : Option ((Int32 ⊕ Nat) × cs_S × cs_S × cs_S × cs_S) :=
  (if a0 < 0 then
   some (.inr 1, s0, cs_z, s5, s6)
  else
   (if a0 ≤ (s0.1 1 1) then
    (match f_X6_begin s0 a0 with
    | none => none
    | some s0_3 =>
     (match f_X2_readFrom s0_3 cs_p0 with
     | none => none
     | some (s0_5, s3_6) =>
      (if ((cs_i s0_5 1 1 0).1 1 6) = 0 then
       (match f_X1_beginAnew s5 s6 with
       | none => none
       | some (s5_9, s6_10) =>
        some (.inl (s3_6.1 0 7), (cs_i s0_5 1 1 0), s3_6, s5_9, s6_10))
      else
       some (.inr 0, (cs_i s0_5 1 1 0), s3_6, s5, s6))))
   else
    some (.inr 1, s0, cs_z, s5, s6)))
set_option maxRecDepth 20000 in
set_option maxHeartbeats 20000000 in
theorem e_X8_loadArray_E {d : Nat} (hd : 9 ≤ d) {g1 g2 g4 g7 g8 g9 : List pm_E} {v1 v3 : Value} {q : Nat × Nat × Nat} {s0 : cs_S} {s3 : cs_S} {s5 : cs_S} {s6 : cs_S} {a0 : Int32} {r : Int32} {z0 : cs_S} {z3 : cs_S} {z5 : cs_S} {z6 : cs_S} (H : f_X8_loadArray_E s0 s3 s5 s6 a0 = some (.inl r, z0, z3, z5, z6)) : pm_Mt 98 d [.ref 0, .int a0] (cl_h (ct_x v1 (.ref 320) v3 s0) g1 g2 [] g4 (ct_e5 (.ref 256) (.ref 384) s5) (ct_t6 s6) g7 g8 g9 q) (.inl (some (.int r))) (cl_h (ct_x v1 (.ref 320) v3 z0) g1 g2 (ct_p3 z3) g4 (ct_e5 (.ref 192) (.ref 384) z5) (ct_t6 z6) g7 g8 g9 (3, ((((q.2.1 + 1) + 1) + 1) + 1), ((((q.2.2 + 11) + 6) + 6) + 6))) := by
  refine pm_Mt.of (by decide) (by decide +kernel) rfl rfl ?_
  obtain ⟨d, rfl⟩ : ∃ d', d = d' + 1 := ⟨d - 1, by omega⟩
  unfold f_X8_loadArray_E at H
  by_cases h1 : a0 < 0
  · rw [if_pos h1] at H
    have J := Option.some.inj H
    injection J with J0a J0z
    cases J0a
  · rw [if_neg h1] at H
    by_cases h2 : a0 ≤ (s0.1 1 1)
    · rw [if_pos h2] at H
      refine pm_Wg.path (k := 9) (ds := [0, 1]) (f' := (29, [some (.ref 0), some (.int a0), none], [.ref 192, .ref 192], cl_h (ct_x v1 (.ref 320) v3 s0) g1 g2 [.inr (2, pm_df 2)] g4 (ct_e5 (.ref 256) (.ref 384) s5) (ct_t6 s6) g7 g8 g9 (3, (q.2.1 + 1), (q.2.2 + 11)))) tk_X8_loadArray (by omega) rfl ⟨h2, h1, trivial⟩ ?_
      refine pm_Wg.callI (m' := 27) (ix := 49) (rr := 374) (pl := 864) (b := 192) (z := 1) (As := []) (S := [.ref 192]) (by decide) rfl (pm_dec tk_X8_loadArray rfl) rfl (by decide) rfl (by decide) rfl rfl (Nat.le_of_ble_eq_true rfl) rfl (w_X2_init_3 (by omega)) ?_
      cases q4 : f_X6_begin s0 a0 with
      | none => rw [q4] at H; cases H
      | some s0_3 =>
       rw [q4] at H
       dsimp only at H
       refine pm_Wg.path (k := 4) (ds := []) (f' := (38, [some (.ref 0), some (.int a0), some (.ref 192)], [.int a0, .ref 1], cl_h (ct_x v1 (.ref 320) v3 s0) g1 g2 (ct_p3 cs_p0) g4 (ct_e5 (.ref 256) (.ref 384) s5) (ct_t6 s6) g7 g8 g9 (3, ((((q.2.1 + 1) + 1) + 1) + 1), ((((q.2.2 + 11) + 6) + 6) + 6)))) tk_X8_loadArray (by omega) rfl trivial ?_
       refine pm_Wg.callV (m' := 82) (ix := 50) (rr := 98) (pl := 922) (b := 1) (As := [.int a0]) (S := []) (by decide) rfl (pm_dec tk_X8_loadArray rfl) rfl rfl (by decide) rfl rfl (by decide) (Nat.le_of_ble_eq_true rfl) rfl (e_X6_begin (by omega) q4) ?_
       cases q7 : f_X2_readFrom s0_3 cs_p0 with
       | none => rw [q7] at H; cases H
       | some w =>
        obtain ⟨s0_5, s3_6⟩ := w
        rw [q7] at H
        dsimp only at H
        refine pm_Wg.path (k := 3) (ds := []) (f' := (46, [some (.ref 0), some (.int a0), some (.ref 192)], [.ref 1, .ref 192], cl_h (ct_x v1 (.ref 320) v3 s0_3) g1 g2 (ct_p3 cs_p0) g4 (ct_e5 (.ref 256) (.ref 384) s5) (ct_t6 s6) g7 g8 g9 (3, ((((q.2.1 + 1) + 1) + 1) + 1), ((((q.2.2 + 11) + 6) + 6) + 6)))) tk_X8_loadArray (by omega) rfl trivial ?_
        refine pm_Wg.callV (m' := 28) (ix := 53) (rr := 102) (pl := 934) (b := 192) (As := [.ref 1]) (S := []) (by decide) rfl (pm_dec tk_X8_loadArray rfl) rfl rfl (by decide) rfl rfl (by decide) (Nat.le_of_ble_eq_true rfl) rfl (e_X2_readFrom (by omega) q7) ?_
        by_cases h8 : ((cs_i s0_5 1 1 0).1 1 6) = 0
        · rw [if_pos h8] at H
          cases q11 : f_X1_beginAnew s5 s6 with
          | none => rw [q11] at H; cases H
          | some w =>
           obtain ⟨s5_9, s6_10⟩ := w
           rw [q11] at H
           dsimp only at H
           refine pm_Wg.path (k := 14) (ds := [1]) (f' := (108, [some (.ref 0), some (.int a0), some (.ref 192)], [.ref 192, .ref 320], cl_h (ct_x v1 (.ref 320) v3 (cs_i s0_5 1 1 0)) g1 g2 (ct_p3 s3_6) g4 (ct_e5 (.ref 256) (.ref 384) s5) (ct_t6 s6) g7 g8 g9 (3, ((((q.2.1 + 1) + 1) + 1) + 1), ((((q.2.2 + 11) + 6) + 6) + 6)))) tk_X8_loadArray (by omega) rfl ⟨h8, trivial⟩ ?_
           refine pm_Wg.callV (m' := 6) (ix := 70) (rr := 127) (pl := 1071) (b := 320) (As := [.ref 192]) (S := []) (by decide) rfl (pm_dec tk_X8_loadArray rfl) rfl rfl (by decide) rfl rfl (by decide) (Nat.le_of_ble_eq_true rfl) rfl (e_X1_beginAnew (by omega) q11) ?_
           have J := Option.some.inj H
           injection J with J0a J0b
           injection J0b with J1a J1b
           injection J1b with J2a J2b
           injection J2b with J3a J3z
           injection J0a with JR
           subst JR
           subst J1a
           subst J2a
           subst J3a
           subst J3z
           refine pm_Wg.path (k := 2) (ds := []) (f' := (115, [some (.ref 0), some (.int a0), some (.ref 192)], [.int (s3_6.1 0 7)], cl_h (ct_x v1 (.ref 320) v3 (cs_i s0_5 1 1 0)) g1 g2 (ct_p3 s3_6) g4 (ct_e5 (.ref 192) (.ref 384) s5_9) (ct_t6 s6_10) g7 g8 g9 (3, ((((q.2.1 + 1) + 1) + 1) + 1), ((((q.2.2 + 11) + 6) + 6) + 6)))) tk_X8_loadArray (by omega) rfl trivial ?_
           exact pm_Wg.iret (pm_dec tk_X8_loadArray rfl) rfl rfl
        · rw [if_neg h8] at H
          have J := Option.some.inj H
          injection J with J0a J0z
          cases J0a
    · rw [if_neg h2] at H
      have J := Option.some.inj H
      injection J with J0a J0z
      cases J0a
set_option maxRecDepth 20000 in
set_option maxHeartbeats 20000000 in
theorem e_X8_loadArray_E_t0 {d : Nat} (hd : 9 ≤ d) {g1 g2 g4 g7 g8 g9 : List pm_E} {v1 v3 : Value} {q : Nat × Nat × Nat} {s0 : cs_S} {s3 : cs_S} {s5 : cs_S} {s6 : cs_S} {a0 : Int32} {z0 : cs_S} {z3 : cs_S} {z5 : cs_S} {z6 : cs_S} (H : f_X8_loadArray_E s0 s3 s5 s6 a0 = some (.inr 0, z0, z3, z5, z6)) : pm_Mt 98 d [.ref 0, .int a0] (cl_h (ct_x v1 (.ref 320) v3 s0) g1 g2 [] g4 (ct_e5 (.ref 256) (.ref 384) s5) (ct_t6 s6) g7 g8 g9 q) (.inr "java/lang/IllegalStateException") (cl_h (ct_x v1 (.ref 320) v3 z0) g1 g2 (ct_p3 z3) g4 (ct_e5 (.ref 256) (.ref 384) z5) (ct_t6 z6) g7 g8 g9 (3, ((((q.2.1 + 1) + 1) + 1) + 1) + 1, ((((q.2.2 + 11) + 6) + 6) + 6) + 6)) := by
  refine pm_Mt.of (by decide) (by decide +kernel) rfl rfl ?_
  obtain ⟨d, rfl⟩ : ∃ d', d = d' + 1 := ⟨d - 1, by omega⟩
  unfold f_X8_loadArray_E at H
  by_cases h1 : a0 < 0
  · rw [if_pos h1] at H
    have J := Option.some.inj H
    injection J with J0a J0z
    cases J0a
  · rw [if_neg h1] at H
    by_cases h2 : a0 ≤ (s0.1 1 1)
    · rw [if_pos h2] at H
      refine pm_Wg.path (k := 9) (ds := [0, 1]) (f' := (29, [some (.ref 0), some (.int a0), none], [.ref 192, .ref 192], cl_h (ct_x v1 (.ref 320) v3 s0) g1 g2 [.inr (2, pm_df 2)] g4 (ct_e5 (.ref 256) (.ref 384) s5) (ct_t6 s6) g7 g8 g9 (3, (q.2.1 + 1), (q.2.2 + 11)))) tk_X8_loadArray (by omega) rfl ⟨h2, h1, trivial⟩ ?_
      refine pm_Wg.callI (m' := 27) (ix := 49) (rr := 374) (pl := 864) (b := 192) (z := 1) (As := []) (S := [.ref 192]) (by decide) rfl (pm_dec tk_X8_loadArray rfl) rfl (by decide) rfl (by decide) rfl rfl (Nat.le_of_ble_eq_true rfl) rfl (w_X2_init_3 (by omega)) ?_
      cases q4 : f_X6_begin s0 a0 with
      | none => rw [q4] at H; cases H
      | some s0_3 =>
       rw [q4] at H
       dsimp only at H
       refine pm_Wg.path (k := 4) (ds := []) (f' := (38, [some (.ref 0), some (.int a0), some (.ref 192)], [.int a0, .ref 1], cl_h (ct_x v1 (.ref 320) v3 s0) g1 g2 (ct_p3 cs_p0) g4 (ct_e5 (.ref 256) (.ref 384) s5) (ct_t6 s6) g7 g8 g9 (3, ((((q.2.1 + 1) + 1) + 1) + 1), ((((q.2.2 + 11) + 6) + 6) + 6)))) tk_X8_loadArray (by omega) rfl trivial ?_
       refine pm_Wg.callV (m' := 82) (ix := 50) (rr := 98) (pl := 922) (b := 1) (As := [.int a0]) (S := []) (by decide) rfl (pm_dec tk_X8_loadArray rfl) rfl rfl (by decide) rfl rfl (by decide) (Nat.le_of_ble_eq_true rfl) rfl (e_X6_begin (by omega) q4) ?_
       cases q7 : f_X2_readFrom s0_3 cs_p0 with
       | none => rw [q7] at H; cases H
       | some w =>
        obtain ⟨s0_5, s3_6⟩ := w
        rw [q7] at H
        dsimp only at H
        refine pm_Wg.path (k := 3) (ds := []) (f' := (46, [some (.ref 0), some (.int a0), some (.ref 192)], [.ref 1, .ref 192], cl_h (ct_x v1 (.ref 320) v3 s0_3) g1 g2 (ct_p3 cs_p0) g4 (ct_e5 (.ref 256) (.ref 384) s5) (ct_t6 s6) g7 g8 g9 (3, ((((q.2.1 + 1) + 1) + 1) + 1), ((((q.2.2 + 11) + 6) + 6) + 6)))) tk_X8_loadArray (by omega) rfl trivial ?_
        refine pm_Wg.callV (m' := 28) (ix := 53) (rr := 102) (pl := 934) (b := 192) (As := [.ref 1]) (S := []) (by decide) rfl (pm_dec tk_X8_loadArray rfl) rfl rfl (by decide) rfl rfl (by decide) (Nat.le_of_ble_eq_true rfl) rfl (e_X2_readFrom (by omega) q7) ?_
        by_cases h8 : ((cs_i s0_5 1 1 0).1 1 6) = 0
        · rw [if_pos h8] at H
          cases q11 : f_X1_beginAnew s5 s6 with
          | none => rw [q11] at H; cases H
          | some w =>
           obtain ⟨s5_9, s6_10⟩ := w
           rw [q11] at H
           dsimp only at H
           refine pm_Wg.path (k := 14) (ds := [1]) (f' := (108, [some (.ref 0), some (.int a0), some (.ref 192)], [.ref 192, .ref 320], cl_h (ct_x v1 (.ref 320) v3 (cs_i s0_5 1 1 0)) g1 g2 (ct_p3 s3_6) g4 (ct_e5 (.ref 256) (.ref 384) s5) (ct_t6 s6) g7 g8 g9 (3, ((((q.2.1 + 1) + 1) + 1) + 1), ((((q.2.2 + 11) + 6) + 6) + 6)))) tk_X8_loadArray (by omega) rfl ⟨h8, trivial⟩ ?_
           refine pm_Wg.callV (m' := 6) (ix := 70) (rr := 127) (pl := 1071) (b := 320) (As := [.ref 192]) (S := []) (by decide) rfl (pm_dec tk_X8_loadArray rfl) rfl rfl (by decide) rfl rfl (by decide) (Nat.le_of_ble_eq_true rfl) rfl (e_X1_beginAnew (by omega) q11) ?_
           have J := Option.some.inj H
           injection J with J0a J0z
           cases J0a
        · rw [if_neg h8] at H
          have J := Option.some.inj H
          injection J with J0a J0b
          injection J0b with J1a J1b
          injection J1b with J2a J2b
          injection J2b with J3a J3z
          subst J1a
          subst J2a
          subst J3a
          subst J3z
          refine pm_Wg.path (k := 8) (ds := [0]) (f' := (67, [some (.ref 0), some (.int a0), some (.ref 192)], [], cl_h (ct_x v1 (.ref 320) v3 (cs_i s0_5 1 1 0)) g1 g2 (ct_p3 s3_6) g4 (ct_e5 (.ref 256) (.ref 384) s5) (ct_t6 s6) g7 g8 g9 (3, ((((q.2.1 + 1) + 1) + 1) + 1), ((((q.2.2 + 11) + 6) + 6) + 6)))) tk_X8_loadArray (by omega) rfl ⟨h8, trivial⟩ ?_
          exact pm_Wg.throw (ik := 31) (ic := 35) (ix := 7) (rx := Bundle.six) (k := 11) rfl rfl (by omega) px_ISE rfl rfl (by decide +kernel) (by decide +kernel) (by decide +kernel) (by decide +kernel) (by decide +kernel) (Nat.le_of_ble_eq_true rfl)
    · rw [if_neg h2] at H
      have J := Option.some.inj H
      injection J with J0a J0z
      cases J0a
set_option maxRecDepth 20000 in
set_option maxHeartbeats 20000000 in
theorem e_X8_loadArray_E_t1 {d : Nat} (hd : 9 ≤ d) {g1 g2 g4 g7 g8 g9 : List pm_E} {v1 v3 : Value} {q : Nat × Nat × Nat} {s0 : cs_S} {s3 : cs_S} {s5 : cs_S} {s6 : cs_S} {a0 : Int32} {z0 : cs_S} {z3 : cs_S} {z5 : cs_S} {z6 : cs_S} (H : f_X8_loadArray_E s0 s3 s5 s6 a0 = some (.inr 1, z0, z3, z5, z6)) : pm_Mt 98 d [.ref 0, .int a0] (cl_h (ct_x v1 (.ref 320) v3 s0) g1 g2 [] g4 (ct_e5 (.ref 256) (.ref 384) s5) (ct_t6 s6) g7 g8 g9 q) (.inr "java/lang/IllegalArgumentException") (cl_h (ct_x v1 (.ref 320) v3 z0) g1 g2 [] g4 (ct_e5 (.ref 256) (.ref 384) z5) (ct_t6 z6) g7 g8 g9 (q.1, q.2.1 + 1, q.2.2 + 6)) := by
  refine pm_Mt.of (by decide) (by decide +kernel) rfl rfl ?_
  obtain ⟨d, rfl⟩ : ∃ d', d = d' + 1 := ⟨d - 1, by omega⟩
  unfold f_X8_loadArray_E at H
  by_cases h1 : a0 < 0
  · rw [if_pos h1] at H
    have J := Option.some.inj H
    injection J with J0a J0b
    injection J0b with J1a J1b
    injection J1b with J2a J2b
    injection J2b with J3a J3z
    subst J1a
    subst J2a
    subst J3a
    subst J3z
    refine pm_Wg.path (k := 2) (ds := [1]) (f' := (15, [some (.ref 0), some (.int a0), none], [], cl_h (ct_x v1 (.ref 320) v3 s0) g1 g2 [] g4 (ct_e5 (.ref 256) (.ref 384) s5) (ct_t6 s6) g7 g8 g9 q)) tk_X8_loadArray (by omega) rfl ⟨h1, trivial⟩ ?_
    exact pm_Wg.throw (ik := 42) (ic := 46) (ix := 7) (rx := Bundle.six) (k := 1) rfl rfl (by omega) px_IAE rfl rfl (by decide +kernel) (by decide +kernel) (by decide +kernel) (by decide +kernel) (by decide +kernel) (Nat.le_of_ble_eq_true rfl)
  · rw [if_neg h1] at H
    by_cases h2 : a0 ≤ (s0.1 1 1)
    · rw [if_pos h2] at H
      refine pm_Wg.path (k := 9) (ds := [0, 1]) (f' := (29, [some (.ref 0), some (.int a0), none], [.ref 192, .ref 192], cl_h (ct_x v1 (.ref 320) v3 s0) g1 g2 [.inr (2, pm_df 2)] g4 (ct_e5 (.ref 256) (.ref 384) s5) (ct_t6 s6) g7 g8 g9 (3, (q.2.1 + 1), (q.2.2 + 11)))) tk_X8_loadArray (by omega) rfl ⟨h2, h1, trivial⟩ ?_
      refine pm_Wg.callI (m' := 27) (ix := 49) (rr := 374) (pl := 864) (b := 192) (z := 1) (As := []) (S := [.ref 192]) (by decide) rfl (pm_dec tk_X8_loadArray rfl) rfl (by decide) rfl (by decide) rfl rfl (Nat.le_of_ble_eq_true rfl) rfl (w_X2_init_3 (by omega)) ?_
      cases q4 : f_X6_begin s0 a0 with
      | none => rw [q4] at H; cases H
      | some s0_3 =>
       rw [q4] at H
       dsimp only at H
       refine pm_Wg.path (k := 4) (ds := []) (f' := (38, [some (.ref 0), some (.int a0), some (.ref 192)], [.int a0, .ref 1], cl_h (ct_x v1 (.ref 320) v3 s0) g1 g2 (ct_p3 cs_p0) g4 (ct_e5 (.ref 256) (.ref 384) s5) (ct_t6 s6) g7 g8 g9 (3, ((((q.2.1 + 1) + 1) + 1) + 1), ((((q.2.2 + 11) + 6) + 6) + 6)))) tk_X8_loadArray (by omega) rfl trivial ?_
       refine pm_Wg.callV (m' := 82) (ix := 50) (rr := 98) (pl := 922) (b := 1) (As := [.int a0]) (S := []) (by decide) rfl (pm_dec tk_X8_loadArray rfl) rfl rfl (by decide) rfl rfl (by decide) (Nat.le_of_ble_eq_true rfl) rfl (e_X6_begin (by omega) q4) ?_
       cases q7 : f_X2_readFrom s0_3 cs_p0 with
       | none => rw [q7] at H; cases H
       | some w =>
        obtain ⟨s0_5, s3_6⟩ := w
        rw [q7] at H
        dsimp only at H
        refine pm_Wg.path (k := 3) (ds := []) (f' := (46, [some (.ref 0), some (.int a0), some (.ref 192)], [.ref 1, .ref 192], cl_h (ct_x v1 (.ref 320) v3 s0_3) g1 g2 (ct_p3 cs_p0) g4 (ct_e5 (.ref 256) (.ref 384) s5) (ct_t6 s6) g7 g8 g9 (3, ((((q.2.1 + 1) + 1) + 1) + 1), ((((q.2.2 + 11) + 6) + 6) + 6)))) tk_X8_loadArray (by omega) rfl trivial ?_
        refine pm_Wg.callV (m' := 28) (ix := 53) (rr := 102) (pl := 934) (b := 192) (As := [.ref 1]) (S := []) (by decide) rfl (pm_dec tk_X8_loadArray rfl) rfl rfl (by decide) rfl rfl (by decide) (Nat.le_of_ble_eq_true rfl) rfl (e_X2_readFrom (by omega) q7) ?_
        by_cases h8 : ((cs_i s0_5 1 1 0).1 1 6) = 0
        · rw [if_pos h8] at H
          cases q11 : f_X1_beginAnew s5 s6 with
          | none => rw [q11] at H; cases H
          | some w =>
           obtain ⟨s5_9, s6_10⟩ := w
           rw [q11] at H
           dsimp only at H
           refine pm_Wg.path (k := 14) (ds := [1]) (f' := (108, [some (.ref 0), some (.int a0), some (.ref 192)], [.ref 192, .ref 320], cl_h (ct_x v1 (.ref 320) v3 (cs_i s0_5 1 1 0)) g1 g2 (ct_p3 s3_6) g4 (ct_e5 (.ref 256) (.ref 384) s5) (ct_t6 s6) g7 g8 g9 (3, ((((q.2.1 + 1) + 1) + 1) + 1), ((((q.2.2 + 11) + 6) + 6) + 6)))) tk_X8_loadArray (by omega) rfl ⟨h8, trivial⟩ ?_
           refine pm_Wg.callV (m' := 6) (ix := 70) (rr := 127) (pl := 1071) (b := 320) (As := [.ref 192]) (S := []) (by decide) rfl (pm_dec tk_X8_loadArray rfl) rfl rfl (by decide) rfl rfl (by decide) (Nat.le_of_ble_eq_true rfl) rfl (e_X1_beginAnew (by omega) q11) ?_
           have J := Option.some.inj H
           injection J with J0a J0z
           cases J0a
        · rw [if_neg h8] at H
          have J := Option.some.inj H
          injection J with J0a J0z
          cases J0a
    · rw [if_neg h2] at H
      have J := Option.some.inj H
      injection J with J0a J0b
      injection J0b with J1a J1b
      injection J1b with J2a J2b
      injection J2b with J3a J3z
      subst J1a
      subst J2a
      subst J3a
      subst J3z
      refine pm_Wg.path (k := 7) (ds := [0, 0]) (f' := (15, [some (.ref 0), some (.int a0), none], [], cl_h (ct_x v1 (.ref 320) v3 s0) g1 g2 [] g4 (ct_e5 (.ref 256) (.ref 384) s5) (ct_t6 s6) g7 g8 g9 q)) tk_X8_loadArray (by omega) rfl ⟨h2, h1, trivial⟩ ?_
      exact pm_Wg.throw (ik := 42) (ic := 46) (ix := 7) (rx := Bundle.six) (k := 1) rfl rfl (by omega) px_IAE rfl rfl (by decide +kernel) (by decide +kernel) (by decide +kernel) (by decide +kernel) (by decide +kernel) (Nat.le_of_ble_eq_true rfl)

def tb_X8_loadTrace : List pm_I := [(0, .iload_n 1, 0, 0), (1, .ifCond .lt 14, 15, 0), (4, .iload_n 1, 0, 0), (5, .aload_n 0, 0, 0), (6, .getfield 10, 11, 0), (9, .getfield 27, 2, 0), (12, .if_icmp .le 13, 25, 0), (25, .aload_n 0, 0, 0), (26, .getfield 20, 13, 0), (29, .ifnonnull 21, 50, 0), (32, .aload_n 0, 0, 0), (33, .getfield 10, 11, 0), (36, .iconst 0, 2, 0), (37, .putfield 27, 2, 0), (50, .aload_n 0, 0, 0), (51, .getfield 16, 12, 0), (54, .ifnonnull 14, 68, 0), (57, .aload_n 0, 0, 0), (58, .new 64, 8, 10), (61, .dup, 0, 0), (62, .invokespecial 66, 375, 0), (65, .putfield 16, 12, 0), (68, .aload_n 0, 0, 0), (69, .getfield 10, 11, 0), (72, .iload_n 1, 0, 0), (73, .invokevirtual 50, 98, 0), (76, .aload_n 0, 0, 0), (77, .getfield 16, 12, 0), (80, .aload_n 0, 0, 0), (81, .getfield 10, 11, 0), (84, .aload_n 0, 0, 0), (85, .getfield 20, 13, 0), (88, .getfield 79, 98, 0), (91, .aload_n 0, 0, 0), (92, .getfield 20, 13, 0), (95, .getfield 83, 106, 0), (98, .invokevirtual 86, 139, 0), (101, .aload_n 0, 0, 0), (102, .getfield 10, 11, 0), (105, .iconst 0, 2, 0), (106, .putfield 27, 2, 0), (109, .aload_n 0, 0, 0), (110, .getfield 10, 11, 0), (113, .getfield 57, 8, 0), (116, .ifCond .eq 13, 129, 0), (129, .aload_n 0, 0, 0), (130, .getfield 20, 13, 0), (133, .getfield 89, 100, 0), (136, .astore_n 2, 0, 0), (137, .aload_n 0, 0, 0), (138, .getfield 20, 13, 0), (141, .aload_n 0, 0, 0), (142, .getfield 16, 12, 0), (145, .invokevirtual 92, 148, 0), (148, .aload_n 0, 0, 0), (149, .aload_n 2, 0, 0), (150, .putfield 16, 12, 0), (153, .aload_n 0, 0, 0), (154, .getfield 20, 13, 0), (157, .getfield 89, 100, 0), (160, .getfield 96, 148, 0), (163, .ireturn, 0, 0)]
theorem tk_X8_loadTrace : ∀ e ∈ tb_X8_loadTrace, pm_ck 99 e = true := List.all_eq_true.mp (by decide +kernel)

def f_X8_loadTrace_N (s0 : cs_S) (a0 : Int32) : Option ((Int32 ⊕ Nat) × cs_S) :=
  (if a0 < 0 then
   some (.inr 1, s0)
  else
   (if a0 ≤ (s0.1 1 1) then
    some (.inr 0, (cs_i s0 1 1 0))
   else
    some (.inr 1, s0)))
set_option maxRecDepth 20000 in
set_option maxHeartbeats 20000000 in
theorem e_X8_loadTrace_N_t0 {d : Nat} (hd : 9 ≤ d) {g1 g2 g3 g4 g5 g6 g7 g8 g9 : List pm_E} {v1 v3 : Value} {q : Nat × Nat × Nat} {s0 : cs_S} {a0 : Int32} {z0 : cs_S} (H : f_X8_loadTrace_N s0 a0 = some (.inr 0, z0)) : pm_Mt 99 d [.ref 0, .int a0] (cl_h (ct_x v1 (.null) v3 s0) g1 g2 g3 g4 g5 g6 g7 g8 g9 q) (.inr "java/lang/IllegalStateException") (cl_h (ct_x v1 (.null) v3 z0) g1 g2 g3 g4 g5 g6 g7 g8 g9 (q.1, q.2.1 + 1, q.2.2 + 6)) := by
  refine pm_Mt.of (by decide) (by decide +kernel) rfl rfl ?_
  obtain ⟨d, rfl⟩ : ∃ d', d = d' + 1 := ⟨d - 1, by omega⟩
  unfold f_X8_loadTrace_N at H
  by_cases h1 : a0 < 0
  · rw [if_pos h1] at H
    have J := Option.some.inj H
    injection J with J0a J0z
    cases J0a
  · rw [if_neg h1] at H
    by_cases h2 : a0 ≤ (s0.1 1 1)
    · rw [if_pos h2] at H
      have J := Option.some.inj H
      injection J with J0a J0z
      subst J0z
      refine pm_Wg.path (k := 14) (ds := [0, 1]) (f' := (40, [some (.ref 0), some (.int a0), none], [], cl_h (ct_x v1 (.null) v3 (cs_i s0 1 1 0)) g1 g2 g3 g4 g5 g6 g7 g8 g9 q)) tk_X8_loadTrace (by omega) rfl ⟨h2, h1, trivial⟩ ?_
      exact pm_Wg.throw (ik := 31) (ic := 35) (ix := 7) (rx := Bundle.six) (k := 12) rfl rfl (by omega) px_ISE rfl rfl (by decide +kernel) (by decide +kernel) (by decide +kernel) (by decide +kernel) (by decide +kernel) (Nat.le_of_ble_eq_true rfl)
    · rw [if_neg h2] at H
      have J := Option.some.inj H
      injection J with J0a J0z
      cases J0a
set_option maxRecDepth 20000 in
set_option maxHeartbeats 20000000 in
theorem e_X8_loadTrace_N_t1 {d : Nat} (hd : 9 ≤ d) {g1 g2 g3 g4 g5 g6 g7 g8 g9 : List pm_E} {v1 v3 : Value} {q : Nat × Nat × Nat} {s0 : cs_S} {a0 : Int32} {z0 : cs_S} (H : f_X8_loadTrace_N s0 a0 = some (.inr 1, z0)) : pm_Mt 99 d [.ref 0, .int a0] (cl_h (ct_x v1 (.null) v3 s0) g1 g2 g3 g4 g5 g6 g7 g8 g9 q) (.inr "java/lang/IllegalArgumentException") (cl_h (ct_x v1 (.null) v3 z0) g1 g2 g3 g4 g5 g6 g7 g8 g9 (q.1, q.2.1 + 1, q.2.2 + 6)) := by
  refine pm_Mt.of (by decide) (by decide +kernel) rfl rfl ?_
  obtain ⟨d, rfl⟩ : ∃ d', d = d' + 1 := ⟨d - 1, by omega⟩
  unfold f_X8_loadTrace_N at H
  by_cases h1 : a0 < 0
  · rw [if_pos h1] at H
    have J := Option.some.inj H
    injection J with J0a J0z
    subst J0z
    refine pm_Wg.path (k := 2) (ds := [1]) (f' := (15, [some (.ref 0), some (.int a0), none], [], cl_h (ct_x v1 (.null) v3 s0) g1 g2 g3 g4 g5 g6 g7 g8 g9 q)) tk_X8_loadTrace (by omega) rfl ⟨h1, trivial⟩ ?_
    exact pm_Wg.throw (ik := 42) (ic := 46) (ix := 7) (rx := Bundle.six) (k := 1) rfl rfl (by omega) px_IAE rfl rfl (by decide +kernel) (by decide +kernel) (by decide +kernel) (by decide +kernel) (by decide +kernel) (Nat.le_of_ble_eq_true rfl)
  · rw [if_neg h1] at H
    by_cases h2 : a0 ≤ (s0.1 1 1)
    · rw [if_pos h2] at H
      have J := Option.some.inj H
      injection J with J0a J0z
      cases J0a
    · rw [if_neg h2] at H
      have J := Option.some.inj H
      injection J with J0a J0z
      subst J0z
      refine pm_Wg.path (k := 7) (ds := [0, 0]) (f' := (15, [some (.ref 0), some (.int a0), none], [], cl_h (ct_x v1 (.null) v3 s0) g1 g2 g3 g4 g5 g6 g7 g8 g9 q)) tk_X8_loadTrace (by omega) rfl ⟨h2, h1, trivial⟩ ?_
      exact pm_Wg.throw (ik := 42) (ic := 46) (ix := 7) (rx := Bundle.six) (k := 1) rfl rfl (by omega) px_IAE rfl rfl (by decide +kernel) (by decide +kernel) (by decide +kernel) (by decide +kernel) (by decide +kernel) (Nat.le_of_ble_eq_true rfl)

def f_X8_loadTrace_E (s0 : cs_S) (s4 : cs_S) (s5 : cs_S) (s8 : cs_S) (a0 : Int32) : Option ((Int32 ⊕ Nat) × cs_S × cs_S × cs_S) :=
  (if a0 < 0 then
   some (.inr 1, s0, s5, cs_z)
  else
   (if a0 ≤ (s0.1 1 1) then
    (match f_X6_begin s0 a0 with
    | none => none
    | some s0_3 =>
     (match f_X7_readFrom s0_3 s4 cs_z (s5.1 0 4) with
     | none => none
     | some (s0_5, s8_6) =>
      (if ((cs_i s0_5 1 1 0).1 1 6) = 0 then
       (match f_X1_follow s5 with
       | none => none
       | some s5_9 =>
        some (.inl (s8_6.1 0 0), (cs_i s0_5 1 1 0), s5_9, s8_6))
      else
       some (.inr 0, (cs_i s0_5 1 1 0), s5, s8_6))))
   else
    some (.inr 1, s0, s5, cs_z)))
set_option maxRecDepth 20000 in
set_option maxHeartbeats 20000000 in
theorem e_X8_loadTrace_E {d : Nat} (hd : 9 ≤ d) {g1 g2 g3 g6 g7 g9 : List pm_E} {v3 : Value} {q : Nat × Nat × Nat} {s0 : cs_S} {s4 : cs_S} {s5 : cs_S} {s8 : cs_S} {a0 : Int32} {r : Int32} {z0 : cs_S} {z5 : cs_S} {z8 : cs_S} (H : f_X8_loadTrace_E s0 s4 s5 s8 a0 = some (.inl r, z0, z5, z8)) : pm_Mt 99 d [.ref 0, .int a0] (cl_h (ct_x (.null) (.ref 320) v3 s0) g1 g2 g3 (ct_p4 s4) (ct_e5 (.ref 256) (.ref 384) s5) g6 g7 [] g9 q) (.inl (some (.int r))) (cl_h (ct_x (.ref 384) (.ref 320) v3 z0) g1 g2 g3 (ct_p4 s4) (ct_e5 (.ref 256) (.ref 512) z5) g6 g7 (ct_t8 z8) g9 (8, ((((((q.2.1 + 1) + 1) + 1) + 1) + 1) + 1), ((((((q.2.2 + 6) + 100) + 100) + 100) + 100) + 100))) := by
  refine pm_Mt.of (by decide) (by decide +kernel) rfl rfl ?_
  obtain ⟨d, rfl⟩ : ∃ d', d = d' + 1 := ⟨d - 1, by omega⟩
  unfold f_X8_loadTrace_E at H
  by_cases h1 : a0 < 0
  · rw [if_pos h1] at H
    have J := Option.some.inj H
    injection J with J0a J0z
    cases J0a
  · rw [if_neg h1] at H
    by_cases h2 : a0 ≤ (s0.1 1 1)
    · rw [if_pos h2] at H
      refine pm_Wg.path (k := 16) (ds := [0, 1]) (f' := (62, [some (.ref 0), some (.int a0), none], [.ref 512, .ref 512, .ref 0], cl_h (ct_x (.null) (.ref 320) v3 s0) g1 g2 g3 (ct_p4 s4) (ct_e5 (.ref 256) (.ref 384) s5) g6 g7 [.inr (7, pm_df 7)] g9 (8, (q.2.1 + 1), (q.2.2 + 6)))) tk_X8_loadTrace (by omega) rfl ⟨h2, h1, trivial⟩ ?_
      refine pm_Wg.callI (m' := 93) (ix := 66) (rr := 375) (pl := 1040) (b := 512) (z := 1) (As := []) (S := [.ref 512, .ref 0]) (by decide) rfl (pm_dec tk_X8_loadTrace rfl) rfl (by decide) rfl (by decide) rfl rfl (Nat.le_of_ble_eq_true rfl) rfl (w_X7_init_8 (by omega)) ?_
      cases q4 : f_X6_begin s0 a0 with
      | none => rw [q4] at H; cases H
      | some s0_3 =>
       rw [q4] at H
       dsimp only at H
       refine pm_Wg.path (k := 4) (ds := []) (f' := (73, [some (.ref 0), some (.int a0), none], [.int a0, .ref 1], cl_h (ct_x (.ref 512) (.ref 320) v3 s0) g1 g2 g3 (ct_p4 s4) (ct_e5 (.ref 256) (.ref 384) s5) g6 g7 (ct_t8 cs_z) g9 (8, ((((((q.2.1 + 1) + 1) + 1) + 1) + 1) + 1), ((((((q.2.2 + 6) + 100) + 100) + 100) + 100) + 100)))) tk_X8_loadTrace (by omega) rfl trivial ?_
       refine pm_Wg.callV (m' := 82) (ix := 50) (rr := 98) (pl := 922) (b := 1) (As := [.int a0]) (S := []) (by decide) rfl (pm_dec tk_X8_loadTrace rfl) rfl rfl (by decide) rfl rfl (by decide) (Nat.le_of_ble_eq_true rfl) rfl (e_X6_begin (by omega) q4) ?_
       cases q7 : f_X7_readFrom s0_3 s4 cs_z (s5.1 0 4) with
       | none => rw [q7] at H; cases H
       | some w =>
        obtain ⟨s0_5, s8_6⟩ := w
        rw [q7] at H
        dsimp only at H
        refine pm_Wg.path (k := 10) (ds := []) (f' := (98, [some (.ref 0), some (.int a0), none], [.int (s5.1 0 4), .ref 256, .ref 1, .ref 512], cl_h (ct_x (.ref 512) (.ref 320) v3 s0_3) g1 g2 g3 (ct_p4 s4) (ct_e5 (.ref 256) (.ref 384) s5) g6 g7 (ct_t8 cs_z) g9 (8, ((((((q.2.1 + 1) + 1) + 1) + 1) + 1) + 1), ((((((q.2.2 + 6) + 100) + 100) + 100) + 100) + 100)))) tk_X8_loadTrace (by omega) rfl trivial ?_
        refine pm_Wg.callV (m' := 94) (ix := 86) (rr := 139) (pl := 1108) (b := 512) (As := [.ref 1, .ref 256, .int (s5.1 0 4)]) (S := []) (by decide) rfl (pm_dec tk_X8_loadTrace rfl) rfl rfl (by decide) rfl rfl (by decide) (Nat.le_of_ble_eq_true rfl) rfl (e_X7_readFrom (by omega) q7) ?_
        by_cases h8 : ((cs_i s0_5 1 1 0).1 1 6) = 0
        · rw [if_pos h8] at H
          cases q10 : f_X1_follow s5 with
          | none => rw [q10] at H; cases H
          | some s5_9 =>
           rw [q10] at H
           dsimp only at H
           refine pm_Wg.path (k := 16) (ds := [1]) (f' := (145, [some (.ref 0), some (.int a0), some (.ref 384)], [.ref 512, .ref 320], cl_h (ct_x (.ref 512) (.ref 320) v3 (cs_i s0_5 1 1 0)) g1 g2 g3 (ct_p4 s4) (ct_e5 (.ref 256) (.ref 384) s5) g6 g7 (ct_t8 s8_6) g9 (8, ((((((q.2.1 + 1) + 1) + 1) + 1) + 1) + 1), ((((((q.2.2 + 6) + 100) + 100) + 100) + 100) + 100)))) tk_X8_loadTrace (by omega) rfl ⟨h8, trivial⟩ ?_
           refine pm_Wg.callV (m' := 8) (ix := 92) (rr := 148) (pl := 1131) (b := 320) (As := [.ref 512]) (S := []) (by decide) rfl (pm_dec tk_X8_loadTrace rfl) rfl rfl (by decide) rfl rfl (by decide) (Nat.le_of_ble_eq_true rfl) rfl (e_X1_follow (by omega) q10) ?_
           have J := Option.some.inj H
           injection J with J0a J0b
           injection J0b with J1a J1b
           injection J1b with J2a J2z
           injection J0a with JR
           subst JR
           subst J1a
           subst J2a
           subst J2z
           refine pm_Wg.path (k := 7) (ds := []) (f' := (163, [some (.ref 0), some (.int a0), some (.ref 384)], [.int (s8_6.1 0 0)], cl_h (ct_x (.ref 384) (.ref 320) v3 (cs_i s0_5 1 1 0)) g1 g2 g3 (ct_p4 s4) (ct_e5 (.ref 256) (.ref 512) s5_9) g6 g7 (ct_t8 s8_6) g9 (8, ((((((q.2.1 + 1) + 1) + 1) + 1) + 1) + 1), ((((((q.2.2 + 6) + 100) + 100) + 100) + 100) + 100)))) tk_X8_loadTrace (by omega) rfl trivial ?_
           exact pm_Wg.iret (pm_dec tk_X8_loadTrace rfl) rfl rfl
        · rw [if_neg h8] at H
          have J := Option.some.inj H
          injection J with J0a J0z
          cases J0a
    · rw [if_neg h2] at H
      have J := Option.some.inj H
      injection J with J0a J0z
      cases J0a
set_option maxRecDepth 20000 in
set_option maxHeartbeats 20000000 in
theorem e_X8_loadTrace_E_t0 {d : Nat} (hd : 9 ≤ d) {g1 g2 g3 g6 g7 g9 : List pm_E} {v3 : Value} {q : Nat × Nat × Nat} {s0 : cs_S} {s4 : cs_S} {s5 : cs_S} {s8 : cs_S} {a0 : Int32} {z0 : cs_S} {z5 : cs_S} {z8 : cs_S} (H : f_X8_loadTrace_E s0 s4 s5 s8 a0 = some (.inr 0, z0, z5, z8)) : pm_Mt 99 d [.ref 0, .int a0] (cl_h (ct_x (.null) (.ref 320) v3 s0) g1 g2 g3 (ct_p4 s4) (ct_e5 (.ref 256) (.ref 384) s5) g6 g7 [] g9 q) (.inr "java/lang/IllegalStateException") (cl_h (ct_x (.ref 512) (.ref 320) v3 z0) g1 g2 g3 (ct_p4 s4) (ct_e5 (.ref 256) (.ref 384) z5) g6 g7 (ct_t8 z8) g9 (8, ((((((q.2.1 + 1) + 1) + 1) + 1) + 1) + 1) + 1, ((((((q.2.2 + 6) + 100) + 100) + 100) + 100) + 100) + 6)) := by
  refine pm_Mt.of (by decide) (by decide +kernel) rfl rfl ?_
  obtain ⟨d, rfl⟩ : ∃ d', d = d' + 1 := ⟨d - 1, by omega⟩
  unfold f_X8_loadTrace_E at H
  by_cases h1 : a0 < 0
  · rw [if_pos h1] at H
    have J := Option.some.inj H
    injection J with J0a J0z
    cases J0a
  · rw [if_neg h1] at H
    by_cases h2 : a0 ≤ (s0.1 1 1)
    · rw [if_pos h2] at H
      refine pm_Wg.path (k := 16) (ds := [0, 1]) (f' := (62, [some (.ref 0), some (.int a0), none], [.ref 512, .ref 512, .ref 0], cl_h (ct_x (.null) (.ref 320) v3 s0) g1 g2 g3 (ct_p4 s4) (ct_e5 (.ref 256) (.ref 384) s5) g6 g7 [.inr (7, pm_df 7)] g9 (8, (q.2.1 + 1), (q.2.2 + 6)))) tk_X8_loadTrace (by omega) rfl ⟨h2, h1, trivial⟩ ?_
      refine pm_Wg.callI (m' := 93) (ix := 66) (rr := 375) (pl := 1040) (b := 512) (z := 1) (As := []) (S := [.ref 512, .ref 0]) (by decide) rfl (pm_dec tk_X8_loadTrace rfl) rfl (by decide) rfl (by decide) rfl rfl (Nat.le_of_ble_eq_true rfl) rfl (w_X7_init_8 (by omega)) ?_
      cases q4 : f_X6_begin s0 a0 with
      | none => rw [q4] at H; cases H
      | some s0_3 =>
       rw [q4] at H
       dsimp only at H
       refine pm_Wg.path (k := 4) (ds := []) (f' := (73, [some (.ref 0), some (.int a0), none], [.int a0, .ref 1], cl_h (ct_x (.ref 512) (.ref 320) v3 s0) g1 g2 g3 (ct_p4 s4) (ct_e5 (.ref 256) (.ref 384) s5) g6 g7 (ct_t8 cs_z) g9 (8, ((((((q.2.1 + 1) + 1) + 1) + 1) + 1) + 1), ((((((q.2.2 + 6) + 100) + 100) + 100) + 100) + 100)))) tk_X8_loadTrace (by omega) rfl trivial ?_
       refine pm_Wg.callV (m' := 82) (ix := 50) (rr := 98) (pl := 922) (b := 1) (As := [.int a0]) (S := []) (by decide) rfl (pm_dec tk_X8_loadTrace rfl) rfl rfl (by decide) rfl rfl (by decide) (Nat.le_of_ble_eq_true rfl) rfl (e_X6_begin (by omega) q4) ?_
       cases q7 : f_X7_readFrom s0_3 s4 cs_z (s5.1 0 4) with
       | none => rw [q7] at H; cases H
       | some w =>
        obtain ⟨s0_5, s8_6⟩ := w
        rw [q7] at H
        dsimp only at H
        refine pm_Wg.path (k := 10) (ds := []) (f' := (98, [some (.ref 0), some (.int a0), none], [.int (s5.1 0 4), .ref 256, .ref 1, .ref 512], cl_h (ct_x (.ref 512) (.ref 320) v3 s0_3) g1 g2 g3 (ct_p4 s4) (ct_e5 (.ref 256) (.ref 384) s5) g6 g7 (ct_t8 cs_z) g9 (8, ((((((q.2.1 + 1) + 1) + 1) + 1) + 1) + 1), ((((((q.2.2 + 6) + 100) + 100) + 100) + 100) + 100)))) tk_X8_loadTrace (by omega) rfl trivial ?_
        refine pm_Wg.callV (m' := 94) (ix := 86) (rr := 139) (pl := 1108) (b := 512) (As := [.ref 1, .ref 256, .int (s5.1 0 4)]) (S := []) (by decide) rfl (pm_dec tk_X8_loadTrace rfl) rfl rfl (by decide) rfl rfl (by decide) (Nat.le_of_ble_eq_true rfl) rfl (e_X7_readFrom (by omega) q7) ?_
        by_cases h8 : ((cs_i s0_5 1 1 0).1 1 6) = 0
        · rw [if_pos h8] at H
          cases q10 : f_X1_follow s5 with
          | none => rw [q10] at H; cases H
          | some s5_9 =>
           rw [q10] at H
           dsimp only at H
           refine pm_Wg.path (k := 16) (ds := [1]) (f' := (145, [some (.ref 0), some (.int a0), some (.ref 384)], [.ref 512, .ref 320], cl_h (ct_x (.ref 512) (.ref 320) v3 (cs_i s0_5 1 1 0)) g1 g2 g3 (ct_p4 s4) (ct_e5 (.ref 256) (.ref 384) s5) g6 g7 (ct_t8 s8_6) g9 (8, ((((((q.2.1 + 1) + 1) + 1) + 1) + 1) + 1), ((((((q.2.2 + 6) + 100) + 100) + 100) + 100) + 100)))) tk_X8_loadTrace (by omega) rfl ⟨h8, trivial⟩ ?_
           refine pm_Wg.callV (m' := 8) (ix := 92) (rr := 148) (pl := 1131) (b := 320) (As := [.ref 512]) (S := []) (by decide) rfl (pm_dec tk_X8_loadTrace rfl) rfl rfl (by decide) rfl rfl (by decide) (Nat.le_of_ble_eq_true rfl) rfl (e_X1_follow (by omega) q10) ?_
           have J := Option.some.inj H
           injection J with J0a J0z
           cases J0a
        · rw [if_neg h8] at H
          have J := Option.some.inj H
          injection J with J0a J0b
          injection J0b with J1a J1b
          injection J1b with J2a J2z
          subst J1a
          subst J2a
          subst J2z
          refine pm_Wg.path (k := 8) (ds := [0]) (f' := (119, [some (.ref 0), some (.int a0), none], [], cl_h (ct_x (.ref 512) (.ref 320) v3 (cs_i s0_5 1 1 0)) g1 g2 g3 (ct_p4 s4) (ct_e5 (.ref 256) (.ref 384) s5) g6 g7 (ct_t8 s8_6) g9 (8, ((((((q.2.1 + 1) + 1) + 1) + 1) + 1) + 1), ((((((q.2.2 + 6) + 100) + 100) + 100) + 100) + 100)))) tk_X8_loadTrace (by omega) rfl ⟨h8, trivial⟩ ?_
          exact pm_Wg.throw (ik := 31) (ic := 35) (ix := 7) (rx := Bundle.six) (k := 11) rfl rfl (by omega) px_ISE rfl rfl (by decide +kernel) (by decide +kernel) (by decide +kernel) (by decide +kernel) (by decide +kernel) (Nat.le_of_ble_eq_true rfl)
    · rw [if_neg h2] at H
      have J := Option.some.inj H
      injection J with J0a J0z
      cases J0a
set_option maxRecDepth 20000 in
set_option maxHeartbeats 20000000 in
theorem e_X8_loadTrace_E_t1 {d : Nat} (hd : 9 ≤ d) {g1 g2 g3 g6 g7 g9 : List pm_E} {v3 : Value} {q : Nat × Nat × Nat} {s0 : cs_S} {s4 : cs_S} {s5 : cs_S} {s8 : cs_S} {a0 : Int32} {z0 : cs_S} {z5 : cs_S} {z8 : cs_S} (H : f_X8_loadTrace_E s0 s4 s5 s8 a0 = some (.inr 1, z0, z5, z8)) : pm_Mt 99 d [.ref 0, .int a0] (cl_h (ct_x (.null) (.ref 320) v3 s0) g1 g2 g3 (ct_p4 s4) (ct_e5 (.ref 256) (.ref 384) s5) g6 g7 [] g9 q) (.inr "java/lang/IllegalArgumentException") (cl_h (ct_x (.null) (.ref 320) v3 z0) g1 g2 g3 (ct_p4 s4) (ct_e5 (.ref 256) (.ref 384) z5) g6 g7 [] g9 (q.1, q.2.1 + 1, q.2.2 + 6)) := by
  refine pm_Mt.of (by decide) (by decide +kernel) rfl rfl ?_
  obtain ⟨d, rfl⟩ : ∃ d', d = d' + 1 := ⟨d - 1, by omega⟩
  unfold f_X8_loadTrace_E at H
  by_cases h1 : a0 < 0
  · rw [if_pos h1] at H
    have J := Option.some.inj H
    injection J with J0a J0b
    injection J0b with J1a J1b
    injection J1b with J2a J2z
    subst J1a
    subst J2a
    subst J2z
    refine pm_Wg.path (k := 2) (ds := [1]) (f' := (15, [some (.ref 0), some (.int a0), none], [], cl_h (ct_x (.null) (.ref 320) v3 s0) g1 g2 g3 (ct_p4 s4) (ct_e5 (.ref 256) (.ref 384) s5) g6 g7 [] g9 q)) tk_X8_loadTrace (by omega) rfl ⟨h1, trivial⟩ ?_
    exact pm_Wg.throw (ik := 42) (ic := 46) (ix := 7) (rx := Bundle.six) (k := 1) rfl rfl (by omega) px_IAE rfl rfl (by decide +kernel) (by decide +kernel) (by decide +kernel) (by decide +kernel) (by decide +kernel) (Nat.le_of_ble_eq_true rfl)
  · rw [if_neg h1] at H
    by_cases h2 : a0 ≤ (s0.1 1 1)
    · rw [if_pos h2] at H
      refine pm_Wg.path (k := 16) (ds := [0, 1]) (f' := (62, [some (.ref 0), some (.int a0), none], [.ref 512, .ref 512, .ref 0], cl_h (ct_x (.null) (.ref 320) v3 s0) g1 g2 g3 (ct_p4 s4) (ct_e5 (.ref 256) (.ref 384) s5) g6 g7 [.inr (7, pm_df 7)] g9 (8, (q.2.1 + 1), (q.2.2 + 6)))) tk_X8_loadTrace (by omega) rfl ⟨h2, h1, trivial⟩ ?_
      refine pm_Wg.callI (m' := 93) (ix := 66) (rr := 375) (pl := 1040) (b := 512) (z := 1) (As := []) (S := [.ref 512, .ref 0]) (by decide) rfl (pm_dec tk_X8_loadTrace rfl) rfl (by decide) rfl (by decide) rfl rfl (Nat.le_of_ble_eq_true rfl) rfl (w_X7_init_8 (by omega)) ?_
      cases q4 : f_X6_begin s0 a0 with
      | none => rw [q4] at H; cases H
      | some s0_3 =>
       rw [q4] at H
       dsimp only at H
       refine pm_Wg.path (k := 4) (ds := []) (f' := (73, [some (.ref 0), some (.int a0), none], [.int a0, .ref 1], cl_h (ct_x (.ref 512) (.ref 320) v3 s0) g1 g2 g3 (ct_p4 s4) (ct_e5 (.ref 256) (.ref 384) s5) g6 g7 (ct_t8 cs_z) g9 (8, ((((((q.2.1 + 1) + 1) + 1) + 1) + 1) + 1), ((((((q.2.2 + 6) + 100) + 100) + 100) + 100) + 100)))) tk_X8_loadTrace (by omega) rfl trivial ?_
       refine pm_Wg.callV (m' := 82) (ix := 50) (rr := 98) (pl := 922) (b := 1) (As := [.int a0]) (S := []) (by decide) rfl (pm_dec tk_X8_loadTrace rfl) rfl rfl (by decide) rfl rfl (by decide) (Nat.le_of_ble_eq_true rfl) rfl (e_X6_begin (by omega) q4) ?_
       cases q7 : f_X7_readFrom s0_3 s4 cs_z (s5.1 0 4) with
       | none => rw [q7] at H; cases H
       | some w =>
        obtain ⟨s0_5, s8_6⟩ := w
        rw [q7] at H
        dsimp only at H
        refine pm_Wg.path (k := 10) (ds := []) (f' := (98, [some (.ref 0), some (.int a0), none], [.int (s5.1 0 4), .ref 256, .ref 1, .ref 512], cl_h (ct_x (.ref 512) (.ref 320) v3 s0_3) g1 g2 g3 (ct_p4 s4) (ct_e5 (.ref 256) (.ref 384) s5) g6 g7 (ct_t8 cs_z) g9 (8, ((((((q.2.1 + 1) + 1) + 1) + 1) + 1) + 1), ((((((q.2.2 + 6) + 100) + 100) + 100) + 100) + 100)))) tk_X8_loadTrace (by omega) rfl trivial ?_
        refine pm_Wg.callV (m' := 94) (ix := 86) (rr := 139) (pl := 1108) (b := 512) (As := [.ref 1, .ref 256, .int (s5.1 0 4)]) (S := []) (by decide) rfl (pm_dec tk_X8_loadTrace rfl) rfl rfl (by decide) rfl rfl (by decide) (Nat.le_of_ble_eq_true rfl) rfl (e_X7_readFrom (by omega) q7) ?_
        by_cases h8 : ((cs_i s0_5 1 1 0).1 1 6) = 0
        · rw [if_pos h8] at H
          cases q10 : f_X1_follow s5 with
          | none => rw [q10] at H; cases H
          | some s5_9 =>
           rw [q10] at H
           dsimp only at H
           refine pm_Wg.path (k := 16) (ds := [1]) (f' := (145, [some (.ref 0), some (.int a0), some (.ref 384)], [.ref 512, .ref 320], cl_h (ct_x (.ref 512) (.ref 320) v3 (cs_i s0_5 1 1 0)) g1 g2 g3 (ct_p4 s4) (ct_e5 (.ref 256) (.ref 384) s5) g6 g7 (ct_t8 s8_6) g9 (8, ((((((q.2.1 + 1) + 1) + 1) + 1) + 1) + 1), ((((((q.2.2 + 6) + 100) + 100) + 100) + 100) + 100)))) tk_X8_loadTrace (by omega) rfl ⟨h8, trivial⟩ ?_
           refine pm_Wg.callV (m' := 8) (ix := 92) (rr := 148) (pl := 1131) (b := 320) (As := [.ref 512]) (S := []) (by decide) rfl (pm_dec tk_X8_loadTrace rfl) rfl rfl (by decide) rfl rfl (by decide) (Nat.le_of_ble_eq_true rfl) rfl (e_X1_follow (by omega) q10) ?_
           have J := Option.some.inj H
           injection J with J0a J0z
           cases J0a
        · rw [if_neg h8] at H
          have J := Option.some.inj H
          injection J with J0a J0z
          cases J0a
    · rw [if_neg h2] at H
      have J := Option.some.inj H
      injection J with J0a J0b
      injection J0b with J1a J1b
      injection J1b with J2a J2z
      subst J1a
      subst J2a
      subst J2z
      refine pm_Wg.path (k := 7) (ds := [0, 0]) (f' := (15, [some (.ref 0), some (.int a0), none], [], cl_h (ct_x (.null) (.ref 320) v3 s0) g1 g2 g3 (ct_p4 s4) (ct_e5 (.ref 256) (.ref 384) s5) g6 g7 [] g9 q)) tk_X8_loadTrace (by omega) rfl ⟨h2, h1, trivial⟩ ?_
      exact pm_Wg.throw (ik := 42) (ic := 46) (ix := 7) (rx := Bundle.six) (k := 1) rfl rfl (by omega) px_IAE rfl rfl (by decide +kernel) (by decide +kernel) (by decide +kernel) (by decide +kernel) (by decide +kernel) (Nat.le_of_ble_eq_true rfl)

def f_X8_loadTrace_D (s0 : cs_S) (s4 : cs_S) (s5 : cs_S) (s8 : cs_S) (a0 : Int32) : Option ((Int32 ⊕ Nat) × cs_S × cs_S × cs_S) :=
  (if a0 < 0 then
   some (.inr 1, s0, s5, s8)
  else
   (if a0 ≤ (s0.1 1 1) then
    (match f_X6_begin s0 a0 with
    | none => none
    | some s0_3 =>
     (match f_X7_readFrom s0_3 s4 s8 (s5.1 0 4) with
     | none => none
     | some (s0_5, s8_6) =>
      (if ((cs_i s0_5 1 1 0).1 1 6) = 0 then
       (match f_X1_follow s5 with
       | none => none
       | some s5_9 =>
        some (.inl (s8_6.1 0 0), (cs_i s0_5 1 1 0), s5_9, s8_6))
      else
       some (.inr 0, (cs_i s0_5 1 1 0), s5, s8_6))))
   else
    some (.inr 1, s0, s5, s8)))
set_option maxRecDepth 20000 in
set_option maxHeartbeats 20000000 in
theorem e_X8_loadTrace_D {d : Nat} (hd : 9 ≤ d) {g1 g2 g3 g6 g7 g9 : List pm_E} {v3 : Value} {q : Nat × Nat × Nat} {s0 : cs_S} {s4 : cs_S} {s5 : cs_S} {s8 : cs_S} {a0 : Int32} {r : Int32} {z0 : cs_S} {z5 : cs_S} {z8 : cs_S} (H : f_X8_loadTrace_D s0 s4 s5 s8 a0 = some (.inl r, z0, z5, z8)) : pm_Mt 99 d [.ref 0, .int a0] (cl_h (ct_x (.ref 512) (.ref 320) v3 s0) g1 g2 g3 (ct_p4 s4) (ct_e5 (.ref 256) (.ref 384) s5) g6 g7 (ct_t8 s8) g9 q) (.inl (some (.int r))) (cl_h (ct_x (.ref 384) (.ref 320) v3 z0) g1 g2 g3 (ct_p4 s4) (ct_e5 (.ref 256) (.ref 512) z5) g6 g7 (ct_t8 z8) g9 q) := by
  refine pm_Mt.of (by decide) (by decide +kernel) rfl rfl ?_
  obtain ⟨d, rfl⟩ : ∃ d', d = d' + 1 := ⟨d - 1, by omega⟩
  unfold f_X8_loadTrace_D at H
  by_cases h1 : a0 < 0
  · rw [if_pos h1] at H
    have J := Option.some.inj H
    injection J with J0a J0z
    cases J0a
  · rw [if_neg h1] at H
    by_cases h2 : a0 ≤ (s0.1 1 1)
    · rw [if_pos h2] at H
      cases q4 : f_X6_begin s0 a0 with
      | none => rw [q4] at H; cases H
      | some s0_3 =>
       rw [q4] at H
       dsimp only at H
       refine pm_Wg.path (k := 16) (ds := [0, 1]) (f' := (73, [some (.ref 0), some (.int a0), none], [.int a0, .ref 1], cl_h (ct_x (.ref 512) (.ref 320) v3 s0) g1 g2 g3 (ct_p4 s4) (ct_e5 (.ref 256) (.ref 384) s5) g6 g7 (ct_t8 s8) g9 q)) tk_X8_loadTrace (by omega) rfl ⟨h2, h1, trivial⟩ ?_
       refine pm_Wg.callV (m' := 82) (ix := 50) (rr := 98) (pl := 922) (b := 1) (As := [.int a0]) (S := []) (by decide) rfl (pm_dec tk_X8_loadTrace rfl) rfl rfl (by decide) rfl rfl (by decide) (Nat.le_of_ble_eq_true rfl) rfl (e_X6_begin (by omega) q4) ?_
       cases q7 : f_X7_readFrom s0_3 s4 s8 (s5.1 0 4) with
       | none => rw [q7] at H; cases H
       | some w =>
        obtain ⟨s0_5, s8_6⟩ := w
        rw [q7] at H
        dsimp only at H
        refine pm_Wg.path (k := 10) (ds := []) (f' := (98, [some (.ref 0), some (.int a0), none], [.int (s5.1 0 4), .ref 256, .ref 1, .ref 512], cl_h (ct_x (.ref 512) (.ref 320) v3 s0_3) g1 g2 g3 (ct_p4 s4) (ct_e5 (.ref 256) (.ref 384) s5) g6 g7 (ct_t8 s8) g9 q)) tk_X8_loadTrace (by omega) rfl trivial ?_
        refine pm_Wg.callV (m' := 94) (ix := 86) (rr := 139) (pl := 1108) (b := 512) (As := [.ref 1, .ref 256, .int (s5.1 0 4)]) (S := []) (by decide) rfl (pm_dec tk_X8_loadTrace rfl) rfl rfl (by decide) rfl rfl (by decide) (Nat.le_of_ble_eq_true rfl) rfl (e_X7_readFrom (by omega) q7) ?_
        by_cases h8 : ((cs_i s0_5 1 1 0).1 1 6) = 0
        · rw [if_pos h8] at H
          cases q10 : f_X1_follow s5 with
          | none => rw [q10] at H; cases H
          | some s5_9 =>
           rw [q10] at H
           dsimp only at H
           refine pm_Wg.path (k := 16) (ds := [1]) (f' := (145, [some (.ref 0), some (.int a0), some (.ref 384)], [.ref 512, .ref 320], cl_h (ct_x (.ref 512) (.ref 320) v3 (cs_i s0_5 1 1 0)) g1 g2 g3 (ct_p4 s4) (ct_e5 (.ref 256) (.ref 384) s5) g6 g7 (ct_t8 s8_6) g9 q)) tk_X8_loadTrace (by omega) rfl ⟨h8, trivial⟩ ?_
           refine pm_Wg.callV (m' := 8) (ix := 92) (rr := 148) (pl := 1131) (b := 320) (As := [.ref 512]) (S := []) (by decide) rfl (pm_dec tk_X8_loadTrace rfl) rfl rfl (by decide) rfl rfl (by decide) (Nat.le_of_ble_eq_true rfl) rfl (e_X1_follow (by omega) q10) ?_
           have J := Option.some.inj H
           injection J with J0a J0b
           injection J0b with J1a J1b
           injection J1b with J2a J2z
           injection J0a with JR
           subst JR
           subst J1a
           subst J2a
           subst J2z
           refine pm_Wg.path (k := 7) (ds := []) (f' := (163, [some (.ref 0), some (.int a0), some (.ref 384)], [.int (s8_6.1 0 0)], cl_h (ct_x (.ref 384) (.ref 320) v3 (cs_i s0_5 1 1 0)) g1 g2 g3 (ct_p4 s4) (ct_e5 (.ref 256) (.ref 512) s5_9) g6 g7 (ct_t8 s8_6) g9 q)) tk_X8_loadTrace (by omega) rfl trivial ?_
           exact pm_Wg.iret (pm_dec tk_X8_loadTrace rfl) rfl rfl
        · rw [if_neg h8] at H
          have J := Option.some.inj H
          injection J with J0a J0z
          cases J0a
    · rw [if_neg h2] at H
      have J := Option.some.inj H
      injection J with J0a J0z
      cases J0a
set_option maxRecDepth 20000 in
set_option maxHeartbeats 20000000 in
theorem e_X8_loadTrace_D_t0 {d : Nat} (hd : 9 ≤ d) {g1 g2 g3 g6 g7 g9 : List pm_E} {v3 : Value} {q : Nat × Nat × Nat} {s0 : cs_S} {s4 : cs_S} {s5 : cs_S} {s8 : cs_S} {a0 : Int32} {z0 : cs_S} {z5 : cs_S} {z8 : cs_S} (H : f_X8_loadTrace_D s0 s4 s5 s8 a0 = some (.inr 0, z0, z5, z8)) : pm_Mt 99 d [.ref 0, .int a0] (cl_h (ct_x (.ref 512) (.ref 320) v3 s0) g1 g2 g3 (ct_p4 s4) (ct_e5 (.ref 256) (.ref 384) s5) g6 g7 (ct_t8 s8) g9 q) (.inr "java/lang/IllegalStateException") (cl_h (ct_x (.ref 512) (.ref 320) v3 z0) g1 g2 g3 (ct_p4 s4) (ct_e5 (.ref 256) (.ref 384) z5) g6 g7 (ct_t8 z8) g9 (q.1, q.2.1 + 1, q.2.2 + 6)) := by
  refine pm_Mt.of (by decide) (by decide +kernel) rfl rfl ?_
  obtain ⟨d, rfl⟩ : ∃ d', d = d' + 1 := ⟨d - 1, by omega⟩
  unfold f_X8_loadTrace_D at H
  by_cases h1 : a0 < 0
  · rw [if_pos h1] at H
    have J := Option.some.inj H
    injection J with J0a J0z
    cases J0a
  · rw [if_neg h1] at H
    by_cases h2 : a0 ≤ (s0.1 1 1)
    · rw [if_pos h2] at H
      cases q4 : f_X6_begin s0 a0 with
      | none => rw [q4] at H; cases H
      | some s0_3 =>
       rw [q4] at H
       dsimp only at H
       refine pm_Wg.path (k := 16) (ds := [0, 1]) (f' := (73, [some (.ref 0), some (.int a0), none], [.int a0, .ref 1], cl_h (ct_x (.ref 512) (.ref 320) v3 s0) g1 g2 g3 (ct_p4 s4) (ct_e5 (.ref 256) (.ref 384) s5) g6 g7 (ct_t8 s8) g9 q)) tk_X8_loadTrace (by omega) rfl ⟨h2, h1, trivial⟩ ?_
       refine pm_Wg.callV (m' := 82) (ix := 50) (rr := 98) (pl := 922) (b := 1) (As := [.int a0]) (S := []) (by decide) rfl (pm_dec tk_X8_loadTrace rfl) rfl rfl (by decide) rfl rfl (by decide) (Nat.le_of_ble_eq_true rfl) rfl (e_X6_begin (by omega) q4) ?_
       cases q7 : f_X7_readFrom s0_3 s4 s8 (s5.1 0 4) with
       | none => rw [q7] at H; cases H
       | some w =>
        obtain ⟨s0_5, s8_6⟩ := w
        rw [q7] at H
        dsimp only at H
        refine pm_Wg.path (k := 10) (ds := []) (f' := (98, [some (.ref 0), some (.int a0), none], [.int (s5.1 0 4), .ref 256, .ref 1, .ref 512], cl_h (ct_x (.ref 512) (.ref 320) v3 s0_3) g1 g2 g3 (ct_p4 s4) (ct_e5 (.ref 256) (.ref 384) s5) g6 g7 (ct_t8 s8) g9 q)) tk_X8_loadTrace (by omega) rfl trivial ?_
        refine pm_Wg.callV (m' := 94) (ix := 86) (rr := 139) (pl := 1108) (b := 512) (As := [.ref 1, .ref 256, .int (s5.1 0 4)]) (S := []) (by decide) rfl (pm_dec tk_X8_loadTrace rfl) rfl rfl (by decide) rfl rfl (by decide) (Nat.le_of_ble_eq_true rfl) rfl (e_X7_readFrom (by omega) q7) ?_
        by_cases h8 : ((cs_i s0_5 1 1 0).1 1 6) = 0
        · rw [if_pos h8] at H
          cases q10 : f_X1_follow s5 with
          | none => rw [q10] at H; cases H
          | some s5_9 =>
           rw [q10] at H
           dsimp only at H
           refine pm_Wg.path (k := 16) (ds := [1]) (f' := (145, [some (.ref 0), some (.int a0), some (.ref 384)], [.ref 512, .ref 320], cl_h (ct_x (.ref 512) (.ref 320) v3 (cs_i s0_5 1 1 0)) g1 g2 g3 (ct_p4 s4) (ct_e5 (.ref 256) (.ref 384) s5) g6 g7 (ct_t8 s8_6) g9 q)) tk_X8_loadTrace (by omega) rfl ⟨h8, trivial⟩ ?_
           refine pm_Wg.callV (m' := 8) (ix := 92) (rr := 148) (pl := 1131) (b := 320) (As := [.ref 512]) (S := []) (by decide) rfl (pm_dec tk_X8_loadTrace rfl) rfl rfl (by decide) rfl rfl (by decide) (Nat.le_of_ble_eq_true rfl) rfl (e_X1_follow (by omega) q10) ?_
           have J := Option.some.inj H
           injection J with J0a J0z
           cases J0a
        · rw [if_neg h8] at H
          have J := Option.some.inj H
          injection J with J0a J0b
          injection J0b with J1a J1b
          injection J1b with J2a J2z
          subst J1a
          subst J2a
          subst J2z
          refine pm_Wg.path (k := 8) (ds := [0]) (f' := (119, [some (.ref 0), some (.int a0), none], [], cl_h (ct_x (.ref 512) (.ref 320) v3 (cs_i s0_5 1 1 0)) g1 g2 g3 (ct_p4 s4) (ct_e5 (.ref 256) (.ref 384) s5) g6 g7 (ct_t8 s8_6) g9 q)) tk_X8_loadTrace (by omega) rfl ⟨h8, trivial⟩ ?_
          exact pm_Wg.throw (ik := 31) (ic := 35) (ix := 7) (rx := Bundle.six) (k := 11) rfl rfl (by omega) px_ISE rfl rfl (by decide +kernel) (by decide +kernel) (by decide +kernel) (by decide +kernel) (by decide +kernel) (Nat.le_of_ble_eq_true rfl)
    · rw [if_neg h2] at H
      have J := Option.some.inj H
      injection J with J0a J0z
      cases J0a
set_option maxRecDepth 20000 in
set_option maxHeartbeats 20000000 in
theorem e_X8_loadTrace_D_t1 {d : Nat} (hd : 9 ≤ d) {g1 g2 g3 g6 g7 g9 : List pm_E} {v3 : Value} {q : Nat × Nat × Nat} {s0 : cs_S} {s4 : cs_S} {s5 : cs_S} {s8 : cs_S} {a0 : Int32} {z0 : cs_S} {z5 : cs_S} {z8 : cs_S} (H : f_X8_loadTrace_D s0 s4 s5 s8 a0 = some (.inr 1, z0, z5, z8)) : pm_Mt 99 d [.ref 0, .int a0] (cl_h (ct_x (.ref 512) (.ref 320) v3 s0) g1 g2 g3 (ct_p4 s4) (ct_e5 (.ref 256) (.ref 384) s5) g6 g7 (ct_t8 s8) g9 q) (.inr "java/lang/IllegalArgumentException") (cl_h (ct_x (.ref 512) (.ref 320) v3 z0) g1 g2 g3 (ct_p4 s4) (ct_e5 (.ref 256) (.ref 384) z5) g6 g7 (ct_t8 z8) g9 (q.1, q.2.1 + 1, q.2.2 + 6)) := by
  refine pm_Mt.of (by decide) (by decide +kernel) rfl rfl ?_
  obtain ⟨d, rfl⟩ : ∃ d', d = d' + 1 := ⟨d - 1, by omega⟩
  unfold f_X8_loadTrace_D at H
  by_cases h1 : a0 < 0
  · rw [if_pos h1] at H
    have J := Option.some.inj H
    injection J with J0a J0b
    injection J0b with J1a J1b
    injection J1b with J2a J2z
    subst J1a
    subst J2a
    subst J2z
    refine pm_Wg.path (k := 2) (ds := [1]) (f' := (15, [some (.ref 0), some (.int a0), none], [], cl_h (ct_x (.ref 512) (.ref 320) v3 s0) g1 g2 g3 (ct_p4 s4) (ct_e5 (.ref 256) (.ref 384) s5) g6 g7 (ct_t8 s8) g9 q)) tk_X8_loadTrace (by omega) rfl ⟨h1, trivial⟩ ?_
    exact pm_Wg.throw (ik := 42) (ic := 46) (ix := 7) (rx := Bundle.six) (k := 1) rfl rfl (by omega) px_IAE rfl rfl (by decide +kernel) (by decide +kernel) (by decide +kernel) (by decide +kernel) (by decide +kernel) (Nat.le_of_ble_eq_true rfl)
  · rw [if_neg h1] at H
    by_cases h2 : a0 ≤ (s0.1 1 1)
    · rw [if_pos h2] at H
      cases q4 : f_X6_begin s0 a0 with
      | none => rw [q4] at H; cases H
      | some s0_3 =>
       rw [q4] at H
       dsimp only at H
       refine pm_Wg.path (k := 16) (ds := [0, 1]) (f' := (73, [some (.ref 0), some (.int a0), none], [.int a0, .ref 1], cl_h (ct_x (.ref 512) (.ref 320) v3 s0) g1 g2 g3 (ct_p4 s4) (ct_e5 (.ref 256) (.ref 384) s5) g6 g7 (ct_t8 s8) g9 q)) tk_X8_loadTrace (by omega) rfl ⟨h2, h1, trivial⟩ ?_
       refine pm_Wg.callV (m' := 82) (ix := 50) (rr := 98) (pl := 922) (b := 1) (As := [.int a0]) (S := []) (by decide) rfl (pm_dec tk_X8_loadTrace rfl) rfl rfl (by decide) rfl rfl (by decide) (Nat.le_of_ble_eq_true rfl) rfl (e_X6_begin (by omega) q4) ?_
       cases q7 : f_X7_readFrom s0_3 s4 s8 (s5.1 0 4) with
       | none => rw [q7] at H; cases H
       | some w =>
        obtain ⟨s0_5, s8_6⟩ := w
        rw [q7] at H
        dsimp only at H
        refine pm_Wg.path (k := 10) (ds := []) (f' := (98, [some (.ref 0), some (.int a0), none], [.int (s5.1 0 4), .ref 256, .ref 1, .ref 512], cl_h (ct_x (.ref 512) (.ref 320) v3 s0_3) g1 g2 g3 (ct_p4 s4) (ct_e5 (.ref 256) (.ref 384) s5) g6 g7 (ct_t8 s8) g9 q)) tk_X8_loadTrace (by omega) rfl trivial ?_
        refine pm_Wg.callV (m' := 94) (ix := 86) (rr := 139) (pl := 1108) (b := 512) (As := [.ref 1, .ref 256, .int (s5.1 0 4)]) (S := []) (by decide) rfl (pm_dec tk_X8_loadTrace rfl) rfl rfl (by decide) rfl rfl (by decide) (Nat.le_of_ble_eq_true rfl) rfl (e_X7_readFrom (by omega) q7) ?_
        by_cases h8 : ((cs_i s0_5 1 1 0).1 1 6) = 0
        · rw [if_pos h8] at H
          cases q10 : f_X1_follow s5 with
          | none => rw [q10] at H; cases H
          | some s5_9 =>
           rw [q10] at H
           dsimp only at H
           refine pm_Wg.path (k := 16) (ds := [1]) (f' := (145, [some (.ref 0), some (.int a0), some (.ref 384)], [.ref 512, .ref 320], cl_h (ct_x (.ref 512) (.ref 320) v3 (cs_i s0_5 1 1 0)) g1 g2 g3 (ct_p4 s4) (ct_e5 (.ref 256) (.ref 384) s5) g6 g7 (ct_t8 s8_6) g9 q)) tk_X8_loadTrace (by omega) rfl ⟨h8, trivial⟩ ?_
           refine pm_Wg.callV (m' := 8) (ix := 92) (rr := 148) (pl := 1131) (b := 320) (As := [.ref 512]) (S := []) (by decide) rfl (pm_dec tk_X8_loadTrace rfl) rfl rfl (by decide) rfl rfl (by decide) (Nat.le_of_ble_eq_true rfl) rfl (e_X1_follow (by omega) q10) ?_
           have J := Option.some.inj H
           injection J with J0a J0z
           cases J0a
        · rw [if_neg h8] at H
          have J := Option.some.inj H
          injection J with J0a J0z
          cases J0a
    · rw [if_neg h2] at H
      have J := Option.some.inj H
      injection J with J0a J0b
      injection J0b with J1a J1b
      injection J1b with J2a J2z
      subst J1a
      subst J2a
      subst J2z
      refine pm_Wg.path (k := 7) (ds := [0, 0]) (f' := (15, [some (.ref 0), some (.int a0), none], [], cl_h (ct_x (.ref 512) (.ref 320) v3 s0) g1 g2 g3 (ct_p4 s4) (ct_e5 (.ref 256) (.ref 384) s5) g6 g7 (ct_t8 s8) g9 q)) tk_X8_loadTrace (by omega) rfl ⟨h2, h1, trivial⟩ ?_
      exact pm_Wg.throw (ik := 42) (ic := 46) (ix := 7) (rx := Bundle.six) (k := 1) rfl rfl (by omega) px_IAE rfl rfl (by decide +kernel) (by decide +kernel) (by decide +kernel) (by decide +kernel) (by decide +kernel) (Nat.le_of_ble_eq_true rfl)

def tb_X8_forecast : List pm_I := [(0, .aload_n 0, 0, 0), (1, .getfield 20, 13, 0), (4, .ifnull 17, 21, 0), (7, .aload_n 0, 0, 0), (8, .getfield 20, 13, 0), (11, .getfield 170, 114, 0), (14, .getfield 174, 72, 0), (17, .iconst (-1), 1, 0), (18, .if_icmp .ne 5, 23, 0), (21, .iconst (-1), 1, 0), (22, .ireturn, 0, 0), (23, .aload_n 0, 0, 0), (24, .getfield 24, 14, 0), (27, .ifnonnull 28, 55, 0), (30, .aload_n 0, 0, 0), (31, .new 62, 2, 9), (34, .dup, 0, 0), (35, .aload_n 0, 0, 0), (36, .getfield 20, 13, 0), (39, .getfield 79, 98, 0), (42, .aload_n 0, 0, 0), (43, .getfield 20, 13, 0), (46, .getfield 89, 100, 0), (49, .invokespecial 67, 17, 0), (52, .putfield 24, 14, 0), (55, .aload_n 0, 0, 0), (56, .getfield 24, 14, 0), (59, .aload_n 0, 0, 0), (60, .getfield 20, 13, 0), (63, .invokevirtual 333, 18, 0), (66, .aload_n 0, 0, 0), (67, .getfield 24, 14, 0), (70, .aload_n 0, 0, 0), (71, .getfield 20, 13, 0), (74, .getfield 83, 106, 0), (77, .sipush 20000, 48, 0), (80, .iadd, 0, 0), (81, .ldc 152, 0, 0), (83, .invokestatic 337, 25, 3), (86, .iconst 1, 3, 0), (87, .invokevirtual 189, 26, 0), (90, .aload_n 0, 0, 0), (91, .getfield 24, 14, 0), (94, .getfield 170, 114, 0), (97, .getfield 321, 86, 0), (100, .ireturn, 0, 0)]
theorem tk_X8_forecast : ∀ e ∈ tb_X8_forecast, pm_ck 141 e = true := List.all_eq_true.mp (by decide +kernel)

def f_X8_forecast_N (s0 : cs_S) : Option (Int32) :=
  some (-1)
set_option maxRecDepth 20000 in
set_option maxHeartbeats 20000000 in
theorem e_X8_forecast_N {d : Nat} (hd : 7 ≤ d) {g1 g2 g3 g4 g5 g6 g7 g8 g9 : List pm_E} {v1 v3 : Value} {q : Nat × Nat × Nat} {s0 : cs_S} {r : Int32} (H : f_X8_forecast_N s0 = some r) : pm_Mt 141 d [.ref 0] (cl_h (ct_x v1 (.null) v3 s0) g1 g2 g3 g4 g5 g6 g7 g8 g9 q) (.inl (some (.int r))) (cl_h (ct_x v1 (.null) v3 s0) g1 g2 g3 g4 g5 g6 g7 g8 g9 q) := by
  refine pm_Mt.of (by decide) (by decide +kernel) rfl rfl ?_
  obtain ⟨d, rfl⟩ : ∃ d', d = d' + 1 := ⟨d - 1, by omega⟩
  unfold f_X8_forecast_N at H
  have J := Option.some.inj H
  subst J
  refine pm_Wg.path (k := 4) (ds := []) (f' := (22, [some (.ref 0)], [.int (-1)], cl_h (ct_x v1 (.null) v3 s0) g1 g2 g3 g4 g5 g6 g7 g8 g9 q)) tk_X8_forecast (by omega) rfl trivial ?_
  exact pm_Wg.iret (pm_dec tk_X8_forecast rfl) rfl rfl

def f_X8_forecast_E (s0 : cs_S) (s4 : cs_S) (s5 : cs_S) (s6 : cs_S) (s7 : cs_S) : Option ((Int32 ⊕ Nat) × cs_S) :=
  (if (s5.1 31 0) = (-1) then
   some (.inr 9, cs_z)
  else
   (match f_X1_copyFrom s5 cs_e0 with
   | none => none
   | some s7_2 =>
    (match f_X1_runTo s4 s7_2 s6 (if 99999 < ((s5.1 0 4) + 20000) then 99999 else ((s5.1 0 4) + 20000)) 1 with
    | none => none
    | some s7_4 =>
     some (.inl (s7_4.1 31 6), s7_4))))
set_option maxRecDepth 20000 in
set_option maxHeartbeats 20000000 in
theorem e_X8_forecast_E {d : Nat} (hd : 7 ≤ d) {g1 g2 g3 g8 g9 : List pm_E} {v1 : Value} {q : Nat × Nat × Nat} {s0 : cs_S} {s4 : cs_S} {s5 : cs_S} {s6 : cs_S} {s7 : cs_S} {r : Int32} {z7 : cs_S} (H : f_X8_forecast_E s0 s4 s5 s6 s7 = some (.inl r, z7)) : pm_Mt 141 d [.ref 0] (cl_h (ct_x v1 (.ref 320) (.null) s0) g1 g2 g3 (ct_p4 s4) (ct_e5 (.ref 256) (.ref 384) s5) (ct_t6 s6) [] g8 g9 q) (.inl (some (.int r))) (cl_h (ct_x v1 (.ref 320) (.ref 448) s0) g1 g2 g3 (ct_p4 s4) (ct_e5 (.ref 256) (.ref 384) s5) (ct_t6 s6) (ct_e7 (.ref 256) (.ref 384) z7) g8 g9 (7, ((((((((((((((((((((((((((((((((((q.2.1 + 1) + 1) + 1) + 1) + 1) + 1) + 1) + 1) + 1) + 1) + 1) + 1) + 1) + 1) + 1) + 1) + 1) + 1) + 1) + 1) + 1) + 1) + 1) + 1) + 1) + 1) + 1) + 1) + 1) + 1) + 1) + 1) + 1) + 1), ((((((((((((((((((((((((((((((((((q.2.2 + 9) + 11) + 42) + 42) + 42) + 42) + 42) + 42) + 3248) + 3248) + 3248) + 3248) + 3248) + 5) + 7) + 7) + 7) + 7) + 18) + 12) + 400) + 400) + 400) + 400) + 400) + 400) + 400) + 6) + 6) + 6) + 6) + 11) + 64) + 64))) := by
  refine pm_Mt.of (by decide) (by decide +kernel) rfl rfl ?_
  obtain ⟨d, rfl⟩ : ∃ d', d = d' + 1 := ⟨d - 1, by omega⟩
  unfold f_X8_forecast_E at H
  by_cases h1 : (s5.1 31 0) = (-1)
  · rw [if_pos h1] at H
    have J := Option.some.inj H
    injection J with J0a J0z
    cases J0a
  · rw [if_neg h1] at H
    refine pm_Wg.path (k := 21) (ds := [1]) (f' := (49, [some (.ref 0)], [.ref 384, .ref 256, .ref 448, .ref 448, .ref 0], cl_h (ct_x v1 (.ref 320) (.null) s0) g1 g2 g3 (ct_p4 s4) (ct_e5 (.ref 256) (.ref 384) s5) (ct_t6 s6) [.inr (1, pm_df 1)] g8 g9 (7, (q.2.1 + 1), (q.2.2 + 9)))) tk_X8_forecast (by omega) rfl ⟨h1, trivial⟩ ?_
    refine pm_Wg.callI (m' := 5) (ix := 67) (rr := 17) (pl := 263) (b := 448) (z := 0) (As := [.ref 256, .ref 384]) (S := [.ref 448, .ref 0]) (by decide) rfl (pm_dec tk_X8_forecast rfl) rfl (by decide) rfl (by decide) rfl rfl (Nat.le_of_ble_eq_true rfl) rfl (w_X1_init_7 (by omega)) ?_
    cases q3 : f_X1_copyFrom s5 cs_e0 with
    | none => rw [q3] at H; cases H
    | some s7_2 =>
     rw [q3] at H
     dsimp only at H
     refine pm_Wg.path (k := 5) (ds := []) (f' := (63, [some (.ref 0)], [.ref 320, .ref 448], cl_h (ct_x v1 (.ref 320) (.ref 448) s0) g1 g2 g3 (ct_p4 s4) (ct_e5 (.ref 256) (.ref 384) s5) (ct_t6 s6) (ct_e7 (.ref 256) (.ref 384) cs_e0) g8 g9 (7, ((((((((((((((((((((((((((((((((((q.2.1 + 1) + 1) + 1) + 1) + 1) + 1) + 1) + 1) + 1) + 1) + 1) + 1) + 1) + 1) + 1) + 1) + 1) + 1) + 1) + 1) + 1) + 1) + 1) + 1) + 1) + 1) + 1) + 1) + 1) + 1) + 1) + 1) + 1) + 1), ((((((((((((((((((((((((((((((((((q.2.2 + 9) + 11) + 42) + 42) + 42) + 42) + 42) + 42) + 3248) + 3248) + 3248) + 3248) + 3248) + 5) + 7) + 7) + 7) + 7) + 18) + 12) + 400) + 400) + 400) + 400) + 400) + 400) + 400) + 6) + 6) + 6) + 6) + 11) + 64) + 64)))) tk_X8_forecast (by omega) rfl trivial ?_
     refine pm_Wg.callV (m' := 7) (ix := 333) (rr := 18) (pl := 494) (b := 448) (As := [.ref 320]) (S := []) (by decide) rfl (pm_dec tk_X8_forecast rfl) rfl rfl (by decide) rfl rfl (by decide) (Nat.le_of_ble_eq_true rfl) rfl (e_X1_copyFrom (by omega) q3) ?_
     cases q5 : f_X1_runTo s4 s7_2 s6 (if 99999 < ((s5.1 0 4) + 20000) then 99999 else ((s5.1 0 4) + 20000)) 1 with
     | none => rw [q5] at H; cases H
     | some s7_4 =>
      rw [q5] at H
      dsimp only at H
      refine pm_Wg.path (k := 10) (ds := []) (f' := (87, [some (.ref 0)], [.int 1, .int (if 99999 < ((s5.1 0 4) + 20000) then 99999 else ((s5.1 0 4) + 20000)), .ref 448], cl_h (ct_x v1 (.ref 320) (.ref 448) s0) g1 g2 g3 (ct_p4 s4) (ct_e5 (.ref 256) (.ref 384) s5) (ct_t6 s6) (ct_e7 (.ref 256) (.ref 384) s7_2) g8 g9 (7, ((((((((((((((((((((((((((((((((((q.2.1 + 1) + 1) + 1) + 1) + 1) + 1) + 1) + 1) + 1) + 1) + 1) + 1) + 1) + 1) + 1) + 1) + 1) + 1) + 1) + 1) + 1) + 1) + 1) + 1) + 1) + 1) + 1) + 1) + 1) + 1) + 1) + 1) + 1) + 1), ((((((((((((((((((((((((((((((((((q.2.2 + 9) + 11) + 42) + 42) + 42) + 42) + 42) + 42) + 3248) + 3248) + 3248) + 3248) + 3248) + 5) + 7) + 7) + 7) + 7) + 18) + 12) + 400) + 400) + 400) + 400) + 400) + 400) + 400) + 6) + 6) + 6) + 6) + 11) + 64) + 64)))) tk_X8_forecast (by omega) rfl trivial ?_
      refine pm_Wg.callV (m' := 16) (ix := 189) (rr := 26) (pl := 528) (b := 448) (As := [.int (if 99999 < ((s5.1 0 4) + 20000) then 99999 else ((s5.1 0 4) + 20000)), .int 1]) (S := []) (by decide) rfl (pm_dec tk_X8_forecast rfl) rfl rfl (by decide) rfl rfl (by decide) (Nat.le_of_ble_eq_true rfl) rfl (e_X1_runTo7 (by omega) q5) ?_
      have J := Option.some.inj H
      injection J with J0a J0z
      injection J0a with JR
      subst JR
      subst J0z
      refine pm_Wg.path (k := 4) (ds := []) (f' := (100, [some (.ref 0)], [.int (s7_4.1 31 6)], cl_h (ct_x v1 (.ref 320) (.ref 448) s0) g1 g2 g3 (ct_p4 s4) (ct_e5 (.ref 256) (.ref 384) s5) (ct_t6 s6) (ct_e7 (.ref 256) (.ref 384) s7_4) g8 g9 (7, ((((((((((((((((((((((((((((((((((q.2.1 + 1) + 1) + 1) + 1) + 1) + 1) + 1) + 1) + 1) + 1) + 1) + 1) + 1) + 1) + 1) + 1) + 1) + 1) + 1) + 1) + 1) + 1) + 1) + 1) + 1) + 1) + 1) + 1) + 1) + 1) + 1) + 1) + 1) + 1), ((((((((((((((((((((((((((((((((((q.2.2 + 9) + 11) + 42) + 42) + 42) + 42) + 42) + 42) + 3248) + 3248) + 3248) + 3248) + 3248) + 5) + 7) + 7) + 7) + 7) + 18) + 12) + 400) + 400) + 400) + 400) + 400) + 400) + 400) + 6) + 6) + 6) + 6) + 11) + 64) + 64)))) tk_X8_forecast (by omega) rfl trivial ?_
      exact pm_Wg.iret (pm_dec tk_X8_forecast rfl) rfl rfl
set_option maxRecDepth 20000 in
set_option maxHeartbeats 20000000 in
theorem e_X8_forecast_E_t9 {d : Nat} (hd : 7 ≤ d) {g1 g2 g3 g8 g9 : List pm_E} {v1 : Value} {q : Nat × Nat × Nat} {s0 : cs_S} {s4 : cs_S} {s5 : cs_S} {s6 : cs_S} {s7 : cs_S} {z7 : cs_S} (H : f_X8_forecast_E s0 s4 s5 s6 s7 = some (.inr 9, z7)) : pm_Mt 141 d [.ref 0] (cl_h (ct_x v1 (.ref 320) (.null) s0) g1 g2 g3 (ct_p4 s4) (ct_e5 (.ref 256) (.ref 384) s5) (ct_t6 s6) [] g8 g9 q) (.inl (some (.int (-1)))) (cl_h (ct_x v1 (.ref 320) (.null) s0) g1 g2 g3 (ct_p4 s4) (ct_e5 (.ref 256) (.ref 384) s5) (ct_t6 s6) [] g8 g9 q) := by
  refine pm_Mt.of (by decide) (by decide +kernel) rfl rfl ?_
  obtain ⟨d, rfl⟩ : ∃ d', d = d' + 1 := ⟨d - 1, by omega⟩
  unfold f_X8_forecast_E at H
  by_cases h1 : (s5.1 31 0) = (-1)
  · rw [if_pos h1] at H
    have J := Option.some.inj H
    injection J with J0a J0z
    subst J0z
    refine pm_Wg.path (k := 10) (ds := [0]) (f' := (22, [some (.ref 0)], [.int (-1)], cl_h (ct_x v1 (.ref 320) (.null) s0) g1 g2 g3 (ct_p4 s4) (ct_e5 (.ref 256) (.ref 384) s5) (ct_t6 s6) [] g8 g9 q)) tk_X8_forecast (by omega) rfl ⟨h1, trivial⟩ ?_
    exact pm_Wg.iret (pm_dec tk_X8_forecast rfl) rfl rfl
  · rw [if_neg h1] at H
    refine pm_Wg.path (k := 21) (ds := [1]) (f' := (49, [some (.ref 0)], [.ref 384, .ref 256, .ref 448, .ref 448, .ref 0], cl_h (ct_x v1 (.ref 320) (.null) s0) g1 g2 g3 (ct_p4 s4) (ct_e5 (.ref 256) (.ref 384) s5) (ct_t6 s6) [.inr (1, pm_df 1)] g8 g9 (7, (q.2.1 + 1), (q.2.2 + 9)))) tk_X8_forecast (by omega) rfl ⟨h1, trivial⟩ ?_
    refine pm_Wg.callI (m' := 5) (ix := 67) (rr := 17) (pl := 263) (b := 448) (z := 0) (As := [.ref 256, .ref 384]) (S := [.ref 448, .ref 0]) (by decide) rfl (pm_dec tk_X8_forecast rfl) rfl (by decide) rfl (by decide) rfl rfl (Nat.le_of_ble_eq_true rfl) rfl (w_X1_init_7 (by omega)) ?_
    cases q3 : f_X1_copyFrom s5 cs_e0 with
    | none => rw [q3] at H; cases H
    | some s7_2 =>
     rw [q3] at H
     dsimp only at H
     refine pm_Wg.path (k := 5) (ds := []) (f' := (63, [some (.ref 0)], [.ref 320, .ref 448], cl_h (ct_x v1 (.ref 320) (.ref 448) s0) g1 g2 g3 (ct_p4 s4) (ct_e5 (.ref 256) (.ref 384) s5) (ct_t6 s6) (ct_e7 (.ref 256) (.ref 384) cs_e0) g8 g9 (7, ((((((((((((((((((((((((((((((((((q.2.1 + 1) + 1) + 1) + 1) + 1) + 1) + 1) + 1) + 1) + 1) + 1) + 1) + 1) + 1) + 1) + 1) + 1) + 1) + 1) + 1) + 1) + 1) + 1) + 1) + 1) + 1) + 1) + 1) + 1) + 1) + 1) + 1) + 1) + 1), ((((((((((((((((((((((((((((((((((q.2.2 + 9) + 11) + 42) + 42) + 42) + 42) + 42) + 42) + 3248) + 3248) + 3248) + 3248) + 3248) + 5) + 7) + 7) + 7) + 7) + 18) + 12) + 400) + 400) + 400) + 400) + 400) + 400) + 400) + 6) + 6) + 6) + 6) + 11) + 64) + 64)))) tk_X8_forecast (by omega) rfl trivial ?_
     refine pm_Wg.callV (m' := 7) (ix := 333) (rr := 18) (pl := 494) (b := 448) (As := [.ref 320]) (S := []) (by decide) rfl (pm_dec tk_X8_forecast rfl) rfl rfl (by decide) rfl rfl (by decide) (Nat.le_of_ble_eq_true rfl) rfl (e_X1_copyFrom (by omega) q3) ?_
     cases q5 : f_X1_runTo s4 s7_2 s6 (if 99999 < ((s5.1 0 4) + 20000) then 99999 else ((s5.1 0 4) + 20000)) 1 with
     | none => rw [q5] at H; cases H
     | some s7_4 =>
      rw [q5] at H
      dsimp only at H
      refine pm_Wg.path (k := 10) (ds := []) (f' := (87, [some (.ref 0)], [.int 1, .int (if 99999 < ((s5.1 0 4) + 20000) then 99999 else ((s5.1 0 4) + 20000)), .ref 448], cl_h (ct_x v1 (.ref 320) (.ref 448) s0) g1 g2 g3 (ct_p4 s4) (ct_e5 (.ref 256) (.ref 384) s5) (ct_t6 s6) (ct_e7 (.ref 256) (.ref 384) s7_2) g8 g9 (7, ((((((((((((((((((((((((((((((((((q.2.1 + 1) + 1) + 1) + 1) + 1) + 1) + 1) + 1) + 1) + 1) + 1) + 1) + 1) + 1) + 1) + 1) + 1) + 1) + 1) + 1) + 1) + 1) + 1) + 1) + 1) + 1) + 1) + 1) + 1) + 1) + 1) + 1) + 1) + 1), ((((((((((((((((((((((((((((((((((q.2.2 + 9) + 11) + 42) + 42) + 42) + 42) + 42) + 42) + 3248) + 3248) + 3248) + 3248) + 3248) + 5) + 7) + 7) + 7) + 7) + 18) + 12) + 400) + 400) + 400) + 400) + 400) + 400) + 400) + 6) + 6) + 6) + 6) + 11) + 64) + 64)))) tk_X8_forecast (by omega) rfl trivial ?_
      refine pm_Wg.callV (m' := 16) (ix := 189) (rr := 26) (pl := 528) (b := 448) (As := [.int (if 99999 < ((s5.1 0 4) + 20000) then 99999 else ((s5.1 0 4) + 20000)), .int 1]) (S := []) (by decide) rfl (pm_dec tk_X8_forecast rfl) rfl rfl (by decide) rfl rfl (by decide) (Nat.le_of_ble_eq_true rfl) rfl (e_X1_runTo7 (by omega) q5) ?_
      have J := Option.some.inj H
      injection J with J0a J0z
      cases J0a

def f_X8_forecast_T (s0 : cs_S) (s4 : cs_S) (s5 : cs_S) (s6 : cs_S) (s7 : cs_S) : Option ((Int32 ⊕ Nat) × cs_S) :=
  (if (s5.1 31 0) = (-1) then
   some (.inr 9, s7)
  else
   (match f_X1_copyFrom s5 s7 with
   | none => none
   | some s7_2 =>
    (match f_X1_runTo s4 s7_2 s6 (if 99999 < ((s5.1 0 4) + 20000) then 99999 else ((s5.1 0 4) + 20000)) 1 with
    | none => none
    | some s7_4 =>
     some (.inl (s7_4.1 31 6), s7_4))))
set_option maxRecDepth 20000 in
set_option maxHeartbeats 20000000 in
theorem e_X8_forecast_T {d : Nat} (hd : 7 ≤ d) {g1 g2 g3 g8 g9 : List pm_E} {v1 p7 t7 : Value} {q : Nat × Nat × Nat} {s0 : cs_S} {s4 : cs_S} {s5 : cs_S} {s6 : cs_S} {s7 : cs_S} {r : Int32} {z7 : cs_S} (H : f_X8_forecast_T s0 s4 s5 s6 s7 = some (.inl r, z7)) : pm_Mt 141 d [.ref 0] (cl_h (ct_x v1 (.ref 320) (.ref 448) s0) g1 g2 g3 (ct_p4 s4) (ct_e5 (.ref 256) (.ref 384) s5) (ct_t6 s6) (ct_e7 p7 t7 s7) g8 g9 q) (.inl (some (.int r))) (cl_h (ct_x v1 (.ref 320) (.ref 448) s0) g1 g2 g3 (ct_p4 s4) (ct_e5 (.ref 256) (.ref 384) s5) (ct_t6 s6) (ct_e7 (.ref 256) (.ref 384) z7) g8 g9 q) := by
  refine pm_Mt.of (by decide) (by decide +kernel) rfl rfl ?_
  obtain ⟨d, rfl⟩ : ∃ d', d = d' + 1 := ⟨d - 1, by omega⟩
  unfold f_X8_forecast_T at H
  by_cases h1 : (s5.1 31 0) = (-1)
  · rw [if_pos h1] at H
    have J := Option.some.inj H
    injection J with J0a J0z
    cases J0a
  · rw [if_neg h1] at H
    cases q3 : f_X1_copyFrom s5 s7 with
    | none => rw [q3] at H; cases H
    | some s7_2 =>
     rw [q3] at H
     dsimp only at H
     refine pm_Wg.path (k := 16) (ds := [1]) (f' := (63, [some (.ref 0)], [.ref 320, .ref 448], cl_h (ct_x v1 (.ref 320) (.ref 448) s0) g1 g2 g3 (ct_p4 s4) (ct_e5 (.ref 256) (.ref 384) s5) (ct_t6 s6) (ct_e7 p7 t7 s7) g8 g9 q)) tk_X8_forecast (by omega) rfl ⟨h1, trivial⟩ ?_
     refine pm_Wg.callV (m' := 7) (ix := 333) (rr := 18) (pl := 494) (b := 448) (As := [.ref 320]) (S := []) (by decide) rfl (pm_dec tk_X8_forecast rfl) rfl rfl (by decide) rfl rfl (by decide) (Nat.le_of_ble_eq_true rfl) rfl (e_X1_copyFrom (by omega) q3) ?_
     cases q5 : f_X1_runTo s4 s7_2 s6 (if 99999 < ((s5.1 0 4) + 20000) then 99999 else ((s5.1 0 4) + 20000)) 1 with
     | none => rw [q5] at H; cases H
     | some s7_4 =>
      rw [q5] at H
      dsimp only at H
      refine pm_Wg.path (k := 10) (ds := []) (f' := (87, [some (.ref 0)], [.int 1, .int (if 99999 < ((s5.1 0 4) + 20000) then 99999 else ((s5.1 0 4) + 20000)), .ref 448], cl_h (ct_x v1 (.ref 320) (.ref 448) s0) g1 g2 g3 (ct_p4 s4) (ct_e5 (.ref 256) (.ref 384) s5) (ct_t6 s6) (ct_e7 (.ref 256) (.ref 384) s7_2) g8 g9 q)) tk_X8_forecast (by omega) rfl trivial ?_
      refine pm_Wg.callV (m' := 16) (ix := 189) (rr := 26) (pl := 528) (b := 448) (As := [.int (if 99999 < ((s5.1 0 4) + 20000) then 99999 else ((s5.1 0 4) + 20000)), .int 1]) (S := []) (by decide) rfl (pm_dec tk_X8_forecast rfl) rfl rfl (by decide) rfl rfl (by decide) (Nat.le_of_ble_eq_true rfl) rfl (e_X1_runTo7 (by omega) q5) ?_
      have J := Option.some.inj H
      injection J with J0a J0z
      injection J0a with JR
      subst JR
      subst J0z
      refine pm_Wg.path (k := 4) (ds := []) (f' := (100, [some (.ref 0)], [.int (s7_4.1 31 6)], cl_h (ct_x v1 (.ref 320) (.ref 448) s0) g1 g2 g3 (ct_p4 s4) (ct_e5 (.ref 256) (.ref 384) s5) (ct_t6 s6) (ct_e7 (.ref 256) (.ref 384) s7_4) g8 g9 q)) tk_X8_forecast (by omega) rfl trivial ?_
      exact pm_Wg.iret (pm_dec tk_X8_forecast rfl) rfl rfl
set_option maxRecDepth 20000 in
set_option maxHeartbeats 20000000 in
theorem e_X8_forecast_T_t9 {d : Nat} (hd : 7 ≤ d) {g1 g2 g3 g8 g9 : List pm_E} {v1 p7 t7 : Value} {q : Nat × Nat × Nat} {s0 : cs_S} {s4 : cs_S} {s5 : cs_S} {s6 : cs_S} {s7 : cs_S} {z7 : cs_S} (H : f_X8_forecast_T s0 s4 s5 s6 s7 = some (.inr 9, z7)) : pm_Mt 141 d [.ref 0] (cl_h (ct_x v1 (.ref 320) (.ref 448) s0) g1 g2 g3 (ct_p4 s4) (ct_e5 (.ref 256) (.ref 384) s5) (ct_t6 s6) (ct_e7 p7 t7 s7) g8 g9 q) (.inl (some (.int (-1)))) (cl_h (ct_x v1 (.ref 320) (.ref 448) s0) g1 g2 g3 (ct_p4 s4) (ct_e5 (.ref 256) (.ref 384) s5) (ct_t6 s6) (ct_e7 p7 t7 z7) g8 g9 q) := by
  refine pm_Mt.of (by decide) (by decide +kernel) rfl rfl ?_
  obtain ⟨d, rfl⟩ : ∃ d', d = d' + 1 := ⟨d - 1, by omega⟩
  unfold f_X8_forecast_T at H
  by_cases h1 : (s5.1 31 0) = (-1)
  · rw [if_pos h1] at H
    have J := Option.some.inj H
    injection J with J0a J0z
    subst J0z
    refine pm_Wg.path (k := 10) (ds := [0]) (f' := (22, [some (.ref 0)], [.int (-1)], cl_h (ct_x v1 (.ref 320) (.ref 448) s0) g1 g2 g3 (ct_p4 s4) (ct_e5 (.ref 256) (.ref 384) s5) (ct_t6 s6) (ct_e7 p7 t7 s7) g8 g9 q)) tk_X8_forecast (by omega) rfl ⟨h1, trivial⟩ ?_
    exact pm_Wg.iret (pm_dec tk_X8_forecast rfl) rfl rfl
  · rw [if_neg h1] at H
    cases q3 : f_X1_copyFrom s5 s7 with
    | none => rw [q3] at H; cases H
    | some s7_2 =>
     rw [q3] at H
     dsimp only at H
     refine pm_Wg.path (k := 16) (ds := [1]) (f' := (63, [some (.ref 0)], [.ref 320, .ref 448], cl_h (ct_x v1 (.ref 320) (.ref 448) s0) g1 g2 g3 (ct_p4 s4) (ct_e5 (.ref 256) (.ref 384) s5) (ct_t6 s6) (ct_e7 p7 t7 s7) g8 g9 q)) tk_X8_forecast (by omega) rfl ⟨h1, trivial⟩ ?_
     refine pm_Wg.callV (m' := 7) (ix := 333) (rr := 18) (pl := 494) (b := 448) (As := [.ref 320]) (S := []) (by decide) rfl (pm_dec tk_X8_forecast rfl) rfl rfl (by decide) rfl rfl (by decide) (Nat.le_of_ble_eq_true rfl) rfl (e_X1_copyFrom (by omega) q3) ?_
     cases q5 : f_X1_runTo s4 s7_2 s6 (if 99999 < ((s5.1 0 4) + 20000) then 99999 else ((s5.1 0 4) + 20000)) 1 with
     | none => rw [q5] at H; cases H
     | some s7_4 =>
      rw [q5] at H
      dsimp only at H
      refine pm_Wg.path (k := 10) (ds := []) (f' := (87, [some (.ref 0)], [.int 1, .int (if 99999 < ((s5.1 0 4) + 20000) then 99999 else ((s5.1 0 4) + 20000)), .ref 448], cl_h (ct_x v1 (.ref 320) (.ref 448) s0) g1 g2 g3 (ct_p4 s4) (ct_e5 (.ref 256) (.ref 384) s5) (ct_t6 s6) (ct_e7 (.ref 256) (.ref 384) s7_2) g8 g9 q)) tk_X8_forecast (by omega) rfl trivial ?_
      refine pm_Wg.callV (m' := 16) (ix := 189) (rr := 26) (pl := 528) (b := 448) (As := [.int (if 99999 < ((s5.1 0 4) + 20000) then 99999 else ((s5.1 0 4) + 20000)), .int 1]) (S := []) (by decide) rfl (pm_dec tk_X8_forecast rfl) rfl rfl (by decide) rfl rfl (by decide) (Nat.le_of_ble_eq_true rfl) rfl (e_X1_runTo7 (by omega) q5) ?_
      have J := Option.some.inj H
      injection J with J0a J0z
      cases J0a

def tb_L_loadArray : List pm_I := [(0, .aload_n 2, 0, 0), (1, .iconst 0, 2, 0), (2, .aload_n 0, 0, 0), (3, .iload_n 1, 0, 0), (4, .invokevirtual 15, 97, 0), (7, .i2l, 0, 0), (8, .lastore, 0, 0), (9, .goto 9, 18, 0), (12, .astore_n 3, 0, 0), (13, .iconst 1, 3, 0), (14, .ireturn, 0, 0), (15, .astore_n 3, 0, 0), (16, .iconst 2, 4, 0), (17, .ireturn, 0, 0), (18, .iconst 0, 2, 0), (19, .ireturn, 0, 0)]
theorem tk_L_loadArray : ∀ e ∈ tb_L_loadArray, pm_ck 310 e = true := List.all_eq_true.mp (by decide +kernel)

set_option maxRecDepth 20000 in
set_option maxHeartbeats 20000000 in
theorem e_L_loadArray_N {d : Nat} (hd : 10 ≤ d) {g1 g4 g7 g8 g9 : List pm_E} {v1 v3 : Value} {q : Nat × Nat × Nat} {s0 : cs_S} {s3 : cs_S} {s5 : cs_S} {s6 : cs_S} {a0 : Int32} {r : Int32} {z0 : cs_S} {z3 : cs_S} {z5 : cs_S} {z6 : cs_S} {o : Nat → Int64} (H : f_X8_loadArray_N s0 s3 s5 s6 a0 = some (.inl r, z0, z3, z5, z6)) : pm_Mt 310 d [.ref 0, .int a0, .ref 128] (cl_h (ct_x v1 (.null) v3 s0) g1 [.inl (1, 1, .inr (.inl (o)))] [] g4 [] [] g7 g8 g9 q) (.inl (some (.int 0))) (cl_h (ct_x v1 (.ref 320) v3 z0) g1 [.inl (1, 1, .inr (.inl (vp_updL o (Int32.toNatClampNeg 0) (Int32.toInt64 r))))] (ct_p3 z3) g4 (ct_e5 (.ref 192) (.ref 384) z5) (ct_t6 z6) g7 g8 g9 (5, ((((((((((((((((((((((((((((((((((((((((((((q.2.1 + 1) + 1) + 1) + 1) + 1) + 1) + 1) + 1) + 1) + 1) + 1) + 1) + 1) + 1) + 1) + 1) + 1) + 1) + 1) + 1) + 1) + 1) + 1) + 1) + 1) + 1) + 1) + 1) + 1) + 1) + 1) + 1) + 1) + 1) + 1) + 1) + 1) + 1) + 1) + 1) + 1) + 1) + 1) + 1), ((((((((((((((((((((((((((((((((((((((((((((q.2.2 + 11) + 6) + 6) + 6) + 9) + 6) + 100) + 100) + 100) + 100) + 100) + 11) + 42) + 42) + 42) + 42) + 42) + 42) + 3248) + 3248) + 3248) + 3248) + 3248) + 5) + 7) + 7) + 7) + 7) + 18) + 12) + 400) + 400) + 400) + 400) + 400) + 400) + 400) + 6) + 6) + 6) + 6) + 11) + 64) + 64))) := by
  refine pm_Mt.ofH (by decide) (by decide +kernel) rfl rfl ?_
  obtain ⟨d, rfl⟩ : ∃ d', d = d' + 1 := ⟨d - 1, by omega⟩
  refine pm_Wg.path (k := 4) (ds := []) (f' := (4, [some (.ref 0), some (.int a0), some (.ref 128), none], [.int a0, .ref 0, .int 0, .ref 128], cl_h (ct_x v1 (.null) v3 s0) g1 [.inl (1, 1, .inr (.inl (o)))] [] g4 [] [] g7 g8 g9 q)) tk_L_loadArray (by omega) rfl trivial ?_
  refine pm_Wg.callV (m' := 98) (ix := 15) (rr := 97) (pl := 842) (b := 0) (As := [.int a0]) (S := [.int 0, .ref 128]) (by decide) rfl (pm_dec tk_L_loadArray rfl) rfl rfl (by decide) rfl rfl (by decide) (Nat.le_of_ble_eq_true rfl) rfl (e_X8_loadArray_N (by omega) H) ?_
  refine pm_Wg.path (k := 4) (ds := []) (f' := (19, [some (.ref 0), some (.int a0), some (.ref 128), none], [.int 0], cl_h (ct_x v1 (.ref 320) v3 z0) g1 [.inl (1, 1, .inr (.inl (vp_updL o (Int32.toNatClampNeg 0) (Int32.toInt64 r))))] (ct_p3 z3) g4 (ct_e5 (.ref 192) (.ref 384) z5) (ct_t6 z6) g7 g8 g9 (5, ((((((((((((((((((((((((((((((((((((((((((((q.2.1 + 1) + 1) + 1) + 1) + 1) + 1) + 1) + 1) + 1) + 1) + 1) + 1) + 1) + 1) + 1) + 1) + 1) + 1) + 1) + 1) + 1) + 1) + 1) + 1) + 1) + 1) + 1) + 1) + 1) + 1) + 1) + 1) + 1) + 1) + 1) + 1) + 1) + 1) + 1) + 1) + 1) + 1) + 1) + 1), ((((((((((((((((((((((((((((((((((((((((((((q.2.2 + 11) + 6) + 6) + 6) + 9) + 6) + 100) + 100) + 100) + 100) + 100) + 11) + 42) + 42) + 42) + 42) + 42) + 42) + 3248) + 3248) + 3248) + 3248) + 3248) + 5) + 7) + 7) + 7) + 7) + 18) + 12) + 400) + 400) + 400) + 400) + 400) + 400) + 400) + 6) + 6) + 6) + 6) + 11) + 64) + 64)))) tk_L_loadArray (by omega) rfl ⟨pm_inb_vp (i := 0) (n := 1) rfl, trivial⟩ ?_
  exact pm_Wg.iret (pm_dec tk_L_loadArray rfl) rfl rfl
set_option maxRecDepth 20000 in
set_option maxHeartbeats 20000000 in
theorem e_L_loadArray_N_t0 {d : Nat} (hd : 10 ≤ d) {g1 g4 g7 g8 g9 : List pm_E} {v1 v3 : Value} {q : Nat × Nat × Nat} {s0 : cs_S} {s3 : cs_S} {s5 : cs_S} {s6 : cs_S} {a0 : Int32} {z0 : cs_S} {z3 : cs_S} {z5 : cs_S} {z6 : cs_S} {o : Nat → Int64} (H : f_X8_loadArray_N s0 s3 s5 s6 a0 = some (.inr 0, z0, z3, z5, z6)) : pm_Mt 310 d [.ref 0, .int a0, .ref 128] (cl_h (ct_x v1 (.null) v3 s0) g1 [.inl (1, 1, .inr (.inl (o)))] [] g4 [] [] g7 g8 g9 q) (.inl (some (.int 2))) (cl_h (ct_x v1 (.null) v3 z0) g1 [.inl (1, 1, .inr (.inl (o)))] (ct_p3 z3) g4 [] [] g7 g8 g9 (3, ((((q.2.1 + 1) + 1) + 1) + 1) + 1, ((((q.2.2 + 11) + 6) + 6) + 6) + 6)) := by
  refine pm_Mt.ofH (by decide) (by decide +kernel) rfl rfl ?_
  obtain ⟨d, rfl⟩ : ∃ d', d = d' + 1 := ⟨d - 1, by omega⟩
  refine pm_Wg.path (k := 4) (ds := []) (f' := (4, [some (.ref 0), some (.int a0), some (.ref 128), none], [.int a0, .ref 0, .int 0, .ref 128], cl_h (ct_x v1 (.null) v3 s0) g1 [.inl (1, 1, .inr (.inl (o)))] [] g4 [] [] g7 g8 g9 q)) tk_L_loadArray (by omega) rfl trivial ?_
  refine pm_Wg.callC (m' := 98) (ix := 15) (rr := 97) (pl := 842) (b := 0) (As := [.int a0]) (S := [.int 0, .ref 128]) (k := 3) (nx := 16) (pre := [(0, 9, 12, 19)]) (x := (0, 9, 15, 13)) (suf := []) (by decide) rfl (pm_dec tk_L_loadArray rfl) rfl rfl (by decide) rfl rfl (by decide) (Nat.le_of_ble_eq_true rfl) rfl rfl (fun z hz => by
    rcases List.mem_cons.mp hz with hz0 | hz
    · subst hz0; exact ⟨by decide, _, px_l1, by decide +kernel⟩
    cases hz) (by decide +kernel) (by decide) px_l0 px_c0 (Or.inl ⟨3, by decide +kernel, rfl, rfl⟩) (Nat.le_of_ble_eq_true rfl) (fun z hz => by cases hz) (e_X8_loadArray_N_t0 (by omega) H) ?_
  refine pm_Wg.path (k := 1) (ds := []) (f' := (17, [some (.ref 0), some (.int a0), some (.ref 128), none], [.int 2], cl_h (ct_x v1 (.null) v3 z0) g1 [.inl (1, 1, .inr (.inl (o)))] (ct_p3 z3) g4 [] [] g7 g8 g9 (3, ((((q.2.1 + 1) + 1) + 1) + 1) + 1, ((((q.2.2 + 11) + 6) + 6) + 6) + 6))) tk_L_loadArray (by omega) rfl trivial ?_
  exact pm_Wg.iret (pm_dec tk_L_loadArray rfl) rfl rfl
set_option maxRecDepth 20000 in
set_option maxHeartbeats 20000000 in
theorem e_L_loadArray_N_t1 {d : Nat} (hd : 10 ≤ d) {g1 g4 g7 g8 g9 : List pm_E} {v1 v3 : Value} {q : Nat × Nat × Nat} {s0 : cs_S} {s3 : cs_S} {s5 : cs_S} {s6 : cs_S} {a0 : Int32} {z0 : cs_S} {z3 : cs_S} {z5 : cs_S} {z6 : cs_S} {o : Nat → Int64} (H : f_X8_loadArray_N s0 s3 s5 s6 a0 = some (.inr 1, z0, z3, z5, z6)) : pm_Mt 310 d [.ref 0, .int a0, .ref 128] (cl_h (ct_x v1 (.null) v3 s0) g1 [.inl (1, 1, .inr (.inl (o)))] [] g4 [] [] g7 g8 g9 q) (.inl (some (.int 1))) (cl_h (ct_x v1 (.null) v3 z0) g1 [.inl (1, 1, .inr (.inl (o)))] [] g4 [] [] g7 g8 g9 (q.1, q.2.1 + 1, q.2.2 + 6)) := by
  refine pm_Mt.ofH (by decide) (by decide +kernel) rfl rfl ?_
  obtain ⟨d, rfl⟩ : ∃ d', d = d' + 1 := ⟨d - 1, by omega⟩
  refine pm_Wg.path (k := 4) (ds := []) (f' := (4, [some (.ref 0), some (.int a0), some (.ref 128), none], [.int a0, .ref 0, .int 0, .ref 128], cl_h (ct_x v1 (.null) v3 s0) g1 [.inl (1, 1, .inr (.inl (o)))] [] g4 [] [] g7 g8 g9 q)) tk_L_loadArray (by omega) rfl trivial ?_
  refine pm_Wg.callC (m' := 98) (ix := 15) (rr := 97) (pl := 842) (b := 0) (As := [.int a0]) (S := [.int 0, .ref 128]) (k := 3) (nx := 13) (pre := []) (x := (0, 9, 12, 19)) (suf := [(0, 9, 15, 13)]) (by decide) rfl (pm_dec tk_L_loadArray rfl) rfl rfl (by decide) rfl rfl (by decide) (Nat.le_of_ble_eq_true rfl) rfl rfl (fun z hz => by cases hz) (by decide +kernel) (by decide) px_l1 px_c1 (Or.inl ⟨3, by decide +kernel, rfl, rfl⟩) (Nat.le_of_ble_eq_true rfl) (fun z hz => by cases hz) (e_X8_loadArray_N_t1 (by omega) H) ?_
  refine pm_Wg.path (k := 1) (ds := []) (f' := (14, [some (.ref 0), some (.int a0), some (.ref 128), none], [.int 1], cl_h (ct_x v1 (.null) v3 z0) g1 [.inl (1, 1, .inr (.inl (o)))] [] g4 [] [] g7 g8 g9 (q.1, q.2.1 + 1, q.2.2 + 6))) tk_L_loadArray (by omega) rfl trivial ?_
  exact pm_Wg.iret (pm_dec tk_L_loadArray rfl) rfl rfl

set_option maxRecDepth 20000 in
set_option maxHeartbeats 20000000 in
theorem e_L_loadArray_E {d : Nat} (hd : 10 ≤ d) {g1 g4 g7 g8 g9 : List pm_E} {v1 v3 : Value} {q : Nat × Nat × Nat} {s0 : cs_S} {s3 : cs_S} {s5 : cs_S} {s6 : cs_S} {a0 : Int32} {r : Int32} {z0 : cs_S} {z3 : cs_S} {z5 : cs_S} {z6 : cs_S} {o : Nat → Int64} (H : f_X8_loadArray_E s0 s3 s5 s6 a0 = some (.inl r, z0, z3, z5, z6)) : pm_Mt 310 d [.ref 0, .int a0, .ref 128] (cl_h (ct_x v1 (.ref 320) v3 s0) g1 [.inl (1, 1, .inr (.inl (o)))] [] g4 (ct_e5 (.ref 256) (.ref 384) s5) (ct_t6 s6) g7 g8 g9 q) (.inl (some (.int 0))) (cl_h (ct_x v1 (.ref 320) v3 z0) g1 [.inl (1, 1, .inr (.inl (vp_updL o (Int32.toNatClampNeg 0) (Int32.toInt64 r))))] (ct_p3 z3) g4 (ct_e5 (.ref 192) (.ref 384) z5) (ct_t6 z6) g7 g8 g9 (3, ((((q.2.1 + 1) + 1) + 1) + 1), ((((q.2.2 + 11) + 6) + 6) + 6))) := by
  refine pm_Mt.ofH (by decide) (by decide +kernel) rfl rfl ?_
  obtain ⟨d, rfl⟩ : ∃ d', d = d' + 1 := ⟨d - 1, by omega⟩
  refine pm_Wg.path (k := 4) (ds := []) (f' := (4, [some (.ref 0), some (.int a0), some (.ref 128), none], [.int a0, .ref 0, .int 0, .ref 128], cl_h (ct_x v1 (.ref 320) v3 s0) g1 [.inl (1, 1, .inr (.inl (o)))] [] g4 (ct_e5 (.ref 256) (.ref 384) s5) (ct_t6 s6) g7 g8 g9 q)) tk_L_loadArray (by omega) rfl trivial ?_
  refine pm_Wg.callV (m' := 98) (ix := 15) (rr := 97) (pl := 842) (b := 0) (As := [.int a0]) (S := [.int 0, .ref 128]) (by decide) rfl (pm_dec tk_L_loadArray rfl) rfl rfl (by decide) rfl rfl (by decide) (Nat.le_of_ble_eq_true rfl) rfl (e_X8_loadArray_E (by omega) H) ?_
  refine pm_Wg.path (k := 4) (ds := []) (f' := (19, [some (.ref 0), some (.int a0), some (.ref 128), none], [.int 0], cl_h (ct_x v1 (.ref 320) v3 z0) g1 [.inl (1, 1, .inr (.inl (vp_updL o (Int32.toNatClampNeg 0) (Int32.toInt64 r))))] (ct_p3 z3) g4 (ct_e5 (.ref 192) (.ref 384) z5) (ct_t6 z6) g7 g8 g9 (3, ((((q.2.1 + 1) + 1) + 1) + 1), ((((q.2.2 + 11) + 6) + 6) + 6)))) tk_L_loadArray (by omega) rfl ⟨pm_inb_vp (i := 0) (n := 1) rfl, trivial⟩ ?_
  exact pm_Wg.iret (pm_dec tk_L_loadArray rfl) rfl rfl
set_option maxRecDepth 20000 in
set_option maxHeartbeats 20000000 in
theorem e_L_loadArray_E_t0 {d : Nat} (hd : 10 ≤ d) {g1 g4 g7 g8 g9 : List pm_E} {v1 v3 : Value} {q : Nat × Nat × Nat} {s0 : cs_S} {s3 : cs_S} {s5 : cs_S} {s6 : cs_S} {a0 : Int32} {z0 : cs_S} {z3 : cs_S} {z5 : cs_S} {z6 : cs_S} {o : Nat → Int64} (H : f_X8_loadArray_E s0 s3 s5 s6 a0 = some (.inr 0, z0, z3, z5, z6)) : pm_Mt 310 d [.ref 0, .int a0, .ref 128] (cl_h (ct_x v1 (.ref 320) v3 s0) g1 [.inl (1, 1, .inr (.inl (o)))] [] g4 (ct_e5 (.ref 256) (.ref 384) s5) (ct_t6 s6) g7 g8 g9 q) (.inl (some (.int 2))) (cl_h (ct_x v1 (.ref 320) v3 z0) g1 [.inl (1, 1, .inr (.inl (o)))] (ct_p3 z3) g4 (ct_e5 (.ref 256) (.ref 384) z5) (ct_t6 z6) g7 g8 g9 (3, ((((q.2.1 + 1) + 1) + 1) + 1) + 1, ((((q.2.2 + 11) + 6) + 6) + 6) + 6)) := by
  refine pm_Mt.ofH (by decide) (by decide +kernel) rfl rfl ?_
  obtain ⟨d, rfl⟩ : ∃ d', d = d' + 1 := ⟨d - 1, by omega⟩
  refine pm_Wg.path (k := 4) (ds := []) (f' := (4, [some (.ref 0), some (.int a0), some (.ref 128), none], [.int a0, .ref 0, .int 0, .ref 128], cl_h (ct_x v1 (.ref 320) v3 s0) g1 [.inl (1, 1, .inr (.inl (o)))] [] g4 (ct_e5 (.ref 256) (.ref 384) s5) (ct_t6 s6) g7 g8 g9 q)) tk_L_loadArray (by omega) rfl trivial ?_
  refine pm_Wg.callC (m' := 98) (ix := 15) (rr := 97) (pl := 842) (b := 0) (As := [.int a0]) (S := [.int 0, .ref 128]) (k := 3) (nx := 16) (pre := [(0, 9, 12, 19)]) (x := (0, 9, 15, 13)) (suf := []) (by decide) rfl (pm_dec tk_L_loadArray rfl) rfl rfl (by decide) rfl rfl (by decide) (Nat.le_of_ble_eq_true rfl) rfl rfl (fun z hz => by
    rcases List.mem_cons.mp hz with hz0 | hz
    · subst hz0; exact ⟨by decide, _, px_l1, by decide +kernel⟩
    cases hz) (by decide +kernel) (by decide) px_l0 px_c0 (Or.inl ⟨3, by decide +kernel, rfl, rfl⟩) (Nat.le_of_ble_eq_true rfl) (fun z hz => by cases hz) (e_X8_loadArray_E_t0 (by omega) H) ?_
  refine pm_Wg.path (k := 1) (ds := []) (f' := (17, [some (.ref 0), some (.int a0), some (.ref 128), none], [.int 2], cl_h (ct_x v1 (.ref 320) v3 z0) g1 [.inl (1, 1, .inr (.inl (o)))] (ct_p3 z3) g4 (ct_e5 (.ref 256) (.ref 384) z5) (ct_t6 z6) g7 g8 g9 (3, ((((q.2.1 + 1) + 1) + 1) + 1) + 1, ((((q.2.2 + 11) + 6) + 6) + 6) + 6))) tk_L_loadArray (by omega) rfl trivial ?_
  exact pm_Wg.iret (pm_dec tk_L_loadArray rfl) rfl rfl
set_option maxRecDepth 20000 in
set_option maxHeartbeats 20000000 in
theorem e_L_loadArray_E_t1 {d : Nat} (hd : 10 ≤ d) {g1 g4 g7 g8 g9 : List pm_E} {v1 v3 : Value} {q : Nat × Nat × Nat} {s0 : cs_S} {s3 : cs_S} {s5 : cs_S} {s6 : cs_S} {a0 : Int32} {z0 : cs_S} {z3 : cs_S} {z5 : cs_S} {z6 : cs_S} {o : Nat → Int64} (H : f_X8_loadArray_E s0 s3 s5 s6 a0 = some (.inr 1, z0, z3, z5, z6)) : pm_Mt 310 d [.ref 0, .int a0, .ref 128] (cl_h (ct_x v1 (.ref 320) v3 s0) g1 [.inl (1, 1, .inr (.inl (o)))] [] g4 (ct_e5 (.ref 256) (.ref 384) s5) (ct_t6 s6) g7 g8 g9 q) (.inl (some (.int 1))) (cl_h (ct_x v1 (.ref 320) v3 z0) g1 [.inl (1, 1, .inr (.inl (o)))] [] g4 (ct_e5 (.ref 256) (.ref 384) z5) (ct_t6 z6) g7 g8 g9 (q.1, q.2.1 + 1, q.2.2 + 6)) := by
  refine pm_Mt.ofH (by decide) (by decide +kernel) rfl rfl ?_
  obtain ⟨d, rfl⟩ : ∃ d', d = d' + 1 := ⟨d - 1, by omega⟩
  refine pm_Wg.path (k := 4) (ds := []) (f' := (4, [some (.ref 0), some (.int a0), some (.ref 128), none], [.int a0, .ref 0, .int 0, .ref 128], cl_h (ct_x v1 (.ref 320) v3 s0) g1 [.inl (1, 1, .inr (.inl (o)))] [] g4 (ct_e5 (.ref 256) (.ref 384) s5) (ct_t6 s6) g7 g8 g9 q)) tk_L_loadArray (by omega) rfl trivial ?_
  refine pm_Wg.callC (m' := 98) (ix := 15) (rr := 97) (pl := 842) (b := 0) (As := [.int a0]) (S := [.int 0, .ref 128]) (k := 3) (nx := 13) (pre := []) (x := (0, 9, 12, 19)) (suf := [(0, 9, 15, 13)]) (by decide) rfl (pm_dec tk_L_loadArray rfl) rfl rfl (by decide) rfl rfl (by decide) (Nat.le_of_ble_eq_true rfl) rfl rfl (fun z hz => by cases hz) (by decide +kernel) (by decide) px_l1 px_c1 (Or.inl ⟨3, by decide +kernel, rfl, rfl⟩) (Nat.le_of_ble_eq_true rfl) (fun z hz => by cases hz) (e_X8_loadArray_E_t1 (by omega) H) ?_
  refine pm_Wg.path (k := 1) (ds := []) (f' := (14, [some (.ref 0), some (.int a0), some (.ref 128), none], [.int 1], cl_h (ct_x v1 (.ref 320) v3 z0) g1 [.inl (1, 1, .inr (.inl (o)))] [] g4 (ct_e5 (.ref 256) (.ref 384) z5) (ct_t6 z6) g7 g8 g9 (q.1, q.2.1 + 1, q.2.2 + 6))) tk_L_loadArray (by omega) rfl trivial ?_
  exact pm_Wg.iret (pm_dec tk_L_loadArray rfl) rfl rfl

def tb_L_loadTrace : List pm_I := [(0, .aload_n 2, 0, 0), (1, .iconst 0, 2, 0), (2, .aload_n 0, 0, 0), (3, .iload_n 1, 0, 0), (4, .invokevirtual 21, 138, 0), (7, .i2l, 0, 0), (8, .lastore, 0, 0), (9, .goto 9, 18, 0), (12, .astore_n 3, 0, 0), (13, .iconst 1, 3, 0), (14, .ireturn, 0, 0), (15, .astore_n 3, 0, 0), (16, .iconst 2, 4, 0), (17, .ireturn, 0, 0), (18, .iconst 0, 2, 0), (19, .ireturn, 0, 0)]
theorem tk_L_loadTrace : ∀ e ∈ tb_L_loadTrace, pm_ck 311 e = true := List.all_eq_true.mp (by decide +kernel)

set_option maxRecDepth 20000 in
set_option maxHeartbeats 20000000 in
theorem e_L_loadTrace_N_t0 {d : Nat} (hd : 10 ≤ d) {g1 g3 g4 g5 g6 g7 g8 g9 : List pm_E} {v1 v3 : Value} {q : Nat × Nat × Nat} {s0 : cs_S} {a0 : Int32} {z0 : cs_S} {o : Nat → Int64} (H : f_X8_loadTrace_N s0 a0 = some (.inr 0, z0)) : pm_Mt 311 d [.ref 0, .int a0, .ref 128] (cl_h (ct_x v1 (.null) v3 s0) g1 [.inl (1, 1, .inr (.inl (o)))] g3 g4 g5 g6 g7 g8 g9 q) (.inl (some (.int 2))) (cl_h (ct_x v1 (.null) v3 z0) g1 [.inl (1, 1, .inr (.inl (o)))] g3 g4 g5 g6 g7 g8 g9 (q.1, q.2.1 + 1, q.2.2 + 6)) := by
  refine pm_Mt.ofH (by decide) (by decide +kernel) rfl rfl ?_
  obtain ⟨d, rfl⟩ : ∃ d', d = d' + 1 := ⟨d - 1, by omega⟩
  refine pm_Wg.path (k := 4) (ds := []) (f' := (4, [some (.ref 0), some (.int a0), some (.ref 128), none], [.int a0, .ref 0, .int 0, .ref 128], cl_h (ct_x v1 (.null) v3 s0) g1 [.inl (1, 1, .inr (.inl (o)))] g3 g4 g5 g6 g7 g8 g9 q)) tk_L_loadTrace (by omega) rfl trivial ?_
  refine pm_Wg.callC (m' := 99) (ix := 21) (rr := 138) (pl := 1103) (b := 0) (As := [.int a0]) (S := [.int 0, .ref 128]) (k := 3) (nx := 16) (pre := [(0, 9, 12, 19)]) (x := (0, 9, 15, 13)) (suf := []) (by decide) rfl (pm_dec tk_L_loadTrace rfl) rfl rfl (by decide) rfl rfl (by decide) (Nat.le_of_ble_eq_true rfl) rfl rfl (fun z hz => by
    rcases List.mem_cons.mp hz with hz0 | hz
    · subst hz0; exact ⟨by decide, _, px_l1, by decide +kernel⟩
    cases hz) (by decide +kernel) (by decide) px_l0 px_c0 (Or.inl ⟨3, by decide +kernel, rfl, rfl⟩) (Nat.le_of_ble_eq_true rfl) (fun z hz => by cases hz) (e_X8_loadTrace_N_t0 (by omega) H) ?_
  refine pm_Wg.path (k := 1) (ds := []) (f' := (17, [some (.ref 0), some (.int a0), some (.ref 128), none], [.int 2], cl_h (ct_x v1 (.null) v3 z0) g1 [.inl (1, 1, .inr (.inl (o)))] g3 g4 g5 g6 g7 g8 g9 (q.1, q.2.1 + 1, q.2.2 + 6))) tk_L_loadTrace (by omega) rfl trivial ?_
  exact pm_Wg.iret (pm_dec tk_L_loadTrace rfl) rfl rfl
set_option maxRecDepth 20000 in
set_option maxHeartbeats 20000000 in
theorem e_L_loadTrace_N_t1 {d : Nat} (hd : 10 ≤ d) {g1 g3 g4 g5 g6 g7 g8 g9 : List pm_E} {v1 v3 : Value} {q : Nat × Nat × Nat} {s0 : cs_S} {a0 : Int32} {z0 : cs_S} {o : Nat → Int64} (H : f_X8_loadTrace_N s0 a0 = some (.inr 1, z0)) : pm_Mt 311 d [.ref 0, .int a0, .ref 128] (cl_h (ct_x v1 (.null) v3 s0) g1 [.inl (1, 1, .inr (.inl (o)))] g3 g4 g5 g6 g7 g8 g9 q) (.inl (some (.int 1))) (cl_h (ct_x v1 (.null) v3 z0) g1 [.inl (1, 1, .inr (.inl (o)))] g3 g4 g5 g6 g7 g8 g9 (q.1, q.2.1 + 1, q.2.2 + 6)) := by
  refine pm_Mt.ofH (by decide) (by decide +kernel) rfl rfl ?_
  obtain ⟨d, rfl⟩ : ∃ d', d = d' + 1 := ⟨d - 1, by omega⟩
  refine pm_Wg.path (k := 4) (ds := []) (f' := (4, [some (.ref 0), some (.int a0), some (.ref 128), none], [.int a0, .ref 0, .int 0, .ref 128], cl_h (ct_x v1 (.null) v3 s0) g1 [.inl (1, 1, .inr (.inl (o)))] g3 g4 g5 g6 g7 g8 g9 q)) tk_L_loadTrace (by omega) rfl trivial ?_
  refine pm_Wg.callC (m' := 99) (ix := 21) (rr := 138) (pl := 1103) (b := 0) (As := [.int a0]) (S := [.int 0, .ref 128]) (k := 3) (nx := 13) (pre := []) (x := (0, 9, 12, 19)) (suf := [(0, 9, 15, 13)]) (by decide) rfl (pm_dec tk_L_loadTrace rfl) rfl rfl (by decide) rfl rfl (by decide) (Nat.le_of_ble_eq_true rfl) rfl rfl (fun z hz => by cases hz) (by decide +kernel) (by decide) px_l1 px_c1 (Or.inl ⟨3, by decide +kernel, rfl, rfl⟩) (Nat.le_of_ble_eq_true rfl) (fun z hz => by cases hz) (e_X8_loadTrace_N_t1 (by omega) H) ?_
  refine pm_Wg.path (k := 1) (ds := []) (f' := (14, [some (.ref 0), some (.int a0), some (.ref 128), none], [.int 1], cl_h (ct_x v1 (.null) v3 z0) g1 [.inl (1, 1, .inr (.inl (o)))] g3 g4 g5 g6 g7 g8 g9 (q.1, q.2.1 + 1, q.2.2 + 6))) tk_L_loadTrace (by omega) rfl trivial ?_
  exact pm_Wg.iret (pm_dec tk_L_loadTrace rfl) rfl rfl

set_option maxRecDepth 20000 in
set_option maxHeartbeats 20000000 in
theorem e_L_loadTrace_E {d : Nat} (hd : 10 ≤ d) {g1 g3 g6 g7 g9 : List pm_E} {v3 : Value} {q : Nat × Nat × Nat} {s0 : cs_S} {s4 : cs_S} {s5 : cs_S} {s8 : cs_S} {a0 : Int32} {r : Int32} {z0 : cs_S} {z5 : cs_S} {z8 : cs_S} {o : Nat → Int64} (H : f_X8_loadTrace_E s0 s4 s5 s8 a0 = some (.inl r, z0, z5, z8)) : pm_Mt 311 d [.ref 0, .int a0, .ref 128] (cl_h (ct_x (.null) (.ref 320) v3 s0) g1 [.inl (1, 1, .inr (.inl (o)))] g3 (ct_p4 s4) (ct_e5 (.ref 256) (.ref 384) s5) g6 g7 [] g9 q) (.inl (some (.int 0))) (cl_h (ct_x (.ref 384) (.ref 320) v3 z0) g1 [.inl (1, 1, .inr (.inl (vp_updL o (Int32.toNatClampNeg 0) (Int32.toInt64 r))))] g3 (ct_p4 s4) (ct_e5 (.ref 256) (.ref 512) z5) g6 g7 (ct_t8 z8) g9 (8, ((((((q.2.1 + 1) + 1) + 1) + 1) + 1) + 1), ((((((q.2.2 + 6) + 100) + 100) + 100) + 100) + 100))) := by
  refine pm_Mt.ofH (by decide) (by decide +kernel) rfl rfl ?_
  obtain ⟨d, rfl⟩ : ∃ d', d = d' + 1 := ⟨d - 1, by omega⟩
  refine pm_Wg.path (k := 4) (ds := []) (f' := (4, [some (.ref 0), some (.int a0), some (.ref 128), none], [.int a0, .ref 0, .int 0, .ref 128], cl_h (ct_x (.null) (.ref 320) v3 s0) g1 [.inl (1, 1, .inr (.inl (o)))] g3 (ct_p4 s4) (ct_e5 (.ref 256) (.ref 384) s5) g6 g7 [] g9 q)) tk_L_loadTrace (by omega) rfl trivial ?_
  refine pm_Wg.callV (m' := 99) (ix := 21) (rr := 138) (pl := 1103) (b := 0) (As := [.int a0]) (S := [.int 0, .ref 128]) (by decide) rfl (pm_dec tk_L_loadTrace rfl) rfl rfl (by decide) rfl rfl (by decide) (Nat.le_of_ble_eq_true rfl) rfl (e_X8_loadTrace_E (by omega) H) ?_
  refine pm_Wg.path (k := 4) (ds := []) (f' := (19, [some (.ref 0), some (.int a0), some (.ref 128), none], [.int 0], cl_h (ct_x (.ref 384) (.ref 320) v3 z0) g1 [.inl (1, 1, .inr (.inl (vp_updL o (Int32.toNatClampNeg 0) (Int32.toInt64 r))))] g3 (ct_p4 s4) (ct_e5 (.ref 256) (.ref 512) z5) g6 g7 (ct_t8 z8) g9 (8, ((((((q.2.1 + 1) + 1) + 1) + 1) + 1) + 1), ((((((q.2.2 + 6) + 100) + 100) + 100) + 100) + 100)))) tk_L_loadTrace (by omega) rfl ⟨pm_inb_vp (i := 0) (n := 1) rfl, trivial⟩ ?_
  exact pm_Wg.iret (pm_dec tk_L_loadTrace rfl) rfl rfl
set_option maxRecDepth 20000 in
set_option maxHeartbeats 20000000 in
theorem e_L_loadTrace_E_t0 {d : Nat} (hd : 10 ≤ d) {g1 g3 g6 g7 g9 : List pm_E} {v3 : Value} {q : Nat × Nat × Nat} {s0 : cs_S} {s4 : cs_S} {s5 : cs_S} {s8 : cs_S} {a0 : Int32} {z0 : cs_S} {z5 : cs_S} {z8 : cs_S} {o : Nat → Int64} (H : f_X8_loadTrace_E s0 s4 s5 s8 a0 = some (.inr 0, z0, z5, z8)) : pm_Mt 311 d [.ref 0, .int a0, .ref 128] (cl_h (ct_x (.null) (.ref 320) v3 s0) g1 [.inl (1, 1, .inr (.inl (o)))] g3 (ct_p4 s4) (ct_e5 (.ref 256) (.ref 384) s5) g6 g7 [] g9 q) (.inl (some (.int 2))) (cl_h (ct_x (.ref 512) (.ref 320) v3 z0) g1 [.inl (1, 1, .inr (.inl (o)))] g3 (ct_p4 s4) (ct_e5 (.ref 256) (.ref 384) z5) g6 g7 (ct_t8 z8) g9 (8, ((((((q.2.1 + 1) + 1) + 1) + 1) + 1) + 1) + 1, ((((((q.2.2 + 6) + 100) + 100) + 100) + 100) + 100) + 6)) := by
  refine pm_Mt.ofH (by decide) (by decide +kernel) rfl rfl ?_
  obtain ⟨d, rfl⟩ : ∃ d', d = d' + 1 := ⟨d - 1, by omega⟩
  refine pm_Wg.path (k := 4) (ds := []) (f' := (4, [some (.ref 0), some (.int a0), some (.ref 128), none], [.int a0, .ref 0, .int 0, .ref 128], cl_h (ct_x (.null) (.ref 320) v3 s0) g1 [.inl (1, 1, .inr (.inl (o)))] g3 (ct_p4 s4) (ct_e5 (.ref 256) (.ref 384) s5) g6 g7 [] g9 q)) tk_L_loadTrace (by omega) rfl trivial ?_
  refine pm_Wg.callC (m' := 99) (ix := 21) (rr := 138) (pl := 1103) (b := 0) (As := [.int a0]) (S := [.int 0, .ref 128]) (k := 3) (nx := 16) (pre := [(0, 9, 12, 19)]) (x := (0, 9, 15, 13)) (suf := []) (by decide) rfl (pm_dec tk_L_loadTrace rfl) rfl rfl (by decide) rfl rfl (by decide) (Nat.le_of_ble_eq_true rfl) rfl rfl (fun z hz => by
    rcases List.mem_cons.mp hz with hz0 | hz
    · subst hz0; exact ⟨by decide, _, px_l1, by decide +kernel⟩
    cases hz) (by decide +kernel) (by decide) px_l0 px_c0 (Or.inl ⟨3, by decide +kernel, rfl, rfl⟩) (Nat.le_of_ble_eq_true rfl) (fun z hz => by cases hz) (e_X8_loadTrace_E_t0 (by omega) H) ?_
  refine pm_Wg.path (k := 1) (ds := []) (f' := (17, [some (.ref 0), some (.int a0), some (.ref 128), none], [.int 2], cl_h (ct_x (.ref 512) (.ref 320) v3 z0) g1 [.inl (1, 1, .inr (.inl (o)))] g3 (ct_p4 s4) (ct_e5 (.ref 256) (.ref 384) z5) g6 g7 (ct_t8 z8) g9 (8, ((((((q.2.1 + 1) + 1) + 1) + 1) + 1) + 1) + 1, ((((((q.2.2 + 6) + 100) + 100) + 100) + 100) + 100) + 6))) tk_L_loadTrace (by omega) rfl trivial ?_
  exact pm_Wg.iret (pm_dec tk_L_loadTrace rfl) rfl rfl
set_option maxRecDepth 20000 in
set_option maxHeartbeats 20000000 in
theorem e_L_loadTrace_E_t1 {d : Nat} (hd : 10 ≤ d) {g1 g3 g6 g7 g9 : List pm_E} {v3 : Value} {q : Nat × Nat × Nat} {s0 : cs_S} {s4 : cs_S} {s5 : cs_S} {s8 : cs_S} {a0 : Int32} {z0 : cs_S} {z5 : cs_S} {z8 : cs_S} {o : Nat → Int64} (H : f_X8_loadTrace_E s0 s4 s5 s8 a0 = some (.inr 1, z0, z5, z8)) : pm_Mt 311 d [.ref 0, .int a0, .ref 128] (cl_h (ct_x (.null) (.ref 320) v3 s0) g1 [.inl (1, 1, .inr (.inl (o)))] g3 (ct_p4 s4) (ct_e5 (.ref 256) (.ref 384) s5) g6 g7 [] g9 q) (.inl (some (.int 1))) (cl_h (ct_x (.null) (.ref 320) v3 z0) g1 [.inl (1, 1, .inr (.inl (o)))] g3 (ct_p4 s4) (ct_e5 (.ref 256) (.ref 384) z5) g6 g7 [] g9 (q.1, q.2.1 + 1, q.2.2 + 6)) := by
  refine pm_Mt.ofH (by decide) (by decide +kernel) rfl rfl ?_
  obtain ⟨d, rfl⟩ : ∃ d', d = d' + 1 := ⟨d - 1, by omega⟩
  refine pm_Wg.path (k := 4) (ds := []) (f' := (4, [some (.ref 0), some (.int a0), some (.ref 128), none], [.int a0, .ref 0, .int 0, .ref 128], cl_h (ct_x (.null) (.ref 320) v3 s0) g1 [.inl (1, 1, .inr (.inl (o)))] g3 (ct_p4 s4) (ct_e5 (.ref 256) (.ref 384) s5) g6 g7 [] g9 q)) tk_L_loadTrace (by omega) rfl trivial ?_
  refine pm_Wg.callC (m' := 99) (ix := 21) (rr := 138) (pl := 1103) (b := 0) (As := [.int a0]) (S := [.int 0, .ref 128]) (k := 3) (nx := 13) (pre := []) (x := (0, 9, 12, 19)) (suf := [(0, 9, 15, 13)]) (by decide) rfl (pm_dec tk_L_loadTrace rfl) rfl rfl (by decide) rfl rfl (by decide) (Nat.le_of_ble_eq_true rfl) rfl rfl (fun z hz => by cases hz) (by decide +kernel) (by decide) px_l1 px_c1 (Or.inl ⟨3, by decide +kernel, rfl, rfl⟩) (Nat.le_of_ble_eq_true rfl) (fun z hz => by cases hz) (e_X8_loadTrace_E_t1 (by omega) H) ?_
  refine pm_Wg.path (k := 1) (ds := []) (f' := (14, [some (.ref 0), some (.int a0), some (.ref 128), none], [.int 1], cl_h (ct_x (.null) (.ref 320) v3 z0) g1 [.inl (1, 1, .inr (.inl (o)))] g3 (ct_p4 s4) (ct_e5 (.ref 256) (.ref 384) z5) g6 g7 [] g9 (q.1, q.2.1 + 1, q.2.2 + 6))) tk_L_loadTrace (by omega) rfl trivial ?_
  exact pm_Wg.iret (pm_dec tk_L_loadTrace rfl) rfl rfl

set_option maxRecDepth 20000 in
set_option maxHeartbeats 20000000 in
theorem e_L_loadTrace_D {d : Nat} (hd : 10 ≤ d) {g1 g3 g6 g7 g9 : List pm_E} {v3 : Value} {q : Nat × Nat × Nat} {s0 : cs_S} {s4 : cs_S} {s5 : cs_S} {s8 : cs_S} {a0 : Int32} {r : Int32} {z0 : cs_S} {z5 : cs_S} {z8 : cs_S} {o : Nat → Int64} (H : f_X8_loadTrace_D s0 s4 s5 s8 a0 = some (.inl r, z0, z5, z8)) : pm_Mt 311 d [.ref 0, .int a0, .ref 128] (cl_h (ct_x (.ref 512) (.ref 320) v3 s0) g1 [.inl (1, 1, .inr (.inl (o)))] g3 (ct_p4 s4) (ct_e5 (.ref 256) (.ref 384) s5) g6 g7 (ct_t8 s8) g9 q) (.inl (some (.int 0))) (cl_h (ct_x (.ref 384) (.ref 320) v3 z0) g1 [.inl (1, 1, .inr (.inl (vp_updL o (Int32.toNatClampNeg 0) (Int32.toInt64 r))))] g3 (ct_p4 s4) (ct_e5 (.ref 256) (.ref 512) z5) g6 g7 (ct_t8 z8) g9 q) := by
  refine pm_Mt.ofH (by decide) (by decide +kernel) rfl rfl ?_
  obtain ⟨d, rfl⟩ : ∃ d', d = d' + 1 := ⟨d - 1, by omega⟩
  refine pm_Wg.path (k := 4) (ds := []) (f' := (4, [some (.ref 0), some (.int a0), some (.ref 128), none], [.int a0, .ref 0, .int 0, .ref 128], cl_h (ct_x (.ref 512) (.ref 320) v3 s0) g1 [.inl (1, 1, .inr (.inl (o)))] g3 (ct_p4 s4) (ct_e5 (.ref 256) (.ref 384) s5) g6 g7 (ct_t8 s8) g9 q)) tk_L_loadTrace (by omega) rfl trivial ?_
  refine pm_Wg.callV (m' := 99) (ix := 21) (rr := 138) (pl := 1103) (b := 0) (As := [.int a0]) (S := [.int 0, .ref 128]) (by decide) rfl (pm_dec tk_L_loadTrace rfl) rfl rfl (by decide) rfl rfl (by decide) (Nat.le_of_ble_eq_true rfl) rfl (e_X8_loadTrace_D (by omega) H) ?_
  refine pm_Wg.path (k := 4) (ds := []) (f' := (19, [some (.ref 0), some (.int a0), some (.ref 128), none], [.int 0], cl_h (ct_x (.ref 384) (.ref 320) v3 z0) g1 [.inl (1, 1, .inr (.inl (vp_updL o (Int32.toNatClampNeg 0) (Int32.toInt64 r))))] g3 (ct_p4 s4) (ct_e5 (.ref 256) (.ref 512) z5) g6 g7 (ct_t8 z8) g9 q)) tk_L_loadTrace (by omega) rfl ⟨pm_inb_vp (i := 0) (n := 1) rfl, trivial⟩ ?_
  exact pm_Wg.iret (pm_dec tk_L_loadTrace rfl) rfl rfl
set_option maxRecDepth 20000 in
set_option maxHeartbeats 20000000 in
theorem e_L_loadTrace_D_t0 {d : Nat} (hd : 10 ≤ d) {g1 g3 g6 g7 g9 : List pm_E} {v3 : Value} {q : Nat × Nat × Nat} {s0 : cs_S} {s4 : cs_S} {s5 : cs_S} {s8 : cs_S} {a0 : Int32} {z0 : cs_S} {z5 : cs_S} {z8 : cs_S} {o : Nat → Int64} (H : f_X8_loadTrace_D s0 s4 s5 s8 a0 = some (.inr 0, z0, z5, z8)) : pm_Mt 311 d [.ref 0, .int a0, .ref 128] (cl_h (ct_x (.ref 512) (.ref 320) v3 s0) g1 [.inl (1, 1, .inr (.inl (o)))] g3 (ct_p4 s4) (ct_e5 (.ref 256) (.ref 384) s5) g6 g7 (ct_t8 s8) g9 q) (.inl (some (.int 2))) (cl_h (ct_x (.ref 512) (.ref 320) v3 z0) g1 [.inl (1, 1, .inr (.inl (o)))] g3 (ct_p4 s4) (ct_e5 (.ref 256) (.ref 384) z5) g6 g7 (ct_t8 z8) g9 (q.1, q.2.1 + 1, q.2.2 + 6)) := by
  refine pm_Mt.ofH (by decide) (by decide +kernel) rfl rfl ?_
  obtain ⟨d, rfl⟩ : ∃ d', d = d' + 1 := ⟨d - 1, by omega⟩
  refine pm_Wg.path (k := 4) (ds := []) (f' := (4, [some (.ref 0), some (.int a0), some (.ref 128), none], [.int a0, .ref 0, .int 0, .ref 128], cl_h (ct_x (.ref 512) (.ref 320) v3 s0) g1 [.inl (1, 1, .inr (.inl (o)))] g3 (ct_p4 s4) (ct_e5 (.ref 256) (.ref 384) s5) g6 g7 (ct_t8 s8) g9 q)) tk_L_loadTrace (by omega) rfl trivial ?_
  refine pm_Wg.callC (m' := 99) (ix := 21) (rr := 138) (pl := 1103) (b := 0) (As := [.int a0]) (S := [.int 0, .ref 128]) (k := 3) (nx := 16) (pre := [(0, 9, 12, 19)]) (x := (0, 9, 15, 13)) (suf := []) (by decide) rfl (pm_dec tk_L_loadTrace rfl) rfl rfl (by decide) rfl rfl (by decide) (Nat.le_of_ble_eq_true rfl) rfl rfl (fun z hz => by
    rcases List.mem_cons.mp hz with hz0 | hz
    · subst hz0; exact ⟨by decide, _, px_l1, by decide +kernel⟩
    cases hz) (by decide +kernel) (by decide) px_l0 px_c0 (Or.inl ⟨3, by decide +kernel, rfl, rfl⟩) (Nat.le_of_ble_eq_true rfl) (fun z hz => by cases hz) (e_X8_loadTrace_D_t0 (by omega) H) ?_
  refine pm_Wg.path (k := 1) (ds := []) (f' := (17, [some (.ref 0), some (.int a0), some (.ref 128), none], [.int 2], cl_h (ct_x (.ref 512) (.ref 320) v3 z0) g1 [.inl (1, 1, .inr (.inl (o)))] g3 (ct_p4 s4) (ct_e5 (.ref 256) (.ref 384) z5) g6 g7 (ct_t8 z8) g9 (q.1, q.2.1 + 1, q.2.2 + 6))) tk_L_loadTrace (by omega) rfl trivial ?_
  exact pm_Wg.iret (pm_dec tk_L_loadTrace rfl) rfl rfl
set_option maxRecDepth 20000 in
set_option maxHeartbeats 20000000 in
theorem e_L_loadTrace_D_t1 {d : Nat} (hd : 10 ≤ d) {g1 g3 g6 g7 g9 : List pm_E} {v3 : Value} {q : Nat × Nat × Nat} {s0 : cs_S} {s4 : cs_S} {s5 : cs_S} {s8 : cs_S} {a0 : Int32} {z0 : cs_S} {z5 : cs_S} {z8 : cs_S} {o : Nat → Int64} (H : f_X8_loadTrace_D s0 s4 s5 s8 a0 = some (.inr 1, z0, z5, z8)) : pm_Mt 311 d [.ref 0, .int a0, .ref 128] (cl_h (ct_x (.ref 512) (.ref 320) v3 s0) g1 [.inl (1, 1, .inr (.inl (o)))] g3 (ct_p4 s4) (ct_e5 (.ref 256) (.ref 384) s5) g6 g7 (ct_t8 s8) g9 q) (.inl (some (.int 1))) (cl_h (ct_x (.ref 512) (.ref 320) v3 z0) g1 [.inl (1, 1, .inr (.inl (o)))] g3 (ct_p4 s4) (ct_e5 (.ref 256) (.ref 384) z5) g6 g7 (ct_t8 z8) g9 (q.1, q.2.1 + 1, q.2.2 + 6)) := by
  refine pm_Mt.ofH (by decide) (by decide +kernel) rfl rfl ?_
  obtain ⟨d, rfl⟩ : ∃ d', d = d' + 1 := ⟨d - 1, by omega⟩
  refine pm_Wg.path (k := 4) (ds := []) (f' := (4, [some (.ref 0), some (.int a0), some (.ref 128), none], [.int a0, .ref 0, .int 0, .ref 128], cl_h (ct_x (.ref 512) (.ref 320) v3 s0) g1 [.inl (1, 1, .inr (.inl (o)))] g3 (ct_p4 s4) (ct_e5 (.ref 256) (.ref 384) s5) g6 g7 (ct_t8 s8) g9 q)) tk_L_loadTrace (by omega) rfl trivial ?_
  refine pm_Wg.callC (m' := 99) (ix := 21) (rr := 138) (pl := 1103) (b := 0) (As := [.int a0]) (S := [.int 0, .ref 128]) (k := 3) (nx := 13) (pre := []) (x := (0, 9, 12, 19)) (suf := [(0, 9, 15, 13)]) (by decide) rfl (pm_dec tk_L_loadTrace rfl) rfl rfl (by decide) rfl rfl (by decide) (Nat.le_of_ble_eq_true rfl) rfl rfl (fun z hz => by cases hz) (by decide +kernel) (by decide) px_l1 px_c1 (Or.inl ⟨3, by decide +kernel, rfl, rfl⟩) (Nat.le_of_ble_eq_true rfl) (fun z hz => by cases hz) (e_X8_loadTrace_D_t1 (by omega) H) ?_
  refine pm_Wg.path (k := 1) (ds := []) (f' := (14, [some (.ref 0), some (.int a0), some (.ref 128), none], [.int 1], cl_h (ct_x (.ref 512) (.ref 320) v3 z0) g1 [.inl (1, 1, .inr (.inl (o)))] g3 (ct_p4 s4) (ct_e5 (.ref 256) (.ref 384) z5) g6 g7 (ct_t8 z8) g9 (q.1, q.2.1 + 1, q.2.2 + 6))) tk_L_loadTrace (by omega) rfl trivial ?_
  exact pm_Wg.iret (pm_dec tk_L_loadTrace rfl) rfl rfl
