/-! What stands on floorDiv, by program (wip/whole/decc.py). -/
def f_J9_floorDiv_f86c9 (a0 : Int64) (a1 : Int64) : Option (Int64) :=
  (if a1 = 0 then none else
  (if 0 ≤ (lg_cmp (a0 ^^^ a1) 0) then
   some (a0 / a1)
  else
   (if (lg_cmp ((a0 / a1) * a1) a0) = 0 then
    some (a0 / a1)
   else
    some ((a0 / a1) - 1))))
def tb_J9_floorDiv_f86c9 : List pm_I := [(0, .lload_n 0, 0, 0), (1, .lload_n 2, 0, 0), (2, .ldiv, 0, 0), (3, .lstore 4, 0, 0), (5, .lload_n 0, 0, 0), (6, .lload_n 2, 0, 0), (7, .lxor, 0, 0), (8, .lconst 0, 0, 0), (9, .lcmp, 0, 0), (10, .ifCond .ge 17, 27, 0), (13, .lload 4, 0, 0), (15, .lload_n 2, 0, 0), (16, .lmul, 0, 0), (17, .lload_n 0, 0, 0), (18, .lcmp, 0, 0), (19, .ifCond .eq 8, 27, 0), (22, .lload 4, 0, 0), (24, .lconst 1, 1, 0), (25, .lsub, 0, 0), (26, .lreturn, 0, 0), (27, .lload 4, 0, 0), (29, .lreturn, 0, 0)]
theorem tk_J9_floorDiv_f86c9 : ∀ e ∈ tb_J9_floorDiv_f86c9, pm_ck 290 e = true := List.all_eq_true.mp (by decide +kernel)
set_option maxRecDepth 20000 in
set_option maxHeartbeats 20000000 in
theorem e_J9_floorDiv_f86c9 {d : Nat} (hd : 1 ≤ d) {g0 g1 g2 g3 g4 g5 g6 g7 g8 g9 : List pm_E} {q : Nat × Nat × Nat} {a0 : Int64} {a1 : Int64} {r : Int64} (H : f_J9_floorDiv_f86c9 a0 a1 = some r) : pm_Mt 290 d [.long a0, .long a1] (cl_h g0 g1 g2 g3 g4 g5 g6 g7 g8 g9 q) (.inl (some (.long r))) (cl_h g0 g1 g2 g3 g4 g5 g6 g7 g8 g9 q) := by
  refine pm_Mt.ofF (by decide) (by decide +kernel) rfl rfl ?_
  unfold f_J9_floorDiv_f86c9 at H
  by_cases b1 : a1 = 0
  · rw [if_pos b1] at H; cases H
  rw [if_neg b1] at H
  by_cases h2 : 0 ≤ (lg_cmp (a0 ^^^ a1) 0)
  · rw [if_pos h2] at H
    have J := Option.some.inj H
    subst J
    refine pm_Wg.path (k := 11) (ds := [1]) (f' := (29, [some (.long a0), none, some (.long a1), none, some (.long (a0 / a1)), none], [.long (a0 / a1)], cl_h g0 g1 g2 g3 g4 g5 g6 g7 g8 g9 q)) tk_J9_floorDiv_f86c9 (by omega) rfl ⟨h2, b1, trivial⟩ ?_
    exact pm_Wg.lret (pm_dec tk_J9_floorDiv_f86c9 rfl) rfl
  · rw [if_neg h2] at H
    by_cases h3 : (lg_cmp ((a0 / a1) * a1) a0) = 0
    · rw [if_pos h3] at H
      have J := Option.some.inj H
      subst J
      refine pm_Wg.path (k := 17) (ds := [0, 1]) (f' := (29, [some (.long a0), none, some (.long a1), none, some (.long (a0 / a1)), none], [.long (a0 / a1)], cl_h g0 g1 g2 g3 g4 g5 g6 g7 g8 g9 q)) tk_J9_floorDiv_f86c9 (by omega) rfl ⟨h3, h2, b1, trivial⟩ ?_
      exact pm_Wg.lret (pm_dec tk_J9_floorDiv_f86c9 rfl) rfl
    · rw [if_neg h3] at H
      have J := Option.some.inj H
      subst J
      refine pm_Wg.path (k := 19) (ds := [0, 0]) (f' := (26, [some (.long a0), none, some (.long a1), none, some (.long (a0 / a1)), none], [.long ((a0 / a1) - 1)], cl_h g0 g1 g2 g3 g4 g5 g6 g7 g8 g9 q)) tk_J9_floorDiv_f86c9 (by omega) rfl ⟨h3, h2, b1, trivial⟩ ?_
      exact pm_Wg.lret (pm_dec tk_J9_floorDiv_f86c9 rfl) rfl

def f_X3_roundedUp (a0 : Int64) : Option (Int64) :=
  (match f_J9_floorDiv_f86c9 (-a0) 1000 with
  | none => none
  | some r1 =>
   some (-r1))
def tb_X3_roundedUp : List pm_I := [(0, .lload_n 0, 0, 0), (1, .lneg, 0, 0), (2, .ldc2_w 72, 1, 0), (5, .invokestatic 126, 33, 0), (8, .lneg, 0, 0), (9, .lreturn, 0, 0)]
theorem tk_X3_roundedUp : ∀ e ∈ tb_X3_roundedUp, pm_ck 60 e = true := List.all_eq_true.mp (by decide +kernel)
set_option maxRecDepth 20000 in
set_option maxHeartbeats 20000000 in
theorem e_X3_roundedUp {d : Nat} (hd : 2 ≤ d) {g0 g1 g2 g3 g4 g5 g6 g7 g8 g9 : List pm_E} {q : Nat × Nat × Nat} {a0 : Int64} {r : Int64} (H : f_X3_roundedUp a0 = some r) : pm_Mt 60 d [.long a0] (cl_h g0 g1 g2 g3 g4 g5 g6 g7 g8 g9 q) (.inl (some (.long r))) (cl_h g0 g1 g2 g3 g4 g5 g6 g7 g8 g9 q) := by
  refine pm_Mt.of (by decide) (by decide +kernel) rfl rfl ?_
  obtain ⟨d, rfl⟩ : ∃ d', d = d' + 1 := ⟨d - 1, by omega⟩
  unfold f_X3_roundedUp at H
  cases q2 : f_J9_floorDiv_f86c9 (-a0) 1000 with
  | none => rw [q2] at H; cases H
  | some r1 =>
   rw [q2] at H
   dsimp only at H
   refine pm_Wg.path (k := 3) (ds := []) (f' := (5, [some (.long a0), none], [.long 1000, .long (-a0)], cl_h g0 g1 g2 g3 g4 g5 g6 g7 g8 g9 q)) tk_X3_roundedUp (by omega) rfl trivial ?_
   refine pm_Wg.callS (m' := 290) (ix := 126) (rr := 33) (pl := 556) (As := [.long (-a0), .long 1000]) (S := []) (by decide) rfl (pm_dec tk_X3_roundedUp rfl) rfl rfl rfl (Nat.le_of_ble_eq_true rfl) rfl (e_J9_floorDiv_f86c9 (by omega) q2) ?_
   have J := Option.some.inj H
   subst J
   refine pm_Wg.path (k := 1) (ds := []) (f' := (9, [some (.long a0), none], [.long (-r1)], cl_h g0 g1 g2 g3 g4 g5 g6 g7 g8 g9 q)) tk_X3_roundedUp (by omega) rfl trivial ?_
   exact pm_Wg.lret (pm_dec tk_X3_roundedUp rfl) rfl

def f_X3_choosableFrom (s5 : cs_S) (a0 : Int32) (a1 : Int32) : Option (Int64) :=
  (match pm_inb a0 3248 with
  | false => none
  | true =>
  (match f_X3_roundedUp (s5.2.2 10 (Int32.toNatClampNeg a0)) with
  | none => none
  | some r2 =>
   (match f_X3_hasTagR s5 a0 with
   | none => none
   | some r4 =>
    (if r4 = 0 then
     (if (s5.2.1 11 (Int32.toNatClampNeg a0)) = (-1) then
      some r2
     else
      some (if ((Int32.toInt64 (s5.2.1 11 (Int32.toNatClampNeg a0))) - (Int32.toInt64 a1)) < r2 then ((Int32.toInt64 (s5.2.1 11 (Int32.toNatClampNeg a0))) - (Int32.toInt64 a1)) else r2))
    else
     (match f_X3_roundedUp (s5.2.2 8 (Int32.toNatClampNeg a0)) with
     | none => none
     | some r11 =>
      (if (s5.2.1 11 (Int32.toNatClampNeg a0)) = (-1) then
       some (if r11 < r2 then r11 else r2)
      else
       some (if ((Int32.toInt64 (s5.2.1 11 (Int32.toNatClampNeg a0))) - (Int32.toInt64 a1)) < (if r11 < r2 then r11 else r2) then ((Int32.toInt64 (s5.2.1 11 (Int32.toNatClampNeg a0))) - (Int32.toInt64 a1)) else (if r11 < r2 then r11 else r2))))))))
def tb_X3_choosableFrom : List pm_I := [(0, .aload_n 0, 0, 0), (1, .getfield 37, 28, 0), (4, .iload_n 1, 0, 0), (5, .laload, 0, 0), (6, .invokestatic 122, 32, 0), (9, .lstore_n 3, 0, 0), (10, .aload_n 0, 0, 0), (11, .iload_n 1, 0, 0), (12, .invokevirtual 94, 34, 0), (15, .ifCond .eq 17, 32, 0), (18, .lload_n 3, 0, 0), (19, .aload_n 0, 0, 0), (20, .getfield 31, 24, 0), (23, .iload_n 1, 0, 0), (24, .laload, 0, 0), (25, .invokestatic 122, 32, 0), (28, .invokestatic 120, 35, 6), (31, .lstore_n 3, 0, 0), (32, .aload_n 0, 0, 0), (33, .getfield 40, 30, 0), (36, .iload_n 1, 0, 0), (37, .iaload, 0, 0), (38, .iconst (-1), 1, 0), (39, .if_icmp .eq 18, 57, 0), (42, .lload_n 3, 0, 0), (43, .aload_n 0, 0, 0), (44, .getfield 40, 30, 0), (47, .iload_n 1, 0, 0), (48, .iaload, 0, 0), (49, .i2l, 0, 0), (50, .iload_n 2, 0, 0), (51, .i2l, 0, 0), (52, .lsub, 0, 0), (53, .invokestatic 120, 35, 6), (56, .lstore_n 3, 0, 0), (57, .lload_n 3, 0, 0), (58, .lreturn, 0, 0)]
theorem tk_X3_choosableFrom : ∀ e ∈ tb_X3_choosableFrom, pm_ck 59 e = true := List.all_eq_true.mp (by decide +kernel)
set_option maxRecDepth 20000 in
set_option maxHeartbeats 20000000 in
theorem e_X3_choosableFrom {d : Nat} (hd : 3 ≤ d) {g0 g1 g2 g3 g4 g6 g7 g8 g9 : List pm_E} {p5 t5 : Value} {q : Nat × Nat × Nat} {s5 : cs_S} {a0 : Int32} {a1 : Int32} {r : Int64} (H : f_X3_choosableFrom s5 a0 a1 = some r) : pm_Mt 59 d [.ref 321, .int a0, .int a1] (cl_h g0 g1 g2 g3 g4 (ct_e5 p5 t5 s5) g6 g7 g8 g9 q) (.inl (some (.long r))) (cl_h g0 g1 g2 g3 g4 (ct_e5 p5 t5 s5) g6 g7 g8 g9 q) := by
  refine pm_Mt.of (by decide) (by decide +kernel) rfl rfl ?_
  obtain ⟨d, rfl⟩ : ∃ d', d = d' + 1 := ⟨d - 1, by omega⟩
  unfold f_X3_choosableFrom at H
  cases b1 : pm_inb a0 3248 with
  | false => rw [b1] at H; cases H
  | true =>
   rw [b1] at H
   dsimp only at H
   cases q3 : f_X3_roundedUp (s5.2.2 10 (Int32.toNatClampNeg a0)) with
   | none => rw [q3] at H; cases H
   | some r2 =>
    rw [q3] at H
    dsimp only at H
    refine pm_Wg.path (k := 4) (ds := []) (f' := (6, [some (.ref 321), some (.int a0), some (.int a1), none, none], [.long (s5.2.2 10 (Int32.toNatClampNeg a0))], cl_h g0 g1 g2 g3 g4 (ct_e5 p5 t5 s5) g6 g7 g8 g9 q)) tk_X3_choosableFrom (by omega) rfl ⟨pm_inb_vp b1, trivial⟩ ?_
    refine pm_Wg.callS (m' := 60) (ix := 122) (rr := 32) (pl := 552) (As := [.long (s5.2.2 10 (Int32.toNatClampNeg a0))]) (S := []) (by decide) rfl (pm_dec tk_X3_choosableFrom rfl) rfl rfl rfl (Nat.le_of_ble_eq_true rfl) rfl (e_X3_roundedUp (by omega) q3) ?_
    cases q5 : f_X3_hasTagR s5 a0 with
    | none => rw [q5] at H; cases H
    | some r4 =>
     rw [q5] at H
     dsimp only at H
     refine pm_Wg.path (k := 3) (ds := []) (f' := (12, [some (.ref 321), some (.int a0), some (.int a1), some (.long r2), none], [.int a0, .ref 321], cl_h g0 g1 g2 g3 g4 (ct_e5 p5 t5 s5) g6 g7 g8 g9 q)) tk_X3_choosableFrom (by omega) rfl trivial ?_
     refine pm_Wg.callV (m' := 50) (ix := 94) (rr := 34) (pl := 559) (b := 321) (As := [.int a0]) (S := []) (by decide) rfl (pm_dec tk_X3_choosableFrom rfl) rfl rfl (by decide) rfl rfl (by decide) (Nat.le_of_ble_eq_true rfl) rfl (e_X3_hasTagR (by omega) q5) ?_
     by_cases h6 : r4 = 0
     · rw [if_pos h6] at H
       by_cases h8 : (s5.2.1 11 (Int32.toNatClampNeg a0)) = (-1)
       · rw [if_pos h8] at H
         have J := Option.some.inj H
         subst J
         refine pm_Wg.path (k := 8) (ds := [1, 1]) (f' := (58, [some (.ref 321), some (.int a0), some (.int a1), some (.long r2), none], [.long r2], cl_h g0 g1 g2 g3 g4 (ct_e5 p5 t5 s5) g6 g7 g8 g9 q)) tk_X3_choosableFrom (by omega) rfl ⟨h8, pm_inb_vp b1, h6, trivial⟩ ?_
         exact pm_Wg.lret (pm_dec tk_X3_choosableFrom rfl) rfl
       · rw [if_neg h8] at H
         have J := Option.some.inj H
         subst J
         refine pm_Wg.path (k := 19) (ds := [1, 0]) (f' := (58, [some (.ref 321), some (.int a0), some (.int a1), some (.long (if ((Int32.toInt64 (s5.2.1 11 (Int32.toNatClampNeg a0))) - (Int32.toInt64 a1)) < r2 then ((Int32.toInt64 (s5.2.1 11 (Int32.toNatClampNeg a0))) - (Int32.toInt64 a1)) else r2)), none], [.long (if ((Int32.toInt64 (s5.2.1 11 (Int32.toNatClampNeg a0))) - (Int32.toInt64 a1)) < r2 then ((Int32.toInt64 (s5.2.1 11 (Int32.toNatClampNeg a0))) - (Int32.toInt64 a1)) else r2)], cl_h g0 g1 g2 g3 g4 (ct_e5 p5 t5 s5) g6 g7 g8 g9 q)) tk_X3_choosableFrom (by omega) rfl ⟨pm_inb_vp b1, h8, pm_inb_vp b1, h6, trivial⟩ ?_
         exact pm_Wg.lret (pm_dec tk_X3_choosableFrom rfl) rfl
     · rw [if_neg h6] at H
       cases q12 : f_X3_roundedUp (s5.2.2 8 (Int32.toNatClampNeg a0)) with
       | none => rw [q12] at H; cases H
       | some r11 =>
        rw [q12] at H
        dsimp only at H
        refine pm_Wg.path (k := 6) (ds := [0]) (f' := (25, [some (.ref 321), some (.int a0), some (.int a1), some (.long r2), none], [.long (s5.2.2 8 (Int32.toNatClampNeg a0)), .long r2], cl_h g0 g1 g2 g3 g4 (ct_e5 p5 t5 s5) g6 g7 g8 g9 q)) tk_X3_choosableFrom (by omega) rfl ⟨pm_inb_vp b1, h6, trivial⟩ ?_
        refine pm_Wg.callS (m' := 60) (ix := 122) (rr := 32) (pl := 552) (As := [.long (s5.2.2 8 (Int32.toNatClampNeg a0))]) (S := [.long r2]) (by decide) rfl (pm_dec tk_X3_choosableFrom rfl) rfl rfl rfl (Nat.le_of_ble_eq_true rfl) rfl (e_X3_roundedUp (by omega) q12) ?_
        by_cases h14 : (s5.2.1 11 (Int32.toNatClampNeg a0)) = (-1)
        · rw [if_pos h14] at H
          have J := Option.some.inj H
          subst J
          refine pm_Wg.path (k := 9) (ds := [1]) (f' := (58, [some (.ref 321), some (.int a0), some (.int a1), some (.long (if r11 < r2 then r11 else r2)), none], [.long (if r11 < r2 then r11 else r2)], cl_h g0 g1 g2 g3 g4 (ct_e5 p5 t5 s5) g6 g7 g8 g9 q)) tk_X3_choosableFrom (by omega) rfl ⟨h14, pm_inb_vp b1, trivial⟩ ?_
          exact pm_Wg.lret (pm_dec tk_X3_choosableFrom rfl) rfl
        · rw [if_neg h14] at H
          have J := Option.some.inj H
          subst J
          refine pm_Wg.path (k := 20) (ds := [0]) (f' := (58, [some (.ref 321), some (.int a0), some (.int a1), some (.long (if ((Int32.toInt64 (s5.2.1 11 (Int32.toNatClampNeg a0))) - (Int32.toInt64 a1)) < (if r11 < r2 then r11 else r2) then ((Int32.toInt64 (s5.2.1 11 (Int32.toNatClampNeg a0))) - (Int32.toInt64 a1)) else (if r11 < r2 then r11 else r2))), none], [.long (if ((Int32.toInt64 (s5.2.1 11 (Int32.toNatClampNeg a0))) - (Int32.toInt64 a1)) < (if r11 < r2 then r11 else r2) then ((Int32.toInt64 (s5.2.1 11 (Int32.toNatClampNeg a0))) - (Int32.toInt64 a1)) else (if r11 < r2 then r11 else r2))], cl_h g0 g1 g2 g3 g4 (ct_e5 p5 t5 s5) g6 g7 g8 g9 q)) tk_X3_choosableFrom (by omega) rfl ⟨pm_inb_vp b1, h14, pm_inb_vp b1, trivial⟩ ?_
          exact pm_Wg.lret (pm_dec tk_X3_choosableFrom rfl) rfl

def lb_X3_earliestChoice_7 (s4 : cs_S) (s5 : cs_S) (x : Int32 × Int64 × Int32) : Option ((Int32 × Int64 × Int32) ⊕ (Int64)) := match x with
  | (l1, l3, l5) =>
   (if (s4.1 0 7) ≤ l5 then
    some (.inr l3)
   else
    (match f_X3_numberOf l1 l5 with
    | none => none
    | some r2 =>
     (match pm_inb r2 42 with
     | false => none
     | true =>
     (if (s5.2.1 4 (Int32.toNatClampNeg r2)) ≤ 0 then
      some (.inl (l1, l3, (l5 + 1)))
     else
      (match f_X3_choosableFrom s5 (s5.2.1 2 (Int32.toNatClampNeg r2)) (s4.1 0 6) with
      | none => none
      | some r7 =>
       some (.inl (l1, (if r7 < l3 then r7 else l3), (l5 + 1))))))))
def f_X3_earliestChoice (s4 : cs_S) (s5 : cs_S) (a0 : Int32) : Option (Int64) :=
  (pm_loop pm_fu (lb_X3_earliestChoice_7 s4 s5) (a0, 1152921504606846976, 0))
def tb_X3_earliestChoice : List pm_I := [(0, .ldc2_w 98, 0, 0), (3, .lstore_n 3, 0, 0), (4, .iconst 0, 2, 0), (5, .istore 5, 0, 0), (7, .iload 5, 0, 0), (9, .aload_n 2, 0, 0), (10, .getfield 102, 135, 0), (13, .if_icmp .ge 47, 60, 0), (16, .iload_n 1, 0, 0), (17, .iload 5, 0, 0), (19, .invokestatic 106, 30, 0), (22, .istore 6, 0, 0), (24, .aload_n 0, 0, 0), (25, .getfield 18, 18, 0), (28, .iload 6, 0, 0), (30, .iaload, 0, 0), (31, .ifCond .le 23, 54, 0), (34, .lload_n 3, 0, 0), (35, .aload_n 0, 0, 0), (36, .aload_n 0, 0, 0), (37, .getfield 11, 15, 0), (40, .iload 6, 0, 0), (42, .iaload, 0, 0), (43, .aload_n 2, 0, 0), (44, .getfield 109, 130, 0), (47, .invokevirtual 116, 31, 0), (50, .invokestatic 120, 35, 6), (53, .lstore_n 3, 0, 0), (54, .iinc 5 1, 3, 0), (57, .goto (-50), 7, 0), (60, .lload_n 3, 0, 0), (61, .lreturn, 0, 0)]
theorem tk_X3_earliestChoice : ∀ e ∈ tb_X3_earliestChoice, pm_ck 58 e = true := List.all_eq_true.mp (by decide +kernel)
set_option maxRecDepth 20000 in
set_option maxHeartbeats 40000000 in
theorem ll_X3_earliestChoice_7 {d : Nat} (hd : 4 ≤ d) {g0 g1 g2 g3 g6 g7 g8 g9 : List pm_E} {p5 t5 : Value} {q : Nat × Nat × Nat} {s4 : cs_S} {s5 : cs_S} {r : Int64} (P : Int64 → Prop) (K0 : ∀ e : Int64, P (e) → e = r) : ∀ (n : Nat) (l1 : Int32) (l3 : Int64) (l5 : Int32) (e : Int64), pm_loop n (lb_X3_earliestChoice_7 s4 s5) (l1, l3, l5) = some e → P e → pm_Wg 58 d (.inl (some (.long r))) (cl_h g0 g1 g2 g3 (ct_p4 s4) (ct_e5 p5 t5 s5) g6 g7 g8 g9 q) (7, [some (.ref 321), some (.int l1), some (.ref 256), some (.long l3), none, some (.int l5), none], [], cl_h g0 g1 g2 g3 (ct_p4 s4) (ct_e5 p5 t5 s5) g6 g7 g8 g9 q) := by
  intro n
  induction n with
  | zero => intro l1 l3 l5 e H; cases H
  | succ n ih =>
    intro l1 l3 l5 e H hPe
    obtain ⟨d, rfl⟩ : ∃ d', d = d' + 1 := ⟨d - 1, by omega⟩
    have H : pm_lst (pm_loop n (lb_X3_earliestChoice_7 s4 s5)) (lb_X3_earliestChoice_7 s4 s5 (l1, l3, l5)) = some e := H
    generalize pm_loop n (lb_X3_earliestChoice_7 s4 s5) = LB at H ih
    unfold lb_X3_earliestChoice_7 at H
    try dsimp only at H
    by_cases h1 : (s4.1 0 7) ≤ l5
    · rw [if_pos h1] at H
      have He := Option.some.inj H
      subst He
      have J := K0 _ hPe
      subst J
      refine pm_Wg.path (k := 5) (ds := [1]) (f' := (61, [some (.ref 321), some (.int l1), some (.ref 256), some (.long l3), none, some (.int l5), none], [.long l3], cl_h g0 g1 g2 g3 (ct_p4 s4) (ct_e5 p5 t5 s5) g6 g7 g8 g9 q)) tk_X3_earliestChoice (by omega) rfl ⟨h1, trivial⟩ ?_
      exact pm_Wg.lret (pm_dec tk_X3_earliestChoice rfl) rfl
    · rw [if_neg h1] at H
      cases q3 : f_X3_numberOf l1 l5 with
      | none => rw [q3] at H; cases H
      | some r2 =>
       rw [q3] at H
       dsimp only at H
       refine pm_Wg.path (k := 6) (ds := [0]) (f' := (19, [some (.ref 321), some (.int l1), some (.ref 256), some (.long l3), none, some (.int l5), none], [.int l5, .int l1], cl_h g0 g1 g2 g3 (ct_p4 s4) (ct_e5 p5 t5 s5) g6 g7 g8 g9 q)) tk_X3_earliestChoice (by omega) rfl ⟨h1, trivial⟩ ?_
       refine pm_Wg.callS (m' := 42) (ix := 106) (rr := 30) (pl := 545) (As := [.int l1, .int l5]) (S := []) (by decide) rfl (pm_dec tk_X3_earliestChoice rfl) rfl rfl rfl (Nat.le_of_ble_eq_true rfl) rfl (e_X3_numberOf (by omega) q3) ?_
       cases b4 : pm_inb r2 42 with
       | false => rw [b4] at H; cases H
       | true =>
        rw [b4] at H
        dsimp only at H
        by_cases h5 : (s5.2.1 4 (Int32.toNatClampNeg r2)) ≤ 0
        · rw [if_pos h5] at H
          refine pm_Wg.path (k := 8) (ds := [1]) (f' := (7, [some (.ref 321), some (.int l1), some (.ref 256), some (.long l3), none, some (.int (l5 + 1)), some (.int r2)], [], cl_h g0 g1 g2 g3 (ct_p4 s4) (ct_e5 p5 t5 s5) g6 g7 g8 g9 q)) tk_X3_earliestChoice (by omega) rfl ⟨h5, pm_inb_vp b4, trivial⟩ ?_
          refine pm_Wg.weak (L := [some (.ref 321), some (.int l1), some (.ref 256), some (.long l3), none, some (.int (l5 + 1)), none]) rfl ⟨rfl, rfl, rfl, rfl, rfl, trivial⟩ ?_
          exact ih _ _ _ e H hPe
        · rw [if_neg h5] at H
          cases q8 : f_X3_choosableFrom s5 (s5.2.1 2 (Int32.toNatClampNeg r2)) (s4.1 0 6) with
          | none => rw [q8] at H; cases H
          | some r7 =>
           rw [q8] at H
           dsimp only at H
           refine pm_Wg.path (k := 14) (ds := [0]) (f' := (47, [some (.ref 321), some (.int l1), some (.ref 256), some (.long l3), none, some (.int l5), some (.int r2)], [.int (s4.1 0 6), .int (s5.2.1 2 (Int32.toNatClampNeg r2)), .ref 321, .long l3], cl_h g0 g1 g2 g3 (ct_p4 s4) (ct_e5 p5 t5 s5) g6 g7 g8 g9 q)) tk_X3_earliestChoice (by omega) rfl ⟨pm_inb_vp b4, h5, pm_inb_vp b4, trivial⟩ ?_
           refine pm_Wg.callV (m' := 59) (ix := 116) (rr := 31) (pl := 548) (b := 321) (As := [.int (s5.2.1 2 (Int32.toNatClampNeg r2)), .int (s4.1 0 6)]) (S := [.long l3]) (by decide) rfl (pm_dec tk_X3_earliestChoice rfl) rfl rfl (by decide) rfl rfl (by decide) (Nat.le_of_ble_eq_true rfl) rfl (e_X3_choosableFrom (by omega) q8) ?_
           refine pm_Wg.path (k := 4) (ds := []) (f' := (7, [some (.ref 321), some (.int l1), some (.ref 256), some (.long (if r7 < l3 then r7 else l3)), none, some (.int (l5 + 1)), some (.int r2)], [], cl_h g0 g1 g2 g3 (ct_p4 s4) (ct_e5 p5 t5 s5) g6 g7 g8 g9 q)) tk_X3_earliestChoice (by omega) rfl trivial ?_
           refine pm_Wg.weak (L := [some (.ref 321), some (.int l1), some (.ref 256), some (.long (if r7 < l3 then r7 else l3)), none, some (.int (l5 + 1)), none]) rfl ⟨rfl, rfl, rfl, rfl, rfl, trivial⟩ ?_
           exact ih _ _ _ e H hPe
set_option maxRecDepth 20000 in
set_option maxHeartbeats 20000000 in
theorem e_X3_earliestChoice {d : Nat} (hd : 4 ≤ d) {g0 g1 g2 g3 g6 g7 g8 g9 : List pm_E} {p5 t5 : Value} {q : Nat × Nat × Nat} {s4 : cs_S} {s5 : cs_S} {a0 : Int32} {r : Int64} (H : f_X3_earliestChoice s4 s5 a0 = some r) : pm_Mt 58 d [.ref 321, .int a0, .ref 256] (cl_h g0 g1 g2 g3 (ct_p4 s4) (ct_e5 p5 t5 s5) g6 g7 g8 g9 q) (.inl (some (.long r))) (cl_h g0 g1 g2 g3 (ct_p4 s4) (ct_e5 p5 t5 s5) g6 g7 g8 g9 q) := by
  refine pm_Mt.of (by decide) (by decide +kernel) rfl rfl ?_
  obtain ⟨d, rfl⟩ : ∃ d', d = d' + 1 := ⟨d - 1, by omega⟩
  unfold f_X3_earliestChoice at H
  refine pm_Wg.path (k := 4) (ds := []) (f' := (7, [some (.ref 321), some (.int a0), some (.ref 256), some (.long 1152921504606846976), none, some (.int 0), none], [], cl_h g0 g1 g2 g3 (ct_p4 s4) (ct_e5 p5 t5 s5) g6 g7 g8 g9 q)) tk_X3_earliestChoice (by omega) rfl trivial ?_
  exact ll_X3_earliestChoice_7 (by omega) (fun e => e = r) (fun e he => he) pm_fu _ _ _ _ H rfl

def lb_X1_nextEvent_38 (s4 : cs_S) (s5 : cs_S) (s6 : cs_S) (x : Int32 × Int64 × Int32) : Option ((Int32 × Int64 × Int32) ⊕ (Int32)) := match x with
  | (l1, l2, l4) =>
   (if (s4.1 0 0) < l4 then
    some (.inr (Int64.toInt32 (if (Int32.toInt64 ((s5.1 0 4) + 1)) < l2 then l2 else (Int32.toInt64 ((s5.1 0 4) + 1)))))
   else
    (match pm_inb l4 7 with
    | false => none
    | true =>
    (if (s5.2.1 14 (Int32.toNatClampNeg l4)) = (-1) then
     (match f_X3_earliestChoice s4 s5 l4 with
     | none => none
     | some r7 =>
      some (.inl (l1, (if r7 < l2 then r7 else l2), (l4 + 1))))
    else
     some (.inl (l1, (if (Int32.toInt64 (s5.2.1 15 (Int32.toNatClampNeg l4))) < l2 then (Int32.toInt64 (s5.2.1 15 (Int32.toNatClampNeg l4))) else l2), (l4 + 1))))))
def f_X1_nextEvent (s4 : cs_S) (s5 : cs_S) (s6 : cs_S) (a0 : Int32) : Option (Int32) :=
  (if (s6.1 0 0) ≤ (s5.1 0 2) then
   (pm_loop pm_fu (lb_X1_nextEvent_38 s4 s5 s6) (a0, (Int32.toInt64 a0), 0))
  else
   (match pm_inb (s5.1 0 2) 100 with
   | false => none
   | true =>
   (pm_loop pm_fu (lb_X1_nextEvent_38 s4 s5 s6) (a0, (if (Int32.toInt64 (s6.2.1 1 (Int32.toNatClampNeg (s5.1 0 2)))) < (Int32.toInt64 a0) then (Int32.toInt64 (s6.2.1 1 (Int32.toNatClampNeg (s5.1 0 2)))) else (Int32.toInt64 a0)), 0))))
def tb_X1_nextEvent : List pm_I := [(0, .iload_n 1, 0, 0), (1, .i2l, 0, 0), (2, .lstore_n 2, 0, 0), (3, .aload_n 0, 0, 0), (4, .getfield 9, 101, 0), (7, .aload_n 0, 0, 0), (8, .getfield 53, 99, 0), (11, .getfield 57, 147, 0), (14, .if_icmp .ge 21, 35, 0), (17, .lload_n 2, 0, 0), (18, .aload_n 0, 0, 0), (19, .getfield 53, 99, 0), (22, .getfield 204, 150, 0), (25, .aload_n 0, 0, 0), (26, .getfield 9, 101, 0), (29, .iaload, 0, 0), (30, .i2l, 0, 0), (31, .invokestatic 207, 28, 6), (34, .lstore_n 2, 0, 0), (35, .iconst 0, 2, 0), (36, .istore 4, 0, 0), (38, .iload 4, 0, 0), (40, .aload_n 0, 0, 0), (41, .getfield 49, 97, 0), (44, .getfield 112, 116, 0), (47, .if_icmp .gt 67, 114, 0), (50, .aload_n 0, 0, 0), (51, .getfield 31, 109, 0), (54, .getfield 213, 33, 0), (57, .iload 4, 0, 0), (59, .iaload, 0, 0), (60, .iconst (-1), 1, 0), (61, .if_icmp .ne 7, 68, 0), (64, .iconst 1, 3, 0), (65, .goto 4, 69, 0), (68, .iconst 0, 2, 0), (69, .istore 5, 0, 0), (71, .lload_n 2, 0, 0), (72, .iload 5, 0, 0), (74, .ifCond .eq 19, 93, 0), (77, .aload_n 0, 0, 0), (78, .getfield 24, 107, 0), (81, .iload 4, 0, 0), (83, .aload_n 0, 0, 0), (84, .getfield 49, 97, 0), (87, .invokevirtual 216, 29, 0), (90, .goto 14, 104, 0), (93, .aload_n 0, 0, 0), (94, .getfield 31, 109, 0), (97, .getfield 220, 36, 0), (100, .iload 4, 0, 0), (102, .iaload, 0, 0), (103, .i2l, 0, 0), (104, .invokestatic 207, 28, 6), (107, .lstore_n 2, 0, 0), (108, .iinc 4 1, 3, 0), (111, .goto (-73), 38, 0), (114, .lload_n 2, 0, 0), (115, .aload_n 0, 0, 0), (116, .getfield 18, 105, 0), (119, .iconst 1, 3, 0), (120, .iadd, 0, 0), (121, .i2l, 0, 0), (122, .invokestatic 223, 36, 5), (125, .l2i, 0, 0), (126, .ireturn, 0, 0)]
theorem tk_X1_nextEvent : ∀ e ∈ tb_X1_nextEvent, pm_ck 17 e = true := List.all_eq_true.mp (by decide +kernel)
set_option maxRecDepth 20000 in
set_option maxHeartbeats 40000000 in
theorem ll_X1_nextEvent_38 {d : Nat} (hd : 5 ≤ d) {g0 g1 g2 g3 g7 g8 g9 : List pm_E} {q : Nat × Nat × Nat} {s4 : cs_S} {s5 : cs_S} {s6 : cs_S} {r : Int32} (P : Int32 → Prop) (K0 : ∀ e : Int32, P (e) → e = r) : ∀ (n : Nat) (l1 : Int32) (l2 : Int64) (l4 : Int32) (e : Int32), pm_loop n (lb_X1_nextEvent_38 s4 s5 s6) (l1, l2, l4) = some e → P e → pm_Wg 17 d (.inl (some (.int r))) (cl_h g0 g1 g2 g3 (ct_p4 s4) (ct_e5 (.ref 256) (.ref 384) s5) (ct_t6 s6) g7 g8 g9 q) (38, [some (.ref 320), some (.int l1), some (.long l2), none, some (.int l4), none], [], cl_h g0 g1 g2 g3 (ct_p4 s4) (ct_e5 (.ref 256) (.ref 384) s5) (ct_t6 s6) g7 g8 g9 q) := by
  intro n
  induction n with
  | zero => intro l1 l2 l4 e H; cases H
  | succ n ih =>
    intro l1 l2 l4 e H hPe
    obtain ⟨d, rfl⟩ : ∃ d', d = d' + 1 := ⟨d - 1, by omega⟩
    have H : pm_lst (pm_loop n (lb_X1_nextEvent_38 s4 s5 s6)) (lb_X1_nextEvent_38 s4 s5 s6 (l1, l2, l4)) = some e := H
    generalize pm_loop n (lb_X1_nextEvent_38 s4 s5 s6) = LB at H ih
    unfold lb_X1_nextEvent_38 at H
    try dsimp only at H
    by_cases h3 : (s4.1 0 0) < l4
    · rw [if_pos h3] at H
      have He := Option.some.inj H
      subst He
      have J := K0 _ hPe
      subst J
      refine pm_Wg.path (k := 13) (ds := [1]) (f' := (126, [some (.ref 320), some (.int l1), some (.long l2), none, some (.int l4), none], [.int (Int64.toInt32 (if (Int32.toInt64 ((s5.1 0 4) + 1)) < l2 then l2 else (Int32.toInt64 ((s5.1 0 4) + 1))))], cl_h g0 g1 g2 g3 (ct_p4 s4) (ct_e5 (.ref 256) (.ref 384) s5) (ct_t6 s6) g7 g8 g9 q)) tk_X1_nextEvent (by omega) rfl ⟨h3, trivial⟩ ?_
      exact pm_Wg.iret (pm_dec tk_X1_nextEvent rfl) rfl rfl
    · rw [if_neg h3] at H
      cases b4 : pm_inb l4 7 with
      | false => rw [b4] at H; cases H
      | true =>
       rw [b4] at H
       dsimp only at H
       by_cases h5 : (s5.2.1 14 (Int32.toNatClampNeg l4)) = (-1)
       · rw [if_pos h5] at H
         cases q8 : f_X3_earliestChoice s4 s5 l4 with
         | none => rw [q8] at H; cases H
         | some r7 =>
          rw [q8] at H
          dsimp only at H
          refine pm_Wg.path (k := 23) (ds := [0, 0, 0]) (f' := (87, [some (.ref 320), some (.int l1), some (.long l2), none, some (.int l4), some (.int 1)], [.ref 256, .int l4, .ref 321, .long l2], cl_h g0 g1 g2 g3 (ct_p4 s4) (ct_e5 (.ref 256) (.ref 384) s5) (ct_t6 s6) g7 g8 g9 q)) tk_X1_nextEvent (by omega) rfl ⟨(by decide), h5, pm_inb_vp b4, h3, trivial⟩ ?_
          refine pm_Wg.callV (m' := 58) (ix := 216) (rr := 29) (pl := 540) (b := 321) (As := [.int l4, .ref 256]) (S := [.long l2]) (by decide) rfl (pm_dec tk_X1_nextEvent rfl) rfl rfl (by decide) rfl rfl (by decide) (Nat.le_of_ble_eq_true rfl) rfl (e_X3_earliestChoice (by omega) q8) ?_
          refine pm_Wg.path (k := 5) (ds := []) (f' := (38, [some (.ref 320), some (.int l1), some (.long (if r7 < l2 then r7 else l2)), none, some (.int (l4 + 1)), some (.int 1)], [], cl_h g0 g1 g2 g3 (ct_p4 s4) (ct_e5 (.ref 256) (.ref 384) s5) (ct_t6 s6) g7 g8 g9 q)) tk_X1_nextEvent (by omega) rfl trivial ?_
          refine pm_Wg.weak (L := [some (.ref 320), some (.int l1), some (.long (if r7 < l2 then r7 else l2)), none, some (.int (l4 + 1)), none]) rfl ⟨rfl, rfl, rfl, rfl, trivial⟩ ?_
          exact ih _ _ _ e H hPe
       · rw [if_neg h5] at H
         refine pm_Wg.path (k := 27) (ds := [0, 1, 1]) (f' := (38, [some (.ref 320), some (.int l1), some (.long (if (Int32.toInt64 (s5.2.1 15 (Int32.toNatClampNeg l4))) < l2 then (Int32.toInt64 (s5.2.1 15 (Int32.toNatClampNeg l4))) else l2)), none, some (.int (l4 + 1)), some (.int 0)], [], cl_h g0 g1 g2 g3 (ct_p4 s4) (ct_e5 (.ref 256) (.ref 384) s5) (ct_t6 s6) g7 g8 g9 q)) tk_X1_nextEvent (by omega) rfl ⟨pm_inb_vp b4, (by decide), h5, pm_inb_vp b4, h3, trivial⟩ ?_
         refine pm_Wg.weak (L := [some (.ref 320), some (.int l1), some (.long (if (Int32.toInt64 (s5.2.1 15 (Int32.toNatClampNeg l4))) < l2 then (Int32.toInt64 (s5.2.1 15 (Int32.toNatClampNeg l4))) else l2)), none, some (.int (l4 + 1)), none]) rfl ⟨rfl, rfl, rfl, rfl, trivial⟩ ?_
         exact ih _ _ _ e H hPe
set_option maxRecDepth 20000 in
set_option maxHeartbeats 20000000 in
theorem e_X1_nextEvent {d : Nat} (hd : 5 ≤ d) {g0 g1 g2 g3 g7 g8 g9 : List pm_E} {q : Nat × Nat × Nat} {s4 : cs_S} {s5 : cs_S} {s6 : cs_S} {a0 : Int32} {r : Int32} (H : f_X1_nextEvent s4 s5 s6 a0 = some r) : pm_Mt 17 d [.ref 320, .int a0] (cl_h g0 g1 g2 g3 (ct_p4 s4) (ct_e5 (.ref 256) (.ref 384) s5) (ct_t6 s6) g7 g8 g9 q) (.inl (some (.int r))) (cl_h g0 g1 g2 g3 (ct_p4 s4) (ct_e5 (.ref 256) (.ref 384) s5) (ct_t6 s6) g7 g8 g9 q) := by
  refine pm_Mt.of (by decide) (by decide +kernel) rfl rfl ?_
  obtain ⟨d, rfl⟩ : ∃ d', d = d' + 1 := ⟨d - 1, by omega⟩
  unfold f_X1_nextEvent at H
  by_cases h1 : (s6.1 0 0) ≤ (s5.1 0 2)
  · rw [if_pos h1] at H
    refine pm_Wg.path (k := 11) (ds := [1]) (f' := (38, [some (.ref 320), some (.int a0), some (.long (Int32.toInt64 a0)), none, some (.int 0), none], [], cl_h g0 g1 g2 g3 (ct_p4 s4) (ct_e5 (.ref 256) (.ref 384) s5) (ct_t6 s6) g7 g8 g9 q)) tk_X1_nextEvent (by omega) rfl ⟨h1, trivial⟩ ?_
    exact ll_X1_nextEvent_38 (by omega) (fun e => e = r) (fun e he => he) pm_fu _ _ _ _ H rfl
  · rw [if_neg h1] at H
    cases b2 : pm_inb (s5.1 0 2) 100 with
    | false => rw [b2] at H; cases H
    | true =>
     rw [b2] at H
     dsimp only at H
     refine pm_Wg.path (k := 21) (ds := [0]) (f' := (38, [some (.ref 320), some (.int a0), some (.long (if (Int32.toInt64 (s6.2.1 1 (Int32.toNatClampNeg (s5.1 0 2)))) < (Int32.toInt64 a0) then (Int32.toInt64 (s6.2.1 1 (Int32.toNatClampNeg (s5.1 0 2)))) else (Int32.toInt64 a0))), none, some (.int 0), none], [], cl_h g0 g1 g2 g3 (ct_p4 s4) (ct_e5 (.ref 256) (.ref 384) s5) (ct_t6 s6) g7 g8 g9 q)) tk_X1_nextEvent (by omega) rfl ⟨pm_inb_vp b2, h1, trivial⟩ ?_
     exact ll_X1_nextEvent_38 (by omega) (fun e => e = r) (fun e he => he) pm_fu _ _ _ _ H rfl

def lb_X1_runTo_79 (s4 : cs_S) (s6 : cs_S) (x : cs_S × Int32 × Int32 × Int32 × Int32) : Option ((cs_S × Int32 × Int32 × Int32 × Int32) ⊕ ((cs_S × Int32 × Int32 × Int32) ⊕ (cs_S))) := match x with
  | (s5, l1, l2, l3, l4) =>
   (if (s4.1 0 0) < l4 then
    some (.inr (.inl (s5, l1, l2, (l3 + 1))))
   else
    (match f_X1_choose s4 s5 l4 with
    | none => none
    | some s5_13 =>
     some (.inl (s5_13, l1, l2, l3, (l4 + 1)))))
def lb_X1_runTo_44 (s4 : cs_S) (s6 : cs_S) (x : cs_S × Int32 × Int32 × Int32 × Int32) : Option ((cs_S × Int32 × Int32 × Int32 × Int32) ⊕ ((cs_S × Int32 × Int32 × Int32) ⊕ (cs_S))) := match x with
  | (s5, l1, l2, l3, l4) =>
   (if (s4.1 0 0) < l4 then
    (match f_X1_acceptLines s4 s5 s6 with
    | none => none
    | some s5_8 =>
     (match f_X1_startStripes s4 s5_8 with
     | none => none
     | some s5_10 =>
      (match pm_loop pm_fu (lb_X1_runTo_79 s4 s6) (s5_10, l1, l2, l3, 0) with
      | none => none
      | some e => some (.inr e))))
   else
    (match f_X1_endService s4 s5 l4 with
    | none => none
    | some s5_16 =>
     some (.inl (s5_16, l1, l2, l3, (l4 + 1)))))
def lb_X1_runTo_2 (s4 : cs_S) (s6 : cs_S) (x : cs_S × Int32 × Int32 × Int32) : Option ((cs_S × Int32 × Int32 × Int32) ⊕ (cs_S)) := match x with
  | (s5, l1, l2, l3) =>
   (if 99999 < l3 then
    some (.inr s5)
   else
    (if l1 ≤ (s5.1 0 4) then
     some (.inr s5)
    else
     (if l2 = 0 then
      (match f_X1_nextEvent s4 s5 s6 l1 with
      | none => none
      | some r5 =>
       (pm_loop pm_fu (lb_X1_runTo_44 s4 s6) ((cs_i s5 0 4 r5), l1, l2, l3, 0)))
     else
      (if (s5.1 31 6) = (-1) then
       (match f_X1_nextEvent s4 s5 s6 l1 with
       | none => none
       | some r19 =>
        (pm_loop pm_fu (lb_X1_runTo_44 s4 s6) ((cs_i s5 0 4 r19), l1, l2, l3, 0)))
      else
       some (.inr s5)))))
def f_X1_runTo (s4 : cs_S) (s5 : cs_S) (s6 : cs_S) (a0 : Int32) (a1 : Int32) : Option (cs_S) :=
  (pm_loop pm_fu (lb_X1_runTo_2 s4 s6) (s5, a0, a1, 0))
def tb_X1_runTo : List pm_I := [(0, .iconst 0, 2, 0), (1, .istore_n 3, 0, 0), (2, .iload_n 3, 0, 0), (3, .ldc 188, 1, 0), (5, .if_icmp .gt 104, 109, 0), (8, .aload_n 0, 0, 0), (9, .getfield 18, 105, 0), (12, .iload_n 1, 0, 0), (13, .if_icmp .ge 96, 109, 0), (16, .iload_n 2, 0, 0), (17, .ifCond .eq 15, 32, 0), (20, .aload_n 0, 0, 0), (21, .getfield 45, 113, 0), (24, .getfield 189, 85, 0), (27, .iconst (-1), 1, 0), (28, .if_icmp .eq 4, 32, 0), (31, .return_, 0, 0), (32, .aload_n 0, 0, 0), (33, .aload_n 0, 0, 0), (34, .iload_n 1, 0, 0), (35, .invokevirtual 192, 27, 0), (38, .putfield 18, 105, 0), (41, .iconst 0, 2, 0), (42, .istore 4, 0, 0), (44, .iload 4, 0, 0), (46, .aload_n 0, 0, 0), (47, .getfield 49, 97, 0), (50, .getfield 112, 116, 0), (53, .if_icmp .gt 15, 68, 0), (56, .aload_n 0, 0, 0), (57, .iload 4, 0, 0), (59, .invokevirtual 195, 37, 0), (62, .iinc 4 1, 3, 0), (65, .goto (-21), 44, 0), (68, .aload_n 0, 0, 0), (69, .invokevirtual 198, 65, 0), (72, .aload_n 0, 0, 0), (73, .invokevirtual 172, 78, 0), (76, .iconst 0, 2, 0), (77, .istore 4, 0, 0), (79, .iload 4, 0, 0), (81, .aload_n 0, 0, 0), (82, .getfield 49, 97, 0), (85, .getfield 112, 116, 0), (88, .if_icmp .gt 15, 103, 0), (91, .aload_n 0, 0, 0), (92, .iload 4, 0, 0), (94, .invokevirtual 201, 81, 0), (97, .iinc 4 1, 3, 0), (100, .goto (-21), 79, 0), (103, .iinc 3 1, 3, 0), (106, .goto (-104), 2, 0), (109, .return_, 0, 0)]
theorem tk_X1_runTo : ∀ e ∈ tb_X1_runTo, pm_ck 16 e = true := List.all_eq_true.mp (by decide +kernel)
set_option maxRecDepth 20000 in
set_option maxHeartbeats 40000000 in
theorem ll_X1_runTo_79 {d : Nat} (hd : 6 ≤ d) {g0 g1 g2 g3 g7 g8 g9 : List pm_E} {q : Nat × Nat × Nat} {s4 : cs_S} {s6 : cs_S} {z5 : cs_S} (P : (cs_S × Int32 × Int32 × Int32) ⊕ (cs_S) → Prop) (K1 : ∀ (s5 : cs_S) (l1 : Int32) (l2 : Int32) (l3 : Int32), P (.inl (s5, l1, l2, l3)) → pm_Wg 16 d (.inl (none)) (cl_h g0 g1 g2 g3 (ct_p4 s4) (ct_e5 (.ref 256) (.ref 384) z5) (ct_t6 s6) g7 g8 g9 q) (2, [some (.ref 320), some (.int l1), some (.int l2), some (.int l3), none], [], cl_h g0 g1 g2 g3 (ct_p4 s4) (ct_e5 (.ref 256) (.ref 384) s5) (ct_t6 s6) g7 g8 g9 q)) (K0 : ∀ e : cs_S, P (.inr e) → e = z5) : ∀ (n : Nat) (s5 : cs_S) (l1 : Int32) (l2 : Int32) (l3 : Int32) (l4 : Int32) (e : (cs_S × Int32 × Int32 × Int32) ⊕ (cs_S)), pm_loop n (lb_X1_runTo_79 s4 s6) (s5, l1, l2, l3, l4) = some e → P e → pm_Wg 16 d (.inl (none)) (cl_h g0 g1 g2 g3 (ct_p4 s4) (ct_e5 (.ref 256) (.ref 384) z5) (ct_t6 s6) g7 g8 g9 q) (79, [some (.ref 320), some (.int l1), some (.int l2), some (.int l3), some (.int l4)], [], cl_h g0 g1 g2 g3 (ct_p4 s4) (ct_e5 (.ref 256) (.ref 384) s5) (ct_t6 s6) g7 g8 g9 q) := by
  intro n
  induction n with
  | zero => intro s5 l1 l2 l3 l4 e H; cases H
  | succ n ih =>
    intro s5 l1 l2 l3 l4 e H hPe
    obtain ⟨d, rfl⟩ : ∃ d', d = d' + 1 := ⟨d - 1, by omega⟩
    have H : pm_lst (pm_loop n (lb_X1_runTo_79 s4 s6)) (lb_X1_runTo_79 s4 s6 (s5, l1, l2, l3, l4)) = some e := H
    generalize pm_loop n (lb_X1_runTo_79 s4 s6) = LB at H ih
    unfold lb_X1_runTo_79 at H
    try dsimp only at H
    by_cases h12 : (s4.1 0 0) < l4
    · rw [if_pos h12] at H
      have He := Option.some.inj H
      subst He
      refine pm_Wg.path (k := 7) (ds := [1]) (f' := (2, [some (.ref 320), some (.int l1), some (.int l2), some (.int (l3 + 1)), some (.int l4)], [], cl_h g0 g1 g2 g3 (ct_p4 s4) (ct_e5 (.ref 256) (.ref 384) s5) (ct_t6 s6) g7 g8 g9 q)) tk_X1_runTo (by omega) rfl ⟨h12, trivial⟩ ?_
      refine pm_Wg.weak (L := [some (.ref 320), some (.int l1), some (.int l2), some (.int (l3 + 1)), none]) rfl ⟨rfl, rfl, rfl, rfl, trivial⟩ ?_
      exact K1 _ _ _ _ hPe
    · rw [if_neg h12] at H
      cases q14 : f_X1_choose s4 s5 l4 with
      | none => rw [q14] at H; cases H
      | some s5_13 =>
       rw [q14] at H
       dsimp only at H
       refine pm_Wg.path (k := 7) (ds := [0]) (f' := (94, [some (.ref 320), some (.int l1), some (.int l2), some (.int l3), some (.int l4)], [.int l4, .ref 320], cl_h g0 g1 g2 g3 (ct_p4 s4) (ct_e5 (.ref 256) (.ref 384) s5) (ct_t6 s6) g7 g8 g9 q)) tk_X1_runTo (by omega) rfl ⟨h12, trivial⟩ ?_
       refine pm_Wg.callV (m' := 25) (ix := 201) (rr := 81) (pl := 718) (b := 320) (As := [.int l4]) (S := []) (by decide) rfl (pm_dec tk_X1_runTo rfl) rfl rfl (by decide) rfl rfl (by decide) (Nat.le_of_ble_eq_true rfl) rfl (e_X1_choose (by omega) q14) ?_
       refine pm_Wg.path (k := 2) (ds := []) (f' := (79, [some (.ref 320), some (.int l1), some (.int l2), some (.int l3), some (.int (l4 + 1))], [], cl_h g0 g1 g2 g3 (ct_p4 s4) (ct_e5 (.ref 256) (.ref 384) s5_13) (ct_t6 s6) g7 g8 g9 q)) tk_X1_runTo (by omega) rfl trivial ?_
       exact ih _ _ _ _ _ e H hPe
set_option maxRecDepth 20000 in
set_option maxHeartbeats 40000000 in
theorem ll_X1_runTo_44 {d : Nat} (hd : 6 ≤ d) {g0 g1 g2 g3 g7 g8 g9 : List pm_E} {q : Nat × Nat × Nat} {s4 : cs_S} {s6 : cs_S} {z5 : cs_S} (P : (cs_S × Int32 × Int32 × Int32) ⊕ (cs_S) → Prop) (K1 : ∀ (s5 : cs_S) (l1 : Int32) (l2 : Int32) (l3 : Int32), P (.inl (s5, l1, l2, l3)) → pm_Wg 16 d (.inl (none)) (cl_h g0 g1 g2 g3 (ct_p4 s4) (ct_e5 (.ref 256) (.ref 384) z5) (ct_t6 s6) g7 g8 g9 q) (2, [some (.ref 320), some (.int l1), some (.int l2), some (.int l3), none], [], cl_h g0 g1 g2 g3 (ct_p4 s4) (ct_e5 (.ref 256) (.ref 384) s5) (ct_t6 s6) g7 g8 g9 q)) (K0 : ∀ e : cs_S, P (.inr e) → e = z5) : ∀ (n : Nat) (s5 : cs_S) (l1 : Int32) (l2 : Int32) (l3 : Int32) (l4 : Int32) (e : (cs_S × Int32 × Int32 × Int32) ⊕ (cs_S)), pm_loop n (lb_X1_runTo_44 s4 s6) (s5, l1, l2, l3, l4) = some e → P e → pm_Wg 16 d (.inl (none)) (cl_h g0 g1 g2 g3 (ct_p4 s4) (ct_e5 (.ref 256) (.ref 384) z5) (ct_t6 s6) g7 g8 g9 q) (44, [some (.ref 320), some (.int l1), some (.int l2), some (.int l3), some (.int l4)], [], cl_h g0 g1 g2 g3 (ct_p4 s4) (ct_e5 (.ref 256) (.ref 384) s5) (ct_t6 s6) g7 g8 g9 q) := by
  intro n
  induction n with
  | zero => intro s5 l1 l2 l3 l4 e H; cases H
  | succ n ih =>
    intro s5 l1 l2 l3 l4 e H hPe
    obtain ⟨d, rfl⟩ : ∃ d', d = d' + 1 := ⟨d - 1, by omega⟩
    have H : pm_lst (pm_loop n (lb_X1_runTo_44 s4 s6)) (lb_X1_runTo_44 s4 s6 (s5, l1, l2, l3, l4)) = some e := H
    generalize pm_loop n (lb_X1_runTo_44 s4 s6) = LB at H ih
    unfold lb_X1_runTo_44 at H
    try dsimp only at H
    by_cases h7 : (s4.1 0 0) < l4
    · rw [if_pos h7] at H
      cases q9 : f_X1_acceptLines s4 s5 s6 with
      | none => rw [q9] at H; cases H
      | some s5_8 =>
       rw [q9] at H
       dsimp only at H
       refine pm_Wg.path (k := 6) (ds := [1]) (f' := (69, [some (.ref 320), some (.int l1), some (.int l2), some (.int l3), some (.int l4)], [.ref 320], cl_h g0 g1 g2 g3 (ct_p4 s4) (ct_e5 (.ref 256) (.ref 384) s5) (ct_t6 s6) g7 g8 g9 q)) tk_X1_runTo (by omega) rfl ⟨h7, trivial⟩ ?_
       refine pm_Wg.callV (m' := 21) (ix := 198) (rr := 65) (pl := 666) (b := 320) (As := []) (S := []) (by decide) rfl (pm_dec tk_X1_runTo rfl) rfl rfl (by decide) rfl rfl (by decide) (Nat.le_of_ble_eq_true rfl) rfl (e_X1_acceptLines (by omega) q9) ?_
       cases q11 : f_X1_startStripes s4 s5_8 with
       | none => rw [q11] at H; cases H
       | some s5_10 =>
        rw [q11] at H
        dsimp only at H
        refine pm_Wg.path (k := 1) (ds := []) (f' := (73, [some (.ref 320), some (.int l1), some (.int l2), some (.int l3), some (.int l4)], [.ref 320], cl_h g0 g1 g2 g3 (ct_p4 s4) (ct_e5 (.ref 256) (.ref 384) s5_8) (ct_t6 s6) g7 g8 g9 q)) tk_X1_runTo (by omega) rfl trivial ?_
        refine pm_Wg.callV (m' := 22) (ix := 172) (rr := 78) (pl := 706) (b := 320) (As := []) (S := []) (by decide) rfl (pm_dec tk_X1_runTo rfl) rfl rfl (by decide) rfl rfl (by decide) (Nat.le_of_ble_eq_true rfl) rfl (e_X1_startStripes (by omega) q11) ?_
        cases q15 : pm_loop pm_fu (lb_X1_runTo_79 s4 s6) (s5_10, l1, l2, l3, 0) with
        | none => rw [q15] at H; cases H
        | some e9 =>
         rw [q15] at H
         try dsimp only at H
         refine pm_Wg.path (k := 2) (ds := []) (f' := (79, [some (.ref 320), some (.int l1), some (.int l2), some (.int l3), some (.int 0)], [], cl_h g0 g1 g2 g3 (ct_p4 s4) (ct_e5 (.ref 256) (.ref 384) s5_10) (ct_t6 s6) g7 g8 g9 q)) tk_X1_runTo (by omega) rfl trivial ?_
         exact ll_X1_runTo_79 (by omega) (fun e9 => pm_lst LB (some (.inr e9)) = some e) (fun _ _ _ _ hk => K1 _ _ _ _ (Option.some.inj hk ▸ hPe)) (fun e0 hk => K0 e0 (Option.some.inj hk ▸ hPe)) pm_fu _ _ _ _ _ _ q15 H
    · rw [if_neg h7] at H
      cases q17 : f_X1_endService s4 s5 l4 with
      | none => rw [q17] at H; cases H
      | some s5_16 =>
       rw [q17] at H
       dsimp only at H
       refine pm_Wg.path (k := 7) (ds := [0]) (f' := (59, [some (.ref 320), some (.int l1), some (.int l2), some (.int l3), some (.int l4)], [.int l4, .ref 320], cl_h g0 g1 g2 g3 (ct_p4 s4) (ct_e5 (.ref 256) (.ref 384) s5) (ct_t6 s6) g7 g8 g9 q)) tk_X1_runTo (by omega) rfl ⟨h7, trivial⟩ ?_
       refine pm_Wg.callV (m' := 18) (ix := 195) (rr := 37) (pl := 568) (b := 320) (As := [.int l4]) (S := []) (by decide) rfl (pm_dec tk_X1_runTo rfl) rfl rfl (by decide) rfl rfl (by decide) (Nat.le_of_ble_eq_true rfl) rfl (e_X1_endService (by omega) q17) ?_
       refine pm_Wg.path (k := 2) (ds := []) (f' := (44, [some (.ref 320), some (.int l1), some (.int l2), some (.int l3), some (.int (l4 + 1))], [], cl_h g0 g1 g2 g3 (ct_p4 s4) (ct_e5 (.ref 256) (.ref 384) s5_16) (ct_t6 s6) g7 g8 g9 q)) tk_X1_runTo (by omega) rfl trivial ?_
       exact ih _ _ _ _ _ e H hPe
set_option maxRecDepth 20000 in
set_option maxHeartbeats 40000000 in
theorem ll_X1_runTo_2 {d : Nat} (hd : 6 ≤ d) {g0 g1 g2 g3 g7 g8 g9 : List pm_E} {q : Nat × Nat × Nat} {s4 : cs_S} {s6 : cs_S} {z5 : cs_S} (P : cs_S → Prop) (K0 : ∀ e : cs_S, P (e) → e = z5) : ∀ (n : Nat) (s5 : cs_S) (l1 : Int32) (l2 : Int32) (l3 : Int32) (e : cs_S), pm_loop n (lb_X1_runTo_2 s4 s6) (s5, l1, l2, l3) = some e → P e → pm_Wg 16 d (.inl (none)) (cl_h g0 g1 g2 g3 (ct_p4 s4) (ct_e5 (.ref 256) (.ref 384) z5) (ct_t6 s6) g7 g8 g9 q) (2, [some (.ref 320), some (.int l1), some (.int l2), some (.int l3), none], [], cl_h g0 g1 g2 g3 (ct_p4 s4) (ct_e5 (.ref 256) (.ref 384) s5) (ct_t6 s6) g7 g8 g9 q) := by
  intro n
  induction n with
  | zero => intro s5 l1 l2 l3 e H; cases H
  | succ n ih =>
    intro s5 l1 l2 l3 e H hPe
    obtain ⟨d, rfl⟩ : ∃ d', d = d' + 1 := ⟨d - 1, by omega⟩
    have H : pm_lst (pm_loop n (lb_X1_runTo_2 s4 s6)) (lb_X1_runTo_2 s4 s6 (s5, l1, l2, l3)) = some e := H
    generalize pm_loop n (lb_X1_runTo_2 s4 s6) = LB at H ih
    unfold lb_X1_runTo_2 at H
    try dsimp only at H
    by_cases h1 : 99999 < l3
    · rw [if_pos h1] at H
      have He := Option.some.inj H
      subst He
      have J := K0 _ hPe
      subst J
      refine pm_Wg.path (k := 3) (ds := [1]) (f' := (109, [some (.ref 320), some (.int l1), some (.int l2), some (.int l3), none], [], cl_h g0 g1 g2 g3 (ct_p4 s4) (ct_e5 (.ref 256) (.ref 384) s5) (ct_t6 s6) g7 g8 g9 q)) tk_X1_runTo (by omega) rfl ⟨h1, trivial⟩ ?_
      exact pm_Wg.vret (pm_dec tk_X1_runTo rfl) rfl
    · rw [if_neg h1] at H
      by_cases h2 : l1 ≤ (s5.1 0 4)
      · rw [if_pos h2] at H
        have He := Option.some.inj H
        subst He
        have J := K0 _ hPe
        subst J
        refine pm_Wg.path (k := 7) (ds := [0, 1]) (f' := (109, [some (.ref 320), some (.int l1), some (.int l2), some (.int l3), none], [], cl_h g0 g1 g2 g3 (ct_p4 s4) (ct_e5 (.ref 256) (.ref 384) s5) (ct_t6 s6) g7 g8 g9 q)) tk_X1_runTo (by omega) rfl ⟨h2, h1, trivial⟩ ?_
        exact pm_Wg.vret (pm_dec tk_X1_runTo rfl) rfl
      · rw [if_neg h2] at H
        by_cases h3 : l2 = 0
        · rw [if_pos h3] at H
          cases q6 : f_X1_nextEvent s4 s5 s6 l1 with
          | none => rw [q6] at H; cases H
          | some r5 =>
           rw [q6] at H
           dsimp only at H
           refine pm_Wg.path (k := 12) (ds := [0, 0, 1]) (f' := (35, [some (.ref 320), some (.int l1), some (.int l2), some (.int l3), none], [.int l1, .ref 320, .ref 320], cl_h g0 g1 g2 g3 (ct_p4 s4) (ct_e5 (.ref 256) (.ref 384) s5) (ct_t6 s6) g7 g8 g9 q)) tk_X1_runTo (by omega) rfl ⟨h3, h2, h1, trivial⟩ ?_
           refine pm_Wg.callV (m' := 17) (ix := 192) (rr := 27) (pl := 533) (b := 320) (As := [.int l1]) (S := [.ref 320]) (by decide) rfl (pm_dec tk_X1_runTo rfl) rfl rfl (by decide) rfl rfl (by decide) (Nat.le_of_ble_eq_true rfl) rfl (e_X1_nextEvent (by omega) q6) ?_
           cases q18 : pm_loop pm_fu (lb_X1_runTo_44 s4 s6) ((cs_i s5 0 4 r5), l1, l2, l3, 0) with
           | none => rw [q18] at H; cases H
           | some e9 =>
            rw [q18] at H
            try dsimp only at H
            refine pm_Wg.path (k := 3) (ds := []) (f' := (44, [some (.ref 320), some (.int l1), some (.int l2), some (.int l3), some (.int 0)], [], cl_h g0 g1 g2 g3 (ct_p4 s4) (ct_e5 (.ref 256) (.ref 384) (cs_i s5 0 4 r5)) (ct_t6 s6) g7 g8 g9 q)) tk_X1_runTo (by omega) rfl trivial ?_
            exact ll_X1_runTo_44 (by omega) (fun e9 => pm_lst LB (some (e9)) = some e) (fun _ _ _ _ hk => ih _ _ _ _ e hk hPe) (fun e0 hk => K0 e0 (Option.some.inj hk ▸ hPe)) pm_fu _ _ _ _ _ _ q18 H
        · rw [if_neg h3] at H
          by_cases h4 : (s5.1 31 6) = (-1)
          · rw [if_pos h4] at H
            cases q20 : f_X1_nextEvent s4 s5 s6 l1 with
            | none => rw [q20] at H; cases H
            | some r19 =>
             rw [q20] at H
             dsimp only at H
             refine pm_Wg.path (k := 17) (ds := [0, 0, 0, 1]) (f' := (35, [some (.ref 320), some (.int l1), some (.int l2), some (.int l3), none], [.int l1, .ref 320, .ref 320], cl_h g0 g1 g2 g3 (ct_p4 s4) (ct_e5 (.ref 256) (.ref 384) s5) (ct_t6 s6) g7 g8 g9 q)) tk_X1_runTo (by omega) rfl ⟨h4, h3, h2, h1, trivial⟩ ?_
             refine pm_Wg.callV (m' := 17) (ix := 192) (rr := 27) (pl := 533) (b := 320) (As := [.int l1]) (S := [.ref 320]) (by decide) rfl (pm_dec tk_X1_runTo rfl) rfl rfl (by decide) rfl rfl (by decide) (Nat.le_of_ble_eq_true rfl) rfl (e_X1_nextEvent (by omega) q20) ?_
             cases q21 : pm_loop pm_fu (lb_X1_runTo_44 s4 s6) ((cs_i s5 0 4 r19), l1, l2, l3, 0) with
             | none => rw [q21] at H; cases H
             | some e9 =>
              rw [q21] at H
              try dsimp only at H
              refine pm_Wg.path (k := 3) (ds := []) (f' := (44, [some (.ref 320), some (.int l1), some (.int l2), some (.int l3), some (.int 0)], [], cl_h g0 g1 g2 g3 (ct_p4 s4) (ct_e5 (.ref 256) (.ref 384) (cs_i s5 0 4 r19)) (ct_t6 s6) g7 g8 g9 q)) tk_X1_runTo (by omega) rfl trivial ?_
              exact ll_X1_runTo_44 (by omega) (fun e9 => pm_lst LB (some (e9)) = some e) (fun _ _ _ _ hk => ih _ _ _ _ e hk hPe) (fun e0 hk => K0 e0 (Option.some.inj hk ▸ hPe)) pm_fu _ _ _ _ _ _ q21 H
          · rw [if_neg h4] at H
            have He := Option.some.inj H
            subst He
            have J := K0 _ hPe
            subst J
            refine pm_Wg.path (k := 14) (ds := [0, 0, 0, 0]) (f' := (31, [some (.ref 320), some (.int l1), some (.int l2), some (.int l3), none], [], cl_h g0 g1 g2 g3 (ct_p4 s4) (ct_e5 (.ref 256) (.ref 384) s5) (ct_t6 s6) g7 g8 g9 q)) tk_X1_runTo (by omega) rfl ⟨h4, h3, h2, h1, trivial⟩ ?_
            exact pm_Wg.vret (pm_dec tk_X1_runTo rfl) rfl
set_option maxRecDepth 20000 in
set_option maxHeartbeats 20000000 in
theorem e_X1_runTo {d : Nat} (hd : 6 ≤ d) {g0 g1 g2 g3 g7 g8 g9 : List pm_E} {q : Nat × Nat × Nat} {s4 : cs_S} {s5 : cs_S} {s6 : cs_S} {a0 : Int32} {a1 : Int32} {z5 : cs_S} (H : f_X1_runTo s4 s5 s6 a0 a1 = some z5) : pm_Mt 16 d [.ref 320, .int a0, .int a1] (cl_h g0 g1 g2 g3 (ct_p4 s4) (ct_e5 (.ref 256) (.ref 384) s5) (ct_t6 s6) g7 g8 g9 q) (.inl (none)) (cl_h g0 g1 g2 g3 (ct_p4 s4) (ct_e5 (.ref 256) (.ref 384) z5) (ct_t6 s6) g7 g8 g9 q) := by
  refine pm_Mt.of (by decide) (by decide +kernel) rfl rfl ?_
  obtain ⟨d, rfl⟩ : ∃ d', d = d' + 1 := ⟨d - 1, by omega⟩
  unfold f_X1_runTo at H
  refine pm_Wg.path (k := 2) (ds := []) (f' := (2, [some (.ref 320), some (.int a0), some (.int a1), some (.int 0), none], [], cl_h g0 g1 g2 g3 (ct_p4 s4) (ct_e5 (.ref 256) (.ref 384) s5) (ct_t6 s6) g7 g8 g9 q)) tk_X1_runTo (by omega) rfl trivial ?_
  exact ll_X1_runTo_2 (by omega) (fun e => e = z5) (fun e he => he) pm_fu _ _ _ _ _ H rfl
