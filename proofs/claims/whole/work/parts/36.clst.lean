/-! What stands on strings, by program (wip/whole/decc.py). -/
def lb_X6_sees_28 (s0 : cs_S) (a0 : Nat) (x : Int32) : Option ((Int32) ⊕ (Int32)) := match x with
  | l2 =>
   (if (Int32.ofNat (pm_tx a0).length) ≤ l2 then
    some (.inr 1)
   else
    (match pm_inb ((s0.1 1 4) + l2) 800 with
    | false => none
    | true =>
    (match pm_inb l2 (pm_tx a0).length with
    | false => none
    | true =>
    (if (s0.2.1 2 (Int32.toNatClampNeg ((s0.1 1 4) + l2))) = (pm_cr a0 (Int32.toNatClampNeg l2)) then
     some (.inl (l2 + 1))
    else
     some (.inr 0)))))
def f_X6_sees (s0 : cs_S) (a0 : Nat) : Option (Int32) :=
  (if (s0.1 1 3) = 3 then
   (if ((s0.1 1 5) - (s0.1 1 4)) = (Int32.ofNat (pm_tx a0).length) then
    (pm_loop pm_fu (lb_X6_sees_28 s0 a0) 0)
   else
    some 0)
  else
   some 0)
def tb_X6_sees : List pm_I := [(0, .aload_n 0, 0, 0), (1, .getfield 22, 4, 0), (4, .iconst 3, 5, 0), (5, .if_icmp .ne 19, 24, 0), (8, .aload_n 0, 0, 0), (9, .getfield 28, 6, 0), (12, .aload_n 0, 0, 0), (13, .getfield 25, 5, 0), (16, .isub, 0, 0), (17, .aload_n 1, 0, 0), (18, .invokevirtual 50, 105, 0), (21, .if_icmp .eq 5, 26, 0), (24, .iconst 0, 2, 0), (25, .ireturn, 0, 0), (26, .iconst 0, 2, 0), (27, .istore_n 2, 0, 0), (28, .iload_n 2, 0, 0), (29, .aload_n 1, 0, 0), (30, .invokevirtual 50, 105, 0), (33, .if_icmp .ge 30, 63, 0), (36, .aload_n 0, 0, 0), (37, .getfield 9, 0, 0), (40, .aload_n 0, 0, 0), (41, .getfield 25, 5, 0), (44, .iload_n 2, 0, 0), (45, .iadd, 0, 0), (46, .baload, 0, 0), (47, .aload_n 1, 0, 0), (48, .iload_n 2, 0, 0), (49, .invokevirtual 55, 107, 0), (52, .if_icmp .eq 5, 57, 0), (55, .iconst 0, 2, 0), (56, .ireturn, 0, 0), (57, .iinc 2 1, 3, 0), (60, .goto (-32), 28, 0), (63, .iconst 1, 3, 0), (64, .ireturn, 0, 0)]
theorem tk_X6_sees : ∀ e ∈ tb_X6_sees, pm_ck 86 e = true := List.all_eq_true.mp (by decide +kernel)
set_option maxRecDepth 20000 in
set_option maxHeartbeats 40000000 in
theorem ll_X6_sees_28 {d : Nat} (hd : 5 ≤ d) {g1 g2 g3 g4 g5 g6 g7 g8 g9 : List pm_E} {v1 v2 v3 : Value} {q : Nat × Nat × Nat} {s0 : cs_S} {a0 : Nat} {qk : Nat × Nat × String × Nat} (hk : pm_SR[a0]? = some qk) {r : Int32} (P : Int32 → Prop) (K0 : ∀ e : Int32, P (e) → e = r) : ∀ (n : Nat) (l2 : Int32) (e : Int32), pm_loop n (lb_X6_sees_28 s0 a0) l2 = some e → P e → pm_Wg 86 d (.inl (some (.int r))) (cl_h (ct_x v1 v2 v3 s0) g1 g2 g3 g4 g5 g6 g7 g8 g9 q) (28, [some (.ref 1), some (.retAddr a0), some (.int l2)], [], cl_h (ct_x v1 v2 v3 s0) g1 g2 g3 g4 g5 g6 g7 g8 g9 q) := by
  intro n
  induction n with
  | zero => intro l2 e H; cases H
  | succ n ih =>
    intro l2 e H hPe
    obtain ⟨d, rfl⟩ : ∃ d', d = d' + 1 := ⟨d - 1, by omega⟩
    have H : pm_lst (pm_loop n (lb_X6_sees_28 s0 a0)) (lb_X6_sees_28 s0 a0 l2) = some e := H
    generalize pm_loop n (lb_X6_sees_28 s0 a0) = LB at H ih
    unfold lb_X6_sees_28 at H
    try dsimp only at H
    refine pm_Wg.path (k := 2) (ds := []) (f' := (30, [some (.ref 1), some (.retAddr a0), some (.int l2)], [.retAddr a0, .int l2], cl_h (ct_x v1 v2 v3 s0) g1 g2 g3 g4 g5 g6 g7 g8 g9 q)) tk_X6_sees (by omega) rfl trivial ?_
    refine pm_Wg.callT (m' := 296) (ix := 50) (rr := 105) (pl := 947) (k := a0) (As := []) (S := [.int l2]) (by decide) rfl (pm_dec tk_X6_sees rfl) rfl rfl (by decide +kernel) rfl hk (by decide +kernel) (Nat.le_of_ble_eq_true rfl) rfl (e_J0_length_8abf5 (by omega) hk) ?_
    by_cases h3 : (Int32.ofNat (pm_tx a0).length) ≤ l2
    · rw [if_pos h3] at H
      have He := Option.some.inj H
      subst He
      have J := K0 _ hPe
      subst J
      refine pm_Wg.path (k := 2) (ds := [1]) (f' := (64, [some (.ref 1), some (.retAddr a0), some (.int l2)], [.int 1], cl_h (ct_x v1 v2 v3 s0) g1 g2 g3 g4 g5 g6 g7 g8 g9 q)) tk_X6_sees (by omega) rfl ⟨h3, trivial⟩ ?_
      exact pm_Wg.iret (pm_dec tk_X6_sees rfl) rfl rfl
    · rw [if_neg h3] at H
      cases b4 : pm_inb ((s0.1 1 4) + l2) 800 with
      | false => rw [b4] at H; cases H
      | true =>
       rw [b4] at H
       dsimp only at H
       cases b5 : pm_inb l2 (pm_tx a0).length with
       | false => rw [b5] at H; cases H
       | true =>
        rw [b5] at H
        dsimp only at H
        refine pm_Wg.path (k := 10) (ds := [0]) (f' := (49, [some (.ref 1), some (.retAddr a0), some (.int l2)], [.int l2, .retAddr a0, .int (s0.2.1 2 (Int32.toNatClampNeg ((s0.1 1 4) + l2)))], cl_h (ct_x v1 v2 v3 s0) g1 g2 g3 g4 g5 g6 g7 g8 g9 q)) tk_X6_sees (by omega) rfl ⟨pm_inb_vp b4, h3, trivial⟩ ?_
        refine pm_Wg.callT (m' := 297) (ix := 55) (rr := 107) (pl := 957) (k := a0) (As := [.int l2]) (S := [.int (s0.2.1 2 (Int32.toNatClampNeg ((s0.1 1 4) + l2)))]) (by decide) rfl (pm_dec tk_X6_sees rfl) rfl rfl (by decide +kernel) rfl hk (by decide +kernel) (Nat.le_of_ble_eq_true rfl) rfl (e_J0_charAt_5068e (by omega) hk (pm_inb_vp b5)) ?_
        by_cases h6 : (s0.2.1 2 (Int32.toNatClampNeg ((s0.1 1 4) + l2))) = (pm_cr a0 (Int32.toNatClampNeg l2))
        · rw [if_pos h6] at H
          refine pm_Wg.path (k := 3) (ds := [1]) (f' := (28, [some (.ref 1), some (.retAddr a0), some (.int (l2 + 1))], [], cl_h (ct_x v1 v2 v3 s0) g1 g2 g3 g4 g5 g6 g7 g8 g9 q)) tk_X6_sees (by omega) rfl ⟨h6, trivial⟩ ?_
          exact ih _ e H hPe
        · rw [if_neg h6] at H
          have He := Option.some.inj H
          subst He
          have J := K0 _ hPe
          subst J
          refine pm_Wg.path (k := 2) (ds := [0]) (f' := (56, [some (.ref 1), some (.retAddr a0), some (.int l2)], [.int 0], cl_h (ct_x v1 v2 v3 s0) g1 g2 g3 g4 g5 g6 g7 g8 g9 q)) tk_X6_sees (by omega) rfl ⟨h6, trivial⟩ ?_
          exact pm_Wg.iret (pm_dec tk_X6_sees rfl) rfl rfl
set_option maxRecDepth 20000 in
set_option maxHeartbeats 20000000 in
theorem e_X6_sees {d : Nat} (hd : 5 ≤ d) {g1 g2 g3 g4 g5 g6 g7 g8 g9 : List pm_E} {v1 v2 v3 : Value} {q : Nat × Nat × Nat} {s0 : cs_S} {a0 : Nat} {qk : Nat × Nat × String × Nat} (hk : pm_SR[a0]? = some qk) {r : Int32} (H : f_X6_sees s0 a0 = some r) : pm_Mt 86 d [.ref 1, .retAddr a0] (cl_h (ct_x v1 v2 v3 s0) g1 g2 g3 g4 g5 g6 g7 g8 g9 q) (.inl (some (.int r))) (cl_h (ct_x v1 v2 v3 s0) g1 g2 g3 g4 g5 g6 g7 g8 g9 q) := by
  refine pm_Mt.of (by decide) (by decide +kernel) rfl rfl ?_
  obtain ⟨d, rfl⟩ : ∃ d', d = d' + 1 := ⟨d - 1, by omega⟩
  unfold f_X6_sees at H
  by_cases h1 : (s0.1 1 3) = 3
  · rw [if_pos h1] at H
    refine pm_Wg.path (k := 10) (ds := [0]) (f' := (18, [some (.ref 1), some (.retAddr a0), none], [.retAddr a0, .int ((s0.1 1 5) - (s0.1 1 4))], cl_h (ct_x v1 v2 v3 s0) g1 g2 g3 g4 g5 g6 g7 g8 g9 q)) tk_X6_sees (by omega) rfl ⟨h1, trivial⟩ ?_
    refine pm_Wg.callT (m' := 296) (ix := 50) (rr := 105) (pl := 947) (k := a0) (As := []) (S := [.int ((s0.1 1 5) - (s0.1 1 4))]) (by decide) rfl (pm_dec tk_X6_sees rfl) rfl rfl (by decide +kernel) rfl hk (by decide +kernel) (Nat.le_of_ble_eq_true rfl) rfl (e_J0_length_8abf5 (by omega) hk) ?_
    by_cases h2 : ((s0.1 1 5) - (s0.1 1 4)) = (Int32.ofNat (pm_tx a0).length)
    · rw [if_pos h2] at H
      refine pm_Wg.path (k := 3) (ds := [1]) (f' := (28, [some (.ref 1), some (.retAddr a0), some (.int 0)], [], cl_h (ct_x v1 v2 v3 s0) g1 g2 g3 g4 g5 g6 g7 g8 g9 q)) tk_X6_sees (by omega) rfl ⟨h2, trivial⟩ ?_
      exact ll_X6_sees_28 (by omega) hk (fun e => e = r) (fun e he => he) pm_fu _ _ H rfl
    · rw [if_neg h2] at H
      have J := Option.some.inj H
      subst J
      refine pm_Wg.path (k := 2) (ds := [0]) (f' := (25, [some (.ref 1), some (.retAddr a0), none], [.int 0], cl_h (ct_x v1 v2 v3 s0) g1 g2 g3 g4 g5 g6 g7 g8 g9 q)) tk_X6_sees (by omega) rfl ⟨h2, trivial⟩ ?_
      exact pm_Wg.iret (pm_dec tk_X6_sees rfl) rfl rfl
  · rw [if_neg h1] at H
    have J := Option.some.inj H
    subst J
    refine pm_Wg.path (k := 5) (ds := [1]) (f' := (25, [some (.ref 1), some (.retAddr a0), none], [.int 0], cl_h (ct_x v1 v2 v3 s0) g1 g2 g3 g4 g5 g6 g7 g8 g9 q)) tk_X6_sees (by omega) rfl ⟨h1, trivial⟩ ?_
    exact pm_Wg.iret (pm_dec tk_X6_sees rfl) rfl rfl

def f_X6_passWord (s0 : cs_S) (a0 : Nat) : Option (cs_S) :=
  (match f_X6_sees s0 a0 with
  | none => none
  | some r1 =>
   (if r1 = 0 then
    (match f_X6_report s0 1 with
    | none => none
    | some s0_4 =>
     some s0_4)
   else
    (match f_X6_step s0 with
    | none => none
    | some s0_6 =>
     some s0_6)))
def tb_X6_passWord : List pm_I := [(0, .aload_n 0, 0, 0), (1, .aload_n 1, 0, 0), (2, .invokevirtual 59, 104, 0), (5, .ifCond .eq 10, 15, 0), (8, .aload_n 0, 0, 0), (9, .invokevirtual 43, 100, 0), (12, .goto 8, 20, 0), (15, .aload_n 0, 0, 0), (16, .iconst 1, 3, 0), (17, .invokevirtual 63, 117, 0), (20, .return_, 0, 0)]
theorem tk_X6_passWord : ∀ e ∈ tb_X6_passWord, pm_ck 87 e = true := List.all_eq_true.mp (by decide +kernel)
set_option maxRecDepth 20000 in
set_option maxHeartbeats 20000000 in
theorem e_X6_passWord {d : Nat} (hd : 6 ≤ d) {g1 g2 g3 g4 g5 g6 g7 g8 g9 : List pm_E} {v1 v2 v3 : Value} {q : Nat × Nat × Nat} {s0 : cs_S} {a0 : Nat} {qk : Nat × Nat × String × Nat} (hk : pm_SR[a0]? = some qk) {z0 : cs_S} (H : f_X6_passWord s0 a0 = some z0) : pm_Mt 87 d [.ref 1, .retAddr a0] (cl_h (ct_x v1 v2 v3 s0) g1 g2 g3 g4 g5 g6 g7 g8 g9 q) (.inl (none)) (cl_h (ct_x v1 v2 v3 z0) g1 g2 g3 g4 g5 g6 g7 g8 g9 q) := by
  refine pm_Mt.of (by decide) (by decide +kernel) rfl rfl ?_
  obtain ⟨d, rfl⟩ : ∃ d', d = d' + 1 := ⟨d - 1, by omega⟩
  unfold f_X6_passWord at H
  cases q2 : f_X6_sees s0 a0 with
  | none => rw [q2] at H; cases H
  | some r1 =>
   rw [q2] at H
   dsimp only at H
   refine pm_Wg.path (k := 2) (ds := []) (f' := (2, [some (.ref 1), some (.retAddr a0)], [.retAddr a0, .ref 1], cl_h (ct_x v1 v2 v3 s0) g1 g2 g3 g4 g5 g6 g7 g8 g9 q)) tk_X6_passWord (by omega) rfl trivial ?_
   refine pm_Wg.callV (m' := 86) (ix := 59) (rr := 104) (pl := 943) (b := 1) (As := [.retAddr a0]) (S := []) (by decide) rfl (pm_dec tk_X6_passWord rfl) rfl rfl (by decide) rfl rfl (by decide) (Nat.le_of_ble_eq_true rfl) rfl (e_X6_sees (by omega) hk q2) ?_
   by_cases h3 : r1 = 0
   · rw [if_pos h3] at H
     cases q5 : f_X6_report s0 1 with
     | none => rw [q5] at H; cases H
     | some s0_4 =>
      rw [q5] at H
      dsimp only at H
      refine pm_Wg.path (k := 3) (ds := [1]) (f' := (17, [some (.ref 1), some (.retAddr a0)], [.int 1, .ref 1], cl_h (ct_x v1 v2 v3 s0) g1 g2 g3 g4 g5 g6 g7 g8 g9 q)) tk_X6_passWord (by omega) rfl ⟨h3, trivial⟩ ?_
      refine pm_Wg.callV (m' := 85) (ix := 63) (rr := 117) (pl := 995) (b := 1) (As := [.int 1]) (S := []) (by decide) rfl (pm_dec tk_X6_passWord rfl) rfl rfl (by decide) rfl rfl (by decide) (Nat.le_of_ble_eq_true rfl) rfl (e_X6_report (by omega) q5) ?_
      have J := Option.some.inj H
      subst J
      exact pm_Wg.vret (pm_dec tk_X6_passWord rfl) rfl
   · rw [if_neg h3] at H
     cases q7 : f_X6_step s0 with
     | none => rw [q7] at H; cases H
     | some s0_6 =>
      rw [q7] at H
      dsimp only at H
      refine pm_Wg.path (k := 2) (ds := [0]) (f' := (9, [some (.ref 1), some (.retAddr a0)], [.ref 1], cl_h (ct_x v1 v2 v3 s0) g1 g2 g3 g4 g5 g6 g7 g8 g9 q)) tk_X6_passWord (by omega) rfl ⟨h3, trivial⟩ ?_
      refine pm_Wg.callV (m' := 84) (ix := 43) (rr := 100) (pl := 927) (b := 1) (As := []) (S := []) (by decide) rfl (pm_dec tk_X6_passWord rfl) rfl rfl (by decide) rfl rfl (by decide) (Nat.le_of_ble_eq_true rfl) rfl (e_X6_step (by omega) q7) ?_
      have J := Option.some.inj H
      subst J
      refine pm_Wg.path (k := 1) (ds := []) (f' := (20, [some (.ref 1), some (.retAddr a0)], [], cl_h (ct_x v1 v2 v3 s0_6) g1 g2 g3 g4 g5 g6 g7 g8 g9 q)) tk_X6_passWord (by omega) rfl trivial ?_
      exact pm_Wg.vret (pm_dec tk_X6_passWord rfl) rfl

def fc_X7_readLine_c5 (s0 : cs_S) (s4 : cs_S) (s8 : cs_S) (l3 : Int32) (k0 : Int32) (k1 : Int32) : Option (cs_S × cs_S) :=
  (match pm_inb k1 100 with
  | false => none
  | true =>
  (match f_X6_passSign s0 with
  | none => none
  | some s0_37 =>
   some (s0_37, (cs_a s8 4 k1 k0))))
def fc_X7_readLine_c4 (s0 : cs_S) (s4 : cs_S) (s8 : cs_S) (l3 : Int32) (k0 : Int32) (k1 : Int32) : Option (cs_S × cs_S) :=
  (match pm_inb k1 100 with
  | false => none
  | true =>
  (match f_X6_sees s0 16 with
  | none => none
  | some r25 =>
   (if r25 = 0 then
    (match f_X6_passSign s0 with
    | none => none
    | some s0_28 =>
     some (s0_28, (cs_a s8 4 k1 k0)))
   else
    (match f_X6_passWord s0 16 with
    | none => none
    | some s0_30 =>
     (match pm_inb ((cs_a s8 4 k1 k0).1 0 0) 100 with
     | false => none
     | true =>
     (match f_X6_takeNumber s0_30 ((cs_a s8 4 k1 k0).2.1 1 (Int32.toNatClampNeg ((cs_a s8 4 k1 k0).1 0 0))) 99999 with
     | none => none
     | some (r33, s0_34) =>
      (fc_X7_readLine_c5 s0_34 s4 (cs_a s8 4 k1 k0) l3 r33 ((cs_a s8 4 k1 k0).1 0 0))))))))
def fc_X7_readLine_c3 (s0 : cs_S) (s4 : cs_S) (s8 : cs_S) (l3 : Int32) (k0 : Int32) (k1 : Int32) : Option (cs_S × cs_S) :=
  (match pm_inb k1 100 with
  | false => none
  | true =>
  (fc_X7_readLine_c4 s0 s4 (cs_a s8 3 k1 k0) l3 (-1) ((cs_a s8 3 k1 k0).1 0 0)))
def fc_X7_readLine_c2 (s0 : cs_S) (s4 : cs_S) (s8 : cs_S) (l3 : Int32) (k0 : Int32) (k1 : Int32) : Option (cs_S × cs_S) :=
  (match pm_inb k1 100 with
  | false => none
  | true =>
  (match pm_inb ((cs_a s8 5 k1 (vp_nar .boolean k0)).1 0 0) 100 with
  | false => none
  | true =>
  (if ((cs_a s8 5 k1 (vp_nar .boolean k0)).2.1 5 (Int32.toNatClampNeg ((cs_a s8 5 k1 (vp_nar .boolean k0)).1 0 0))) = 0 then
   (match f_X6_passWord s0 15 with
   | none => none
   | some s0_16 =>
    (match f_X2_units s4 with
    | none => none
    | some r18 =>
     (match f_X6_takeNumber s0_16 0 (r18 - 1) with
     | none => none
     | some (r20, s0_21) =>
      (fc_X7_readLine_c3 s0_21 s4 (cs_a s8 5 k1 (vp_nar .boolean k0)) l3 r20 ((cs_a s8 5 k1 (vp_nar .boolean k0)).1 0 0)))))
  else
   (match f_X6_passWord s0 14 with
   | none => none
   | some s0_39 =>
    (match f_X2_units s4 with
    | none => none
    | some r41 =>
     (match f_X6_takeNumber s0_39 0 (r41 - 1) with
     | none => none
     | some (r43, s0_44) =>
      (fc_X7_readLine_c3 s0_44 s4 (cs_a s8 5 k1 (vp_nar .boolean k0)) l3 r43 ((cs_a s8 5 k1 (vp_nar .boolean k0)).1 0 0))))))))
def fc_X7_readLine_c1 (s0 : cs_S) (s4 : cs_S) (s8 : cs_S) (l3 : Int32) (k0 : Int32) (k1 : Int32) : Option (cs_S × cs_S) :=
  (match pm_inb k1 100 with
  | false => none
  | true =>
  (match f_X6_sees s0 14 with
  | none => none
  | some r11 =>
   (fc_X7_readLine_c2 s0 s4 (cs_a s8 2 k1 k0) l3 r11 ((cs_a s8 2 k1 k0).1 0 0))))
def f_X7_readLine (s0 : cs_S) (s4 : cs_S) (s8 : cs_S) (a2 : Int32) : Option (cs_S × cs_S) :=
  (match f_X6_passWord s0 13 with
  | none => none
  | some s0_1 =>
   (match f_X6_takeNumber s0_1 a2 99999 with
   | none => none
   | some (r3, s0_4) =>
    (match pm_inb (s8.1 0 0) 100 with
    | false => none
    | true =>
    (match f_X6_takeNumber s0_4 1 ((s4.1 0 7) - 1) with
    | none => none
    | some (r7, s0_8) =>
     (fc_X7_readLine_c1 s0_8 s4 (cs_a s8 1 (s8.1 0 0) r3) a2 r7 ((cs_a s8 1 (s8.1 0 0) r3).1 0 0))))))
def tb_X7_readLine : List pm_I := [(0, .aload_n 1, 0, 0), (1, .ldc 32, 13, 1), (3, .invokevirtual 51, 142, 0), (6, .aload_n 0, 0, 0), (7, .getfield 15, 149, 0), (10, .aload_n 0, 0, 0), (11, .getfield 9, 146, 0), (14, .aload_n 1, 0, 0), (15, .iload_n 3, 0, 0), (16, .ldc 55, 6, 0), (18, .invokevirtual 56, 143, 0), (21, .iastore, 0, 0), (22, .aload_n 0, 0, 0), (23, .getfield 19, 151, 0), (26, .aload_n 0, 0, 0), (27, .getfield 9, 146, 0), (30, .aload_n 1, 0, 0), (31, .iconst 1, 3, 0), (32, .aload_n 2, 0, 0), (33, .getfield 60, 132, 0), (36, .iconst 1, 3, 0), (37, .isub, 0, 0), (38, .invokevirtual 56, 143, 0), (41, .iastore, 0, 0), (42, .aload_n 0, 0, 0), (43, .getfield 28, 157, 0), (46, .aload_n 0, 0, 0), (47, .getfield 9, 146, 0), (50, .aload_n 1, 0, 0), (51, .ldc 65, 14, 1), (53, .invokevirtual 34, 140, 0), (56, .bastore, 0, 0), (57, .aload_n 1, 0, 0), (58, .aload_n 0, 0, 0), (59, .getfield 28, 157, 0), (62, .aload_n 0, 0, 0), (63, .getfield 9, 146, 0), (66, .baload, 0, 0), (67, .ifCond .eq 8, 75, 0), (70, .ldc 65, 14, 1), (72, .goto 5, 77, 0), (75, .ldc 67, 15, 1), (77, .invokevirtual 51, 142, 0), (80, .aload_n 0, 0, 0), (81, .getfield 22, 153, 0), (84, .aload_n 0, 0, 0), (85, .getfield 9, 146, 0), (88, .aload_n 1, 0, 0), (89, .iconst 0, 2, 0), (90, .aload_n 2, 0, 0), (91, .invokevirtual 69, 144, 0), (94, .iconst 1, 3, 0), (95, .isub, 0, 0), (96, .invokevirtual 56, 143, 0), (99, .iastore, 0, 0), (100, .aload_n 0, 0, 0), (101, .getfield 25, 155, 0), (104, .aload_n 0, 0, 0), (105, .getfield 9, 146, 0), (108, .iconst (-1), 1, 0), (109, .iastore, 0, 0), (110, .aload_n 1, 0, 0), (111, .ldc 73, 16, 1), (113, .invokevirtual 34, 140, 0), (116, .ifCond .eq 33, 149, 0), (119, .aload_n 1, 0, 0), (120, .ldc 73, 16, 1), (122, .invokevirtual 51, 142, 0), (125, .aload_n 0, 0, 0), (126, .getfield 25, 155, 0), (129, .aload_n 0, 0, 0), (130, .getfield 9, 146, 0), (133, .aload_n 1, 0, 0), (134, .aload_n 0, 0, 0), (135, .getfield 15, 149, 0), (138, .aload_n 0, 0, 0), (139, .getfield 9, 146, 0), (142, .iaload, 0, 0), (143, .ldc 55, 6, 0), (145, .invokevirtual 56, 143, 0), (148, .iastore, 0, 0), (149, .aload_n 1, 0, 0), (150, .invokevirtual 75, 145, 0), (153, .return_, 0, 0)]
theorem tk_X7_readLine : ∀ e ∈ tb_X7_readLine, pm_ck 95 e = true := List.all_eq_true.mp (by decide +kernel)
set_option maxRecDepth 20000 in
set_option maxHeartbeats 20000000 in
theorem ec_X7_readLine_c5 {d : Nat} (hd : 7 ≤ d) {g1 g2 g3 g5 g6 g7 g9 : List pm_E} {v1 v2 v3 : Value} {q : Nat × Nat × Nat} {s0 : cs_S} {s4 : cs_S} {s8 : cs_S} {l3 : Int32} {k0 : Int32} {k1 : Int32} {z0 : cs_S} {z8 : cs_S} (H : fc_X7_readLine_c5 s0 s4 s8 l3 k0 k1 = some (z0, z8)) : pm_Wg 95 d (.inl (none)) (cl_h (ct_x v1 v2 v3 z0) g1 g2 g3 (ct_p4 s4) g5 g6 g7 (ct_t8 z8) g9 q) (148, [some (.ref 512), some (.ref 1), some (.ref 256), some (.int l3)], [.int k0, .int k1, .ref 516], cl_h (ct_x v1 v2 v3 s0) g1 g2 g3 (ct_p4 s4) g5 g6 g7 (ct_t8 s8) g9 q) := by
  obtain ⟨d, rfl⟩ : ∃ d', d = d' + 1 := ⟨d - 1, by omega⟩
  unfold fc_X7_readLine_c5 at H
  try dsimp only at H
  cases b36 : pm_inb k1 100 with
  | false => rw [b36] at H; cases H
  | true =>
   rw [b36] at H
   dsimp only at H
   cases q38 : f_X6_passSign s0 with
   | none => rw [q38] at H; cases H
   | some s0_37 =>
    rw [q38] at H
    dsimp only at H
    refine pm_Wg.path (k := 2) (ds := []) (f' := (150, [some (.ref 512), some (.ref 1), some (.ref 256), some (.int l3)], [.ref 1], cl_h (ct_x v1 v2 v3 s0) g1 g2 g3 (ct_p4 s4) g5 g6 g7 (ct_t8 (cs_a s8 4 k1 k0)) g9 q)) tk_X7_readLine (by omega) rfl ⟨pm_inb_vp b36, trivial⟩ ?_
    refine pm_Wg.callV (m' := 88) (ix := 75) (rr := 145) (pl := 1128) (b := 1) (As := []) (S := []) (by decide) rfl (pm_dec tk_X7_readLine rfl) rfl rfl (by decide) rfl rfl (by decide) (Nat.le_of_ble_eq_true rfl) rfl (e_X6_passSign (by omega) q38) ?_
    have J := Option.some.inj H
    injection J with J0a J0z
    subst J0a
    subst J0z
    exact pm_Wg.vret (pm_dec tk_X7_readLine rfl) rfl
set_option maxRecDepth 20000 in
set_option maxHeartbeats 20000000 in
theorem ec_X7_readLine_c4 {d : Nat} (hd : 7 ≤ d) {g1 g2 g3 g5 g6 g7 g9 : List pm_E} {v1 v2 v3 : Value} {q : Nat × Nat × Nat} {s0 : cs_S} {s4 : cs_S} {s8 : cs_S} {l3 : Int32} {k0 : Int32} {k1 : Int32} {z0 : cs_S} {z8 : cs_S} (H : fc_X7_readLine_c4 s0 s4 s8 l3 k0 k1 = some (z0, z8)) : pm_Wg 95 d (.inl (none)) (cl_h (ct_x v1 v2 v3 z0) g1 g2 g3 (ct_p4 s4) g5 g6 g7 (ct_t8 z8) g9 q) (109, [some (.ref 512), some (.ref 1), some (.ref 256), some (.int l3)], [.int k0, .int k1, .ref 516], cl_h (ct_x v1 v2 v3 s0) g1 g2 g3 (ct_p4 s4) g5 g6 g7 (ct_t8 s8) g9 q) := by
  obtain ⟨d, rfl⟩ : ∃ d', d = d' + 1 := ⟨d - 1, by omega⟩
  unfold fc_X7_readLine_c4 at H
  try dsimp only at H
  cases b24 : pm_inb k1 100 with
  | false => rw [b24] at H; cases H
  | true =>
   rw [b24] at H
   dsimp only at H
   cases q26 : f_X6_sees s0 16 with
   | none => rw [q26] at H; cases H
   | some r25 =>
    rw [q26] at H
    dsimp only at H
    refine pm_Wg.path (k := 3) (ds := []) (f' := (113, [some (.ref 512), some (.ref 1), some (.ref 256), some (.int l3)], [.retAddr 16, .ref 1], cl_h (ct_x v1 v2 v3 s0) g1 g2 g3 (ct_p4 s4) g5 g6 g7 (ct_t8 (cs_a s8 4 k1 k0)) g9 q)) tk_X7_readLine (by omega) rfl ⟨pm_inb_vp b24, trivial⟩ ?_
    refine pm_Wg.callV (m' := 86) (ix := 34) (rr := 140) (pl := 1113) (b := 1) (As := [.retAddr 16]) (S := []) (by decide) rfl (pm_dec tk_X7_readLine rfl) rfl rfl (by decide) rfl rfl (by decide) (Nat.le_of_ble_eq_true rfl) rfl (e_X6_sees (by omega) rfl q26) ?_
    by_cases h27 : r25 = 0
    · rw [if_pos h27] at H
      cases q29 : f_X6_passSign s0 with
      | none => rw [q29] at H; cases H
      | some s0_28 =>
       rw [q29] at H
       dsimp only at H
       refine pm_Wg.path (k := 2) (ds := [1]) (f' := (150, [some (.ref 512), some (.ref 1), some (.ref 256), some (.int l3)], [.ref 1], cl_h (ct_x v1 v2 v3 s0) g1 g2 g3 (ct_p4 s4) g5 g6 g7 (ct_t8 (cs_a s8 4 k1 k0)) g9 q)) tk_X7_readLine (by omega) rfl ⟨h27, trivial⟩ ?_
       refine pm_Wg.callV (m' := 88) (ix := 75) (rr := 145) (pl := 1128) (b := 1) (As := []) (S := []) (by decide) rfl (pm_dec tk_X7_readLine rfl) rfl rfl (by decide) rfl rfl (by decide) (Nat.le_of_ble_eq_true rfl) rfl (e_X6_passSign (by omega) q29) ?_
       have J := Option.some.inj H
       injection J with J0a J0z
       subst J0a
       subst J0z
       exact pm_Wg.vret (pm_dec tk_X7_readLine rfl) rfl
    · rw [if_neg h27] at H
      cases q31 : f_X6_passWord s0 16 with
      | none => rw [q31] at H; cases H
      | some s0_30 =>
       rw [q31] at H
       dsimp only at H
       refine pm_Wg.path (k := 3) (ds := [0]) (f' := (122, [some (.ref 512), some (.ref 1), some (.ref 256), some (.int l3)], [.retAddr 16, .ref 1], cl_h (ct_x v1 v2 v3 s0) g1 g2 g3 (ct_p4 s4) g5 g6 g7 (ct_t8 (cs_a s8 4 k1 k0)) g9 q)) tk_X7_readLine (by omega) rfl ⟨h27, trivial⟩ ?_
       refine pm_Wg.callV (m' := 87) (ix := 51) (rr := 142) (pl := 1118) (b := 1) (As := [.retAddr 16]) (S := []) (by decide) rfl (pm_dec tk_X7_readLine rfl) rfl rfl (by decide) rfl rfl (by decide) (Nat.le_of_ble_eq_true rfl) rfl (e_X6_passWord (by omega) rfl q31) ?_
       cases b32 : pm_inb ((cs_a s8 4 k1 k0).1 0 0) 100 with
       | false => rw [b32] at H; cases H
       | true =>
        rw [b32] at H
        dsimp only at H
        cases q35 : f_X6_takeNumber s0_30 ((cs_a s8 4 k1 k0).2.1 1 (Int32.toNatClampNeg ((cs_a s8 4 k1 k0).1 0 0))) 99999 with
        | none => rw [q35] at H; cases H
        | some w =>
         obtain ⟨r33, s0_34⟩ := w
         rw [q35] at H
         dsimp only at H
         refine pm_Wg.path (k := 11) (ds := []) (f' := (145, [some (.ref 512), some (.ref 1), some (.ref 256), some (.int l3)], [.int 99999, .int ((cs_a s8 4 k1 k0).2.1 1 (Int32.toNatClampNeg ((cs_a s8 4 k1 k0).1 0 0))), .ref 1, .int ((cs_a s8 4 k1 k0).1 0 0), .ref 516], cl_h (ct_x v1 v2 v3 s0_30) g1 g2 g3 (ct_p4 s4) g5 g6 g7 (ct_t8 (cs_a s8 4 k1 k0)) g9 q)) tk_X7_readLine (by omega) rfl ⟨pm_inb_vp b32, trivial⟩ ?_
         refine pm_Wg.callV (m' := 90) (ix := 56) (rr := 143) (pl := 1120) (b := 1) (As := [.int ((cs_a s8 4 k1 k0).2.1 1 (Int32.toNatClampNeg ((cs_a s8 4 k1 k0).1 0 0))), .int 99999]) (S := [.int ((cs_a s8 4 k1 k0).1 0 0), .ref 516]) (by decide) rfl (pm_dec tk_X7_readLine rfl) rfl rfl (by decide) rfl rfl (by decide) (Nat.le_of_ble_eq_true rfl) rfl (e_X6_takeNumber (by omega) q35) ?_
         exact ec_X7_readLine_c5 (by omega) H
set_option maxRecDepth 20000 in
set_option maxHeartbeats 20000000 in
theorem ec_X7_readLine_c3 {d : Nat} (hd : 7 ≤ d) {g1 g2 g3 g5 g6 g7 g9 : List pm_E} {v1 v2 v3 : Value} {q : Nat × Nat × Nat} {s0 : cs_S} {s4 : cs_S} {s8 : cs_S} {l3 : Int32} {k0 : Int32} {k1 : Int32} {z0 : cs_S} {z8 : cs_S} (H : fc_X7_readLine_c3 s0 s4 s8 l3 k0 k1 = some (z0, z8)) : pm_Wg 95 d (.inl (none)) (cl_h (ct_x v1 v2 v3 z0) g1 g2 g3 (ct_p4 s4) g5 g6 g7 (ct_t8 z8) g9 q) (99, [some (.ref 512), some (.ref 1), some (.ref 256), some (.int l3)], [.int k0, .int k1, .ref 515], cl_h (ct_x v1 v2 v3 s0) g1 g2 g3 (ct_p4 s4) g5 g6 g7 (ct_t8 s8) g9 q) := by
  obtain ⟨d, rfl⟩ : ∃ d', d = d' + 1 := ⟨d - 1, by omega⟩
  unfold fc_X7_readLine_c3 at H
  try dsimp only at H
  cases b23 : pm_inb k1 100 with
  | false => rw [b23] at H; cases H
  | true =>
   rw [b23] at H
   dsimp only at H
   refine pm_Wg.path (k := 6) (ds := []) (f' := (109, [some (.ref 512), some (.ref 1), some (.ref 256), some (.int l3)], [.int (-1), .int ((cs_a s8 3 k1 k0).1 0 0), .ref 516], cl_h (ct_x v1 v2 v3 s0) g1 g2 g3 (ct_p4 s4) g5 g6 g7 (ct_t8 (cs_a s8 3 k1 k0)) g9 q)) tk_X7_readLine (by omega) rfl ⟨pm_inb_vp b23, trivial⟩ ?_
   exact ec_X7_readLine_c4 (by omega) H
set_option maxRecDepth 20000 in
set_option maxHeartbeats 20000000 in
theorem ec_X7_readLine_c2 {d : Nat} (hd : 7 ≤ d) {g1 g2 g3 g5 g6 g7 g9 : List pm_E} {v1 v2 v3 : Value} {q : Nat × Nat × Nat} {s0 : cs_S} {s4 : cs_S} {s8 : cs_S} {l3 : Int32} {k0 : Int32} {k1 : Int32} {z0 : cs_S} {z8 : cs_S} (H : fc_X7_readLine_c2 s0 s4 s8 l3 k0 k1 = some (z0, z8)) : pm_Wg 95 d (.inl (none)) (cl_h (ct_x v1 v2 v3 z0) g1 g2 g3 (ct_p4 s4) g5 g6 g7 (ct_t8 z8) g9 q) (56, [some (.ref 512), some (.ref 1), some (.ref 256), some (.int l3)], [.int k0, .int k1, .ref 517], cl_h (ct_x v1 v2 v3 s0) g1 g2 g3 (ct_p4 s4) g5 g6 g7 (ct_t8 s8) g9 q) := by
  obtain ⟨d, rfl⟩ : ∃ d', d = d' + 1 := ⟨d - 1, by omega⟩
  unfold fc_X7_readLine_c2 at H
  try dsimp only at H
  cases b13 : pm_inb k1 100 with
  | false => rw [b13] at H; cases H
  | true =>
   rw [b13] at H
   dsimp only at H
   cases b14 : pm_inb ((cs_a s8 5 k1 (vp_nar .boolean k0)).1 0 0) 100 with
   | false => rw [b14] at H; cases H
   | true =>
    rw [b14] at H
    dsimp only at H
    by_cases h15 : ((cs_a s8 5 k1 (vp_nar .boolean k0)).2.1 5 (Int32.toNatClampNeg ((cs_a s8 5 k1 (vp_nar .boolean k0)).1 0 0))) = 0
    · rw [if_pos h15] at H
      cases q17 : f_X6_passWord s0 15 with
      | none => rw [q17] at H; cases H
      | some s0_16 =>
       rw [q17] at H
       dsimp only at H
       refine pm_Wg.path (k := 9) (ds := [1]) (f' := (77, [some (.ref 512), some (.ref 1), some (.ref 256), some (.int l3)], [.retAddr 15, .ref 1], cl_h (ct_x v1 v2 v3 s0) g1 g2 g3 (ct_p4 s4) g5 g6 g7 (ct_t8 (cs_a s8 5 k1 (vp_nar .boolean k0))) g9 q)) tk_X7_readLine (by omega) rfl ⟨h15, pm_inb_vp b14, pm_inb_vp b13, trivial⟩ ?_
       refine pm_Wg.callV (m' := 87) (ix := 51) (rr := 142) (pl := 1118) (b := 1) (As := [.retAddr 15]) (S := []) (by decide) rfl (pm_dec tk_X7_readLine rfl) rfl rfl (by decide) rfl rfl (by decide) (Nat.le_of_ble_eq_true rfl) rfl (e_X6_passWord (by omega) rfl q17) ?_
       cases q19 : f_X2_units s4 with
       | none => rw [q19] at H; cases H
       | some r18 =>
        rw [q19] at H
        dsimp only at H
        refine pm_Wg.path (k := 7) (ds := []) (f' := (91, [some (.ref 512), some (.ref 1), some (.ref 256), some (.int l3)], [.ref 256, .int 0, .ref 1, .int ((cs_a s8 5 k1 (vp_nar .boolean k0)).1 0 0), .ref 515], cl_h (ct_x v1 v2 v3 s0_16) g1 g2 g3 (ct_p4 s4) g5 g6 g7 (ct_t8 (cs_a s8 5 k1 (vp_nar .boolean k0))) g9 q)) tk_X7_readLine (by omega) rfl trivial ?_
        refine pm_Wg.callV (m' := 36) (ix := 69) (rr := 144) (pl := 1123) (b := 256) (As := []) (S := [.int 0, .ref 1, .int ((cs_a s8 5 k1 (vp_nar .boolean k0)).1 0 0), .ref 515]) (by decide) rfl (pm_dec tk_X7_readLine rfl) rfl rfl (by decide) rfl rfl (by decide) (Nat.le_of_ble_eq_true rfl) rfl (e_X2_units (by omega) q19) ?_
        cases q22 : f_X6_takeNumber s0_16 0 (r18 - 1) with
        | none => rw [q22] at H; cases H
        | some w =>
         obtain ⟨r20, s0_21⟩ := w
         rw [q22] at H
         dsimp only at H
         refine pm_Wg.path (k := 2) (ds := []) (f' := (96, [some (.ref 512), some (.ref 1), some (.ref 256), some (.int l3)], [.int (r18 - 1), .int 0, .ref 1, .int ((cs_a s8 5 k1 (vp_nar .boolean k0)).1 0 0), .ref 515], cl_h (ct_x v1 v2 v3 s0_16) g1 g2 g3 (ct_p4 s4) g5 g6 g7 (ct_t8 (cs_a s8 5 k1 (vp_nar .boolean k0))) g9 q)) tk_X7_readLine (by omega) rfl trivial ?_
         refine pm_Wg.callV (m' := 90) (ix := 56) (rr := 143) (pl := 1120) (b := 1) (As := [.int 0, .int (r18 - 1)]) (S := [.int ((cs_a s8 5 k1 (vp_nar .boolean k0)).1 0 0), .ref 515]) (by decide) rfl (pm_dec tk_X7_readLine rfl) rfl rfl (by decide) rfl rfl (by decide) (Nat.le_of_ble_eq_true rfl) rfl (e_X6_takeNumber (by omega) q22) ?_
         exact ec_X7_readLine_c3 (by omega) H
    · rw [if_neg h15] at H
      cases q40 : f_X6_passWord s0 14 with
      | none => rw [q40] at H; cases H
      | some s0_39 =>
       rw [q40] at H
       dsimp only at H
       refine pm_Wg.path (k := 10) (ds := [0]) (f' := (77, [some (.ref 512), some (.ref 1), some (.ref 256), some (.int l3)], [.retAddr 14, .ref 1], cl_h (ct_x v1 v2 v3 s0) g1 g2 g3 (ct_p4 s4) g5 g6 g7 (ct_t8 (cs_a s8 5 k1 (vp_nar .boolean k0))) g9 q)) tk_X7_readLine (by omega) rfl ⟨h15, pm_inb_vp b14, pm_inb_vp b13, trivial⟩ ?_
       refine pm_Wg.callV (m' := 87) (ix := 51) (rr := 142) (pl := 1118) (b := 1) (As := [.retAddr 14]) (S := []) (by decide) rfl (pm_dec tk_X7_readLine rfl) rfl rfl (by decide) rfl rfl (by decide) (Nat.le_of_ble_eq_true rfl) rfl (e_X6_passWord (by omega) rfl q40) ?_
       cases q42 : f_X2_units s4 with
       | none => rw [q42] at H; cases H
       | some r41 =>
        rw [q42] at H
        dsimp only at H
        refine pm_Wg.path (k := 7) (ds := []) (f' := (91, [some (.ref 512), some (.ref 1), some (.ref 256), some (.int l3)], [.ref 256, .int 0, .ref 1, .int ((cs_a s8 5 k1 (vp_nar .boolean k0)).1 0 0), .ref 515], cl_h (ct_x v1 v2 v3 s0_39) g1 g2 g3 (ct_p4 s4) g5 g6 g7 (ct_t8 (cs_a s8 5 k1 (vp_nar .boolean k0))) g9 q)) tk_X7_readLine (by omega) rfl trivial ?_
        refine pm_Wg.callV (m' := 36) (ix := 69) (rr := 144) (pl := 1123) (b := 256) (As := []) (S := [.int 0, .ref 1, .int ((cs_a s8 5 k1 (vp_nar .boolean k0)).1 0 0), .ref 515]) (by decide) rfl (pm_dec tk_X7_readLine rfl) rfl rfl (by decide) rfl rfl (by decide) (Nat.le_of_ble_eq_true rfl) rfl (e_X2_units (by omega) q42) ?_
        cases q45 : f_X6_takeNumber s0_39 0 (r41 - 1) with
        | none => rw [q45] at H; cases H
        | some w =>
         obtain ⟨r43, s0_44⟩ := w
         rw [q45] at H
         dsimp only at H
         refine pm_Wg.path (k := 2) (ds := []) (f' := (96, [some (.ref 512), some (.ref 1), some (.ref 256), some (.int l3)], [.int (r41 - 1), .int 0, .ref 1, .int ((cs_a s8 5 k1 (vp_nar .boolean k0)).1 0 0), .ref 515], cl_h (ct_x v1 v2 v3 s0_39) g1 g2 g3 (ct_p4 s4) g5 g6 g7 (ct_t8 (cs_a s8 5 k1 (vp_nar .boolean k0))) g9 q)) tk_X7_readLine (by omega) rfl trivial ?_
         refine pm_Wg.callV (m' := 90) (ix := 56) (rr := 143) (pl := 1120) (b := 1) (As := [.int 0, .int (r41 - 1)]) (S := [.int ((cs_a s8 5 k1 (vp_nar .boolean k0)).1 0 0), .ref 515]) (by decide) rfl (pm_dec tk_X7_readLine rfl) rfl rfl (by decide) rfl rfl (by decide) (Nat.le_of_ble_eq_true rfl) rfl (e_X6_takeNumber (by omega) q45) ?_
         exact ec_X7_readLine_c3 (by omega) H
set_option maxRecDepth 20000 in
set_option maxHeartbeats 20000000 in
theorem ec_X7_readLine_c1 {d : Nat} (hd : 7 ≤ d) {g1 g2 g3 g5 g6 g7 g9 : List pm_E} {v1 v2 v3 : Value} {q : Nat × Nat × Nat} {s0 : cs_S} {s4 : cs_S} {s8 : cs_S} {l3 : Int32} {k0 : Int32} {k1 : Int32} {z0 : cs_S} {z8 : cs_S} (H : fc_X7_readLine_c1 s0 s4 s8 l3 k0 k1 = some (z0, z8)) : pm_Wg 95 d (.inl (none)) (cl_h (ct_x v1 v2 v3 z0) g1 g2 g3 (ct_p4 s4) g5 g6 g7 (ct_t8 z8) g9 q) (41, [some (.ref 512), some (.ref 1), some (.ref 256), some (.int l3)], [.int k0, .int k1, .ref 514], cl_h (ct_x v1 v2 v3 s0) g1 g2 g3 (ct_p4 s4) g5 g6 g7 (ct_t8 s8) g9 q) := by
  obtain ⟨d, rfl⟩ : ∃ d', d = d' + 1 := ⟨d - 1, by omega⟩
  unfold fc_X7_readLine_c1 at H
  try dsimp only at H
  cases b10 : pm_inb k1 100 with
  | false => rw [b10] at H; cases H
  | true =>
   rw [b10] at H
   dsimp only at H
   cases q12 : f_X6_sees s0 14 with
   | none => rw [q12] at H; cases H
   | some r11 =>
    rw [q12] at H
    dsimp only at H
    refine pm_Wg.path (k := 7) (ds := []) (f' := (53, [some (.ref 512), some (.ref 1), some (.ref 256), some (.int l3)], [.retAddr 14, .ref 1, .int ((cs_a s8 2 k1 k0).1 0 0), .ref 517], cl_h (ct_x v1 v2 v3 s0) g1 g2 g3 (ct_p4 s4) g5 g6 g7 (ct_t8 (cs_a s8 2 k1 k0)) g9 q)) tk_X7_readLine (by omega) rfl ⟨pm_inb_vp b10, trivial⟩ ?_
    refine pm_Wg.callV (m' := 86) (ix := 34) (rr := 140) (pl := 1113) (b := 1) (As := [.retAddr 14]) (S := [.int ((cs_a s8 2 k1 k0).1 0 0), .ref 517]) (by decide) rfl (pm_dec tk_X7_readLine rfl) rfl rfl (by decide) rfl rfl (by decide) (Nat.le_of_ble_eq_true rfl) rfl (e_X6_sees (by omega) rfl q12) ?_
    exact ec_X7_readLine_c2 (by omega) H
set_option maxRecDepth 20000 in
set_option maxHeartbeats 20000000 in
theorem e_X7_readLine {d : Nat} (hd : 7 ≤ d) {g1 g2 g3 g5 g6 g7 g9 : List pm_E} {v1 v2 v3 : Value} {q : Nat × Nat × Nat} {s0 : cs_S} {s4 : cs_S} {s8 : cs_S} {a2 : Int32} {z0 : cs_S} {z8 : cs_S} (H : f_X7_readLine s0 s4 s8 a2 = some (z0, z8)) : pm_Mt 95 d [.ref 512, .ref 1, .ref 256, .int a2] (cl_h (ct_x v1 v2 v3 s0) g1 g2 g3 (ct_p4 s4) g5 g6 g7 (ct_t8 s8) g9 q) (.inl (none)) (cl_h (ct_x v1 v2 v3 z0) g1 g2 g3 (ct_p4 s4) g5 g6 g7 (ct_t8 z8) g9 q) := by
  refine pm_Mt.of (by decide) (by decide +kernel) rfl rfl ?_
  obtain ⟨d, rfl⟩ : ∃ d', d = d' + 1 := ⟨d - 1, by omega⟩
  unfold f_X7_readLine at H
  cases q2 : f_X6_passWord s0 13 with
  | none => rw [q2] at H; cases H
  | some s0_1 =>
   rw [q2] at H
   dsimp only at H
   refine pm_Wg.path (k := 2) (ds := []) (f' := (3, [some (.ref 512), some (.ref 1), some (.ref 256), some (.int a2)], [.retAddr 13, .ref 1], cl_h (ct_x v1 v2 v3 s0) g1 g2 g3 (ct_p4 s4) g5 g6 g7 (ct_t8 s8) g9 q)) tk_X7_readLine (by omega) rfl trivial ?_
   refine pm_Wg.callV (m' := 87) (ix := 51) (rr := 142) (pl := 1118) (b := 1) (As := [.retAddr 13]) (S := []) (by decide) rfl (pm_dec tk_X7_readLine rfl) rfl rfl (by decide) rfl rfl (by decide) (Nat.le_of_ble_eq_true rfl) rfl (e_X6_passWord (by omega) rfl q2) ?_
   cases q5 : f_X6_takeNumber s0_1 a2 99999 with
   | none => rw [q5] at H; cases H
   | some w =>
    obtain ⟨r3, s0_4⟩ := w
    rw [q5] at H
    dsimp only at H
    refine pm_Wg.path (k := 7) (ds := []) (f' := (18, [some (.ref 512), some (.ref 1), some (.ref 256), some (.int a2)], [.int 99999, .int a2, .ref 1, .int (s8.1 0 0), .ref 513], cl_h (ct_x v1 v2 v3 s0_1) g1 g2 g3 (ct_p4 s4) g5 g6 g7 (ct_t8 s8) g9 q)) tk_X7_readLine (by omega) rfl trivial ?_
    refine pm_Wg.callV (m' := 90) (ix := 56) (rr := 143) (pl := 1120) (b := 1) (As := [.int a2, .int 99999]) (S := [.int (s8.1 0 0), .ref 513]) (by decide) rfl (pm_dec tk_X7_readLine rfl) rfl rfl (by decide) rfl rfl (by decide) (Nat.le_of_ble_eq_true rfl) rfl (e_X6_takeNumber (by omega) q5) ?_
    cases b6 : pm_inb (s8.1 0 0) 100 with
    | false => rw [b6] at H; cases H
    | true =>
     rw [b6] at H
     dsimp only at H
     cases q9 : f_X6_takeNumber s0_4 1 ((s4.1 0 7) - 1) with
     | none => rw [q9] at H; cases H
     | some w =>
      obtain ⟨r7, s0_8⟩ := w
      rw [q9] at H
      dsimp only at H
      refine pm_Wg.path (k := 11) (ds := []) (f' := (38, [some (.ref 512), some (.ref 1), some (.ref 256), some (.int a2)], [.int ((s4.1 0 7) - 1), .int 1, .ref 1, .int ((cs_a s8 1 (s8.1 0 0) r3).1 0 0), .ref 514], cl_h (ct_x v1 v2 v3 s0_4) g1 g2 g3 (ct_p4 s4) g5 g6 g7 (ct_t8 (cs_a s8 1 (s8.1 0 0) r3)) g9 q)) tk_X7_readLine (by omega) rfl ⟨pm_inb_vp b6, trivial⟩ ?_
      refine pm_Wg.callV (m' := 90) (ix := 56) (rr := 143) (pl := 1120) (b := 1) (As := [.int 1, .int ((s4.1 0 7) - 1)]) (S := [.int ((cs_a s8 1 (s8.1 0 0) r3).1 0 0), .ref 514]) (by decide) rfl (pm_dec tk_X7_readLine rfl) rfl rfl (by decide) rfl rfl (by decide) (Nat.le_of_ble_eq_true rfl) rfl (e_X6_takeNumber (by omega) q9) ?_
      exact ec_X7_readLine_c1 (by omega) H

def lb_X7_readFrom_10 (s4 : cs_S) (x : cs_S × cs_S × Int32 × Int32) : Option ((cs_S × cs_S × Int32 × Int32) ⊕ (cs_S × cs_S)) := match x with
  | (s0, s8, l3, l4) =>
   (if 100 ≤ (s8.1 0 0) then
    (match f_X6_sees s0 13 with
    | none => none
    | some r2 =>
     (if r2 = 0 then
      (match f_X6_passEnd s0 with
      | none => none
      | some s0_5 =>
       some (.inr (s0_5, s8)))
     else
      (match f_X6_report s0 3 with
      | none => none
      | some s0_7 =>
       (match f_X6_passEnd s0_7 with
       | none => none
       | some s0_9 =>
        some (.inr (s0_9, s8))))))
   else
    (match f_X6_sees s0 13 with
    | none => none
    | some r11 =>
     (if r11 = 0 then
      (if r11 = 0 then
       (match f_X6_passEnd s0 with
       | none => none
       | some s0_17 =>
        some (.inr (s0_17, s8)))
      else
       (match f_X6_report s0 3 with
       | none => none
       | some s0_19 =>
        (match f_X6_passEnd s0_19 with
        | none => none
        | some s0_21 =>
         some (.inr (s0_21, s8)))))
     else
      (match f_X7_readLine s0 s4 s8 l4 with
      | none => none
      | some (s0_23, s8_24) =>
       (match pm_inb (s8_24.1 0 0) 100 with
       | false => none
       | true =>
       some (.inl (s0_23, (cs_i s8_24 0 0 ((s8_24.1 0 0) + 1)), l3, (s8_24.2.1 1 (Int32.toNatClampNeg (s8_24.1 0 0))))))))))
def f_X7_readFrom (s0 : cs_S) (s4 : cs_S) (s8 : cs_S) (a2 : Int32) : Option (cs_S × cs_S) :=
  (pm_loop pm_fu (lb_X7_readFrom_10 s4) (s0, (cs_i s8 0 0 0), a2, (a2 + 1)))
def tb_X7_readFrom : List pm_I := [(0, .iload_n 3, 0, 0), (1, .iconst 1, 3, 0), (2, .iadd, 0, 0), (3, .istore 4, 0, 0), (5, .aload_n 0, 0, 0), (6, .iconst 0, 2, 0), (7, .putfield 9, 146, 0), (10, .aload_n 0, 0, 0), (11, .getfield 9, 146, 0), (14, .bipush 100, 29, 0), (16, .if_icmp .ge 44, 60, 0), (19, .aload_n 1, 0, 0), (20, .ldc 32, 13, 1), (22, .invokevirtual 34, 140, 0), (25, .ifCond .eq 35, 60, 0), (28, .aload_n 0, 0, 0), (29, .aload_n 1, 0, 0), (30, .aload_n 2, 0, 0), (31, .iload 4, 0, 0), (33, .invokevirtual 40, 141, 0), (36, .aload_n 0, 0, 0), (37, .getfield 15, 149, 0), (40, .aload_n 0, 0, 0), (41, .getfield 9, 146, 0), (44, .iaload, 0, 0), (45, .istore 4, 0, 0), (47, .aload_n 0, 0, 0), (48, .dup, 0, 0), (49, .getfield 9, 146, 0), (52, .iconst 1, 3, 0), (53, .iadd, 0, 0), (54, .putfield 9, 146, 0), (57, .goto (-47), 10, 0), (60, .aload_n 1, 0, 0), (61, .ldc 32, 13, 1), (63, .invokevirtual 34, 140, 0), (66, .ifCond .eq 8, 74, 0), (69, .aload_n 1, 0, 0), (70, .iconst 3, 5, 0), (71, .invokevirtual 44, 146, 0), (74, .aload_n 1, 0, 0), (75, .invokevirtual 48, 147, 0), (78, .return_, 0, 0)]
theorem tk_X7_readFrom : ∀ e ∈ tb_X7_readFrom, pm_ck 94 e = true := List.all_eq_true.mp (by decide +kernel)
set_option maxRecDepth 20000 in
set_option maxHeartbeats 40000000 in
theorem ll_X7_readFrom_10 {d : Nat} (hd : 8 ≤ d) {g1 g2 g3 g5 g6 g7 g9 : List pm_E} {v1 v2 v3 : Value} {q : Nat × Nat × Nat} {s4 : cs_S} {z0 : cs_S} {z8 : cs_S} (P : cs_S × cs_S → Prop) (K0 : ∀ e : cs_S × cs_S, P (e) → e = (z0, z8)) : ∀ (n : Nat) (s0 : cs_S) (s8 : cs_S) (l3 : Int32) (l4 : Int32) (e : cs_S × cs_S), pm_loop n (lb_X7_readFrom_10 s4) (s0, s8, l3, l4) = some e → P e → pm_Wg 94 d (.inl (none)) (cl_h (ct_x v1 v2 v3 z0) g1 g2 g3 (ct_p4 s4) g5 g6 g7 (ct_t8 z8) g9 q) (10, [some (.ref 512), some (.ref 1), some (.ref 256), some (.int l3), some (.int l4)], [], cl_h (ct_x v1 v2 v3 s0) g1 g2 g3 (ct_p4 s4) g5 g6 g7 (ct_t8 s8) g9 q) := by
  intro n
  induction n with
  | zero => intro s0 s8 l3 l4 e H; cases H
  | succ n ih =>
    intro s0 s8 l3 l4 e H hPe
    obtain ⟨d, rfl⟩ : ∃ d', d = d' + 1 := ⟨d - 1, by omega⟩
    have H : pm_lst (pm_loop n (lb_X7_readFrom_10 s4)) (lb_X7_readFrom_10 s4 (s0, s8, l3, l4)) = some e := H
    generalize pm_loop n (lb_X7_readFrom_10 s4) = LB at H ih
    unfold lb_X7_readFrom_10 at H
    try dsimp only at H
    by_cases h1 : 100 ≤ (s8.1 0 0)
    · rw [if_pos h1] at H
      cases q3 : f_X6_sees s0 13 with
      | none => rw [q3] at H; cases H
      | some r2 =>
       rw [q3] at H
       dsimp only at H
       refine pm_Wg.path (k := 6) (ds := [1]) (f' := (63, [some (.ref 512), some (.ref 1), some (.ref 256), some (.int l3), some (.int l4)], [.retAddr 13, .ref 1], cl_h (ct_x v1 v2 v3 s0) g1 g2 g3 (ct_p4 s4) g5 g6 g7 (ct_t8 s8) g9 q)) tk_X7_readFrom (by omega) rfl ⟨h1, trivial⟩ ?_
       refine pm_Wg.callV (m' := 86) (ix := 34) (rr := 140) (pl := 1113) (b := 1) (As := [.retAddr 13]) (S := []) (by decide) rfl (pm_dec tk_X7_readFrom rfl) rfl rfl (by decide) rfl rfl (by decide) (Nat.le_of_ble_eq_true rfl) rfl (e_X6_sees (by omega) rfl q3) ?_
       by_cases h4 : r2 = 0
       · rw [if_pos h4] at H
         cases q6 : f_X6_passEnd s0 with
         | none => rw [q6] at H; cases H
         | some s0_5 =>
          rw [q6] at H
          dsimp only at H
          refine pm_Wg.path (k := 2) (ds := [1]) (f' := (75, [some (.ref 512), some (.ref 1), some (.ref 256), some (.int l3), some (.int l4)], [.ref 1], cl_h (ct_x v1 v2 v3 s0) g1 g2 g3 (ct_p4 s4) g5 g6 g7 (ct_t8 s8) g9 q)) tk_X7_readFrom (by omega) rfl ⟨h4, trivial⟩ ?_
          refine pm_Wg.callV (m' := 89) (ix := 48) (rr := 147) (pl := 1130) (b := 1) (As := []) (S := []) (by decide) rfl (pm_dec tk_X7_readFrom rfl) rfl rfl (by decide) rfl rfl (by decide) (Nat.le_of_ble_eq_true rfl) rfl (e_X6_passEnd (by omega) q6) ?_
          have He := Option.some.inj H
          subst He
          have J := K0 _ hPe
          injection J with J0a J0z
          subst J0a
          subst J0z
          exact pm_Wg.vret (pm_dec tk_X7_readFrom rfl) rfl
       · rw [if_neg h4] at H
         cases q8 : f_X6_report s0 3 with
         | none => rw [q8] at H; cases H
         | some s0_7 =>
          rw [q8] at H
          dsimp only at H
          refine pm_Wg.path (k := 3) (ds := [0]) (f' := (71, [some (.ref 512), some (.ref 1), some (.ref 256), some (.int l3), some (.int l4)], [.int 3, .ref 1], cl_h (ct_x v1 v2 v3 s0) g1 g2 g3 (ct_p4 s4) g5 g6 g7 (ct_t8 s8) g9 q)) tk_X7_readFrom (by omega) rfl ⟨h4, trivial⟩ ?_
          refine pm_Wg.callV (m' := 85) (ix := 44) (rr := 146) (pl := 1129) (b := 1) (As := [.int 3]) (S := []) (by decide) rfl (pm_dec tk_X7_readFrom rfl) rfl rfl (by decide) rfl rfl (by decide) (Nat.le_of_ble_eq_true rfl) rfl (e_X6_report (by omega) q8) ?_
          cases q10 : f_X6_passEnd s0_7 with
          | none => rw [q10] at H; cases H
          | some s0_9 =>
           rw [q10] at H
           dsimp only at H
           refine pm_Wg.path (k := 1) (ds := []) (f' := (75, [some (.ref 512), some (.ref 1), some (.ref 256), some (.int l3), some (.int l4)], [.ref 1], cl_h (ct_x v1 v2 v3 s0_7) g1 g2 g3 (ct_p4 s4) g5 g6 g7 (ct_t8 s8) g9 q)) tk_X7_readFrom (by omega) rfl trivial ?_
           refine pm_Wg.callV (m' := 89) (ix := 48) (rr := 147) (pl := 1130) (b := 1) (As := []) (S := []) (by decide) rfl (pm_dec tk_X7_readFrom rfl) rfl rfl (by decide) rfl rfl (by decide) (Nat.le_of_ble_eq_true rfl) rfl (e_X6_passEnd (by omega) q10) ?_
           have He := Option.some.inj H
           subst He
           have J := K0 _ hPe
           injection J with J0a J0z
           subst J0a
           subst J0z
           exact pm_Wg.vret (pm_dec tk_X7_readFrom rfl) rfl
    · rw [if_neg h1] at H
      cases q12 : f_X6_sees s0 13 with
      | none => rw [q12] at H; cases H
      | some r11 =>
       rw [q12] at H
       dsimp only at H
       refine pm_Wg.path (k := 6) (ds := [0]) (f' := (22, [some (.ref 512), some (.ref 1), some (.ref 256), some (.int l3), some (.int l4)], [.retAddr 13, .ref 1], cl_h (ct_x v1 v2 v3 s0) g1 g2 g3 (ct_p4 s4) g5 g6 g7 (ct_t8 s8) g9 q)) tk_X7_readFrom (by omega) rfl ⟨h1, trivial⟩ ?_
       refine pm_Wg.callV (m' := 86) (ix := 34) (rr := 140) (pl := 1113) (b := 1) (As := [.retAddr 13]) (S := []) (by decide) rfl (pm_dec tk_X7_readFrom rfl) rfl rfl (by decide) rfl rfl (by decide) (Nat.le_of_ble_eq_true rfl) rfl (e_X6_sees (by omega) rfl q12) ?_
       by_cases h13 : r11 = 0
       · rw [if_pos h13] at H
         refine pm_Wg.path (k := 3) (ds := [1]) (f' := (63, [some (.ref 512), some (.ref 1), some (.ref 256), some (.int l3), some (.int l4)], [.retAddr 13, .ref 1], cl_h (ct_x v1 v2 v3 s0) g1 g2 g3 (ct_p4 s4) g5 g6 g7 (ct_t8 s8) g9 q)) tk_X7_readFrom (by omega) rfl ⟨h13, trivial⟩ ?_
         refine pm_Wg.callV (m' := 86) (ix := 34) (rr := 140) (pl := 1113) (b := 1) (As := [.retAddr 13]) (S := []) (by decide) rfl (pm_dec tk_X7_readFrom rfl) rfl rfl (by decide) rfl rfl (by decide) (Nat.le_of_ble_eq_true rfl) rfl (e_X6_sees (by omega) rfl q12) ?_
         by_cases h16 : r11 = 0
         · rw [if_pos h16] at H
           cases q18 : f_X6_passEnd s0 with
           | none => rw [q18] at H; cases H
           | some s0_17 =>
            rw [q18] at H
            dsimp only at H
            refine pm_Wg.path (k := 2) (ds := [1]) (f' := (75, [some (.ref 512), some (.ref 1), some (.ref 256), some (.int l3), some (.int l4)], [.ref 1], cl_h (ct_x v1 v2 v3 s0) g1 g2 g3 (ct_p4 s4) g5 g6 g7 (ct_t8 s8) g9 q)) tk_X7_readFrom (by omega) rfl ⟨h16, trivial⟩ ?_
            refine pm_Wg.callV (m' := 89) (ix := 48) (rr := 147) (pl := 1130) (b := 1) (As := []) (S := []) (by decide) rfl (pm_dec tk_X7_readFrom rfl) rfl rfl (by decide) rfl rfl (by decide) (Nat.le_of_ble_eq_true rfl) rfl (e_X6_passEnd (by omega) q18) ?_
            have He := Option.some.inj H
            subst He
            have J := K0 _ hPe
            injection J with J0a J0z
            subst J0a
            subst J0z
            exact pm_Wg.vret (pm_dec tk_X7_readFrom rfl) rfl
         · rw [if_neg h16] at H
           cases q20 : f_X6_report s0 3 with
           | none => rw [q20] at H; cases H
           | some s0_19 =>
            rw [q20] at H
            dsimp only at H
            refine pm_Wg.path (k := 3) (ds := [0]) (f' := (71, [some (.ref 512), some (.ref 1), some (.ref 256), some (.int l3), some (.int l4)], [.int 3, .ref 1], cl_h (ct_x v1 v2 v3 s0) g1 g2 g3 (ct_p4 s4) g5 g6 g7 (ct_t8 s8) g9 q)) tk_X7_readFrom (by omega) rfl ⟨h16, trivial⟩ ?_
            refine pm_Wg.callV (m' := 85) (ix := 44) (rr := 146) (pl := 1129) (b := 1) (As := [.int 3]) (S := []) (by decide) rfl (pm_dec tk_X7_readFrom rfl) rfl rfl (by decide) rfl rfl (by decide) (Nat.le_of_ble_eq_true rfl) rfl (e_X6_report (by omega) q20) ?_
            cases q22 : f_X6_passEnd s0_19 with
            | none => rw [q22] at H; cases H
            | some s0_21 =>
             rw [q22] at H
             dsimp only at H
             refine pm_Wg.path (k := 1) (ds := []) (f' := (75, [some (.ref 512), some (.ref 1), some (.ref 256), some (.int l3), some (.int l4)], [.ref 1], cl_h (ct_x v1 v2 v3 s0_19) g1 g2 g3 (ct_p4 s4) g5 g6 g7 (ct_t8 s8) g9 q)) tk_X7_readFrom (by omega) rfl trivial ?_
             refine pm_Wg.callV (m' := 89) (ix := 48) (rr := 147) (pl := 1130) (b := 1) (As := []) (S := []) (by decide) rfl (pm_dec tk_X7_readFrom rfl) rfl rfl (by decide) rfl rfl (by decide) (Nat.le_of_ble_eq_true rfl) rfl (e_X6_passEnd (by omega) q22) ?_
             have He := Option.some.inj H
             subst He
             have J := K0 _ hPe
             injection J with J0a J0z
             subst J0a
             subst J0z
             exact pm_Wg.vret (pm_dec tk_X7_readFrom rfl) rfl
       · rw [if_neg h13] at H
         cases q25 : f_X7_readLine s0 s4 s8 l4 with
         | none => rw [q25] at H; cases H
         | some w =>
          obtain ⟨s0_23, s8_24⟩ := w
          rw [q25] at H
          dsimp only at H
          refine pm_Wg.path (k := 5) (ds := [0]) (f' := (33, [some (.ref 512), some (.ref 1), some (.ref 256), some (.int l3), some (.int l4)], [.int l4, .ref 256, .ref 1, .ref 512], cl_h (ct_x v1 v2 v3 s0) g1 g2 g3 (ct_p4 s4) g5 g6 g7 (ct_t8 s8) g9 q)) tk_X7_readFrom (by omega) rfl ⟨h13, trivial⟩ ?_
          refine pm_Wg.callV (m' := 95) (ix := 40) (rr := 141) (pl := 1114) (b := 512) (As := [.ref 1, .ref 256, .int l4]) (S := []) (by decide) rfl (pm_dec tk_X7_readFrom rfl) rfl rfl (by decide) rfl rfl (by decide) (Nat.le_of_ble_eq_true rfl) rfl (e_X7_readLine (by omega) q25) ?_
          cases b26 : pm_inb (s8_24.1 0 0) 100 with
          | false => rw [b26] at H; cases H
          | true =>
           rw [b26] at H
           dsimp only at H
           refine pm_Wg.path (k := 13) (ds := []) (f' := (10, [some (.ref 512), some (.ref 1), some (.ref 256), some (.int l3), some (.int (s8_24.2.1 1 (Int32.toNatClampNeg (s8_24.1 0 0))))], [], cl_h (ct_x v1 v2 v3 s0_23) g1 g2 g3 (ct_p4 s4) g5 g6 g7 (ct_t8 (cs_i s8_24 0 0 ((s8_24.1 0 0) + 1))) g9 q)) tk_X7_readFrom (by omega) rfl ⟨pm_inb_vp b26, trivial⟩ ?_
           exact ih _ _ _ _ e H hPe
set_option maxRecDepth 20000 in
set_option maxHeartbeats 20000000 in
theorem e_X7_readFrom {d : Nat} (hd : 8 ≤ d) {g1 g2 g3 g5 g6 g7 g9 : List pm_E} {v1 v2 v3 : Value} {q : Nat × Nat × Nat} {s0 : cs_S} {s4 : cs_S} {s8 : cs_S} {a2 : Int32} {z0 : cs_S} {z8 : cs_S} (H : f_X7_readFrom s0 s4 s8 a2 = some (z0, z8)) : pm_Mt 94 d [.ref 512, .ref 1, .ref 256, .int a2] (cl_h (ct_x v1 v2 v3 s0) g1 g2 g3 (ct_p4 s4) g5 g6 g7 (ct_t8 s8) g9 q) (.inl (none)) (cl_h (ct_x v1 v2 v3 z0) g1 g2 g3 (ct_p4 s4) g5 g6 g7 (ct_t8 z8) g9 q) := by
  refine pm_Mt.of (by decide) (by decide +kernel) rfl rfl ?_
  obtain ⟨d, rfl⟩ : ∃ d', d = d' + 1 := ⟨d - 1, by omega⟩
  unfold f_X7_readFrom at H
  refine pm_Wg.path (k := 7) (ds := []) (f' := (10, [some (.ref 512), some (.ref 1), some (.ref 256), some (.int a2), some (.int (a2 + 1))], [], cl_h (ct_x v1 v2 v3 s0) g1 g2 g3 (ct_p4 s4) g5 g6 g7 (ct_t8 (cs_i s8 0 0 0)) g9 q)) tk_X7_readFrom (by omega) rfl trivial ?_
  exact ll_X7_readFrom_10 (by omega) (fun e => e = (z0, z8)) (fun e he => he) pm_fu _ _ _ _ _ H rfl

def lb_X2_readTenants_5 (x : cs_S × cs_S) : Option ((cs_S × cs_S) ⊕ (cs_S × cs_S)) := match x with
  | (s0, s3) =>
   (if 6 ≤ (s3.1 0 7) then
    (match f_X6_sees s0 9 with
    | none => none
    | some r2 =>
     (if r2 = 0 then
      some (.inr (s0, s3))
     else
      (match f_X6_report s0 3 with
      | none => none
      | some s0_5 =>
       some (.inr (s0_5, s3)))))
   else
    (match f_X6_sees s0 9 with
    | none => none
    | some r7 =>
     (if r7 = 0 then
      (if r7 = 0 then
       some (.inr (s0, s3))
      else
       (match f_X6_report s0 3 with
       | none => none
       | some s0_13 =>
        some (.inr (s0_13, s3))))
     else
      (match f_X6_passWord s0 9 with
      | none => none
      | some s0_15 =>
       (match f_X2_readShare s0_15 s3 (s3.1 0 7) with
       | none => none
       | some (s0_17, s3_18) =>
        (match f_X6_passSign s0_17 with
        | none => none
        | some s0_20 =>
         some (.inl (s0_20, (cs_i s3_18 0 7 ((s3_18.1 0 7) + 1))))))))))
def f_X2_readTenants (s0 : cs_S) (s3 : cs_S) : Option (cs_S × cs_S) :=
  (pm_loop pm_fu lb_X2_readTenants_5 (s0, (cs_i s3 0 7 1)))
def tb_X2_readTenants : List pm_I := [(0, .aload_n 0, 0, 0), (1, .iconst 1, 3, 0), (2, .putfield 33, 131, 0), (5, .aload_n 0, 0, 0), (6, .getfield 33, 131, 0), (9, .bipush 6, 8, 0), (11, .if_icmp .ge 44, 55, 0), (14, .aload_n 1, 0, 0), (15, .ldc 83, 9, 1), (17, .invokevirtual 76, 124, 0), (20, .ifCond .eq 35, 55, 0), (23, .aload_n 1, 0, 0), (24, .ldc 83, 9, 1), (26, .invokevirtual 47, 103, 0), (29, .aload_n 0, 0, 0), (30, .aload_n 1, 0, 0), (31, .aload_n 0, 0, 0), (32, .getfield 33, 131, 0), (35, .invokevirtual 65, 121, 0), (38, .aload_n 1, 0, 0), (39, .invokevirtual 60, 120, 0), (42, .aload_n 0, 0, 0), (43, .dup, 0, 0), (44, .getfield 33, 131, 0), (47, .iconst 1, 3, 0), (48, .iadd, 0, 0), (49, .putfield 33, 131, 0), (52, .goto (-47), 5, 0), (55, .aload_n 1, 0, 0), (56, .ldc 83, 9, 1), (58, .invokevirtual 76, 124, 0), (61, .ifCond .eq 8, 69, 0), (64, .aload_n 1, 0, 0), (65, .iconst 3, 5, 0), (66, .invokevirtual 85, 125, 0), (69, .return_, 0, 0)]
theorem tk_X2_readTenants : ∀ e ∈ tb_X2_readTenants, pm_ck 29 e = true := List.all_eq_true.mp (by decide +kernel)
set_option maxRecDepth 20000 in
set_option maxHeartbeats 40000000 in
theorem ll_X2_readTenants_5 {d : Nat} (hd : 7 ≤ d) {g1 g2 g4 g5 g6 g7 g8 g9 : List pm_E} {v1 v2 v3 : Value} {q : Nat × Nat × Nat} {z0 : cs_S} {z3 : cs_S} (P : cs_S × cs_S → Prop) (K0 : ∀ e : cs_S × cs_S, P (e) → e = (z0, z3)) : ∀ (n : Nat) (s0 : cs_S) (s3 : cs_S) (e : cs_S × cs_S), pm_loop n lb_X2_readTenants_5 (s0, s3) = some e → P e → pm_Wg 29 d (.inl (none)) (cl_h (ct_x v1 v2 v3 z0) g1 g2 (ct_p3 z3) g4 g5 g6 g7 g8 g9 q) (5, [some (.ref 192), some (.ref 1)], [], cl_h (ct_x v1 v2 v3 s0) g1 g2 (ct_p3 s3) g4 g5 g6 g7 g8 g9 q) := by
  intro n
  induction n with
  | zero => intro s0 s3 e H; cases H
  | succ n ih =>
    intro s0 s3 e H hPe
    obtain ⟨d, rfl⟩ : ∃ d', d = d' + 1 := ⟨d - 1, by omega⟩
    have H : pm_lst (pm_loop n lb_X2_readTenants_5) (lb_X2_readTenants_5 (s0, s3)) = some e := H
    generalize pm_loop n lb_X2_readTenants_5 = LB at H ih
    unfold lb_X2_readTenants_5 at H
    try dsimp only at H
    by_cases h1 : 6 ≤ (s3.1 0 7)
    · rw [if_pos h1] at H
      cases q3 : f_X6_sees s0 9 with
      | none => rw [q3] at H; cases H
      | some r2 =>
       rw [q3] at H
       dsimp only at H
       refine pm_Wg.path (k := 6) (ds := [1]) (f' := (58, [some (.ref 192), some (.ref 1)], [.retAddr 9, .ref 1], cl_h (ct_x v1 v2 v3 s0) g1 g2 (ct_p3 s3) g4 g5 g6 g7 g8 g9 q)) tk_X2_readTenants (by omega) rfl ⟨h1, trivial⟩ ?_
       refine pm_Wg.callV (m' := 86) (ix := 76) (rr := 124) (pl := 1030) (b := 1) (As := [.retAddr 9]) (S := []) (by decide) rfl (pm_dec tk_X2_readTenants rfl) rfl rfl (by decide) rfl rfl (by decide) (Nat.le_of_ble_eq_true rfl) rfl (e_X6_sees (by omega) rfl q3) ?_
       by_cases h4 : r2 = 0
       · rw [if_pos h4] at H
         have He := Option.some.inj H
         subst He
         have J := K0 _ hPe
         injection J with J0a J0z
         subst J0a
         subst J0z
         refine pm_Wg.path (k := 1) (ds := [1]) (f' := (69, [some (.ref 192), some (.ref 1)], [], cl_h (ct_x v1 v2 v3 s0) g1 g2 (ct_p3 s3) g4 g5 g6 g7 g8 g9 q)) tk_X2_readTenants (by omega) rfl ⟨h4, trivial⟩ ?_
         exact pm_Wg.vret (pm_dec tk_X2_readTenants rfl) rfl
       · rw [if_neg h4] at H
         cases q6 : f_X6_report s0 3 with
         | none => rw [q6] at H; cases H
         | some s0_5 =>
          rw [q6] at H
          dsimp only at H
          refine pm_Wg.path (k := 3) (ds := [0]) (f' := (66, [some (.ref 192), some (.ref 1)], [.int 3, .ref 1], cl_h (ct_x v1 v2 v3 s0) g1 g2 (ct_p3 s3) g4 g5 g6 g7 g8 g9 q)) tk_X2_readTenants (by omega) rfl ⟨h4, trivial⟩ ?_
          refine pm_Wg.callV (m' := 85) (ix := 85) (rr := 125) (pl := 1031) (b := 1) (As := [.int 3]) (S := []) (by decide) rfl (pm_dec tk_X2_readTenants rfl) rfl rfl (by decide) rfl rfl (by decide) (Nat.le_of_ble_eq_true rfl) rfl (e_X6_report (by omega) q6) ?_
          have He := Option.some.inj H
          subst He
          have J := K0 _ hPe
          injection J with J0a J0z
          subst J0a
          subst J0z
          exact pm_Wg.vret (pm_dec tk_X2_readTenants rfl) rfl
    · rw [if_neg h1] at H
      cases q8 : f_X6_sees s0 9 with
      | none => rw [q8] at H; cases H
      | some r7 =>
       rw [q8] at H
       dsimp only at H
       refine pm_Wg.path (k := 6) (ds := [0]) (f' := (17, [some (.ref 192), some (.ref 1)], [.retAddr 9, .ref 1], cl_h (ct_x v1 v2 v3 s0) g1 g2 (ct_p3 s3) g4 g5 g6 g7 g8 g9 q)) tk_X2_readTenants (by omega) rfl ⟨h1, trivial⟩ ?_
       refine pm_Wg.callV (m' := 86) (ix := 76) (rr := 124) (pl := 1030) (b := 1) (As := [.retAddr 9]) (S := []) (by decide) rfl (pm_dec tk_X2_readTenants rfl) rfl rfl (by decide) rfl rfl (by decide) (Nat.le_of_ble_eq_true rfl) rfl (e_X6_sees (by omega) rfl q8) ?_
       by_cases h9 : r7 = 0
       · rw [if_pos h9] at H
         refine pm_Wg.path (k := 3) (ds := [1]) (f' := (58, [some (.ref 192), some (.ref 1)], [.retAddr 9, .ref 1], cl_h (ct_x v1 v2 v3 s0) g1 g2 (ct_p3 s3) g4 g5 g6 g7 g8 g9 q)) tk_X2_readTenants (by omega) rfl ⟨h9, trivial⟩ ?_
         refine pm_Wg.callV (m' := 86) (ix := 76) (rr := 124) (pl := 1030) (b := 1) (As := [.retAddr 9]) (S := []) (by decide) rfl (pm_dec tk_X2_readTenants rfl) rfl rfl (by decide) rfl rfl (by decide) (Nat.le_of_ble_eq_true rfl) rfl (e_X6_sees (by omega) rfl q8) ?_
         by_cases h12 : r7 = 0
         · rw [if_pos h12] at H
           have He := Option.some.inj H
           subst He
           have J := K0 _ hPe
           injection J with J0a J0z
           subst J0a
           subst J0z
           refine pm_Wg.path (k := 1) (ds := [1]) (f' := (69, [some (.ref 192), some (.ref 1)], [], cl_h (ct_x v1 v2 v3 s0) g1 g2 (ct_p3 s3) g4 g5 g6 g7 g8 g9 q)) tk_X2_readTenants (by omega) rfl ⟨h12, trivial⟩ ?_
           exact pm_Wg.vret (pm_dec tk_X2_readTenants rfl) rfl
         · rw [if_neg h12] at H
           cases q14 : f_X6_report s0 3 with
           | none => rw [q14] at H; cases H
           | some s0_13 =>
            rw [q14] at H
            dsimp only at H
            refine pm_Wg.path (k := 3) (ds := [0]) (f' := (66, [some (.ref 192), some (.ref 1)], [.int 3, .ref 1], cl_h (ct_x v1 v2 v3 s0) g1 g2 (ct_p3 s3) g4 g5 g6 g7 g8 g9 q)) tk_X2_readTenants (by omega) rfl ⟨h12, trivial⟩ ?_
            refine pm_Wg.callV (m' := 85) (ix := 85) (rr := 125) (pl := 1031) (b := 1) (As := [.int 3]) (S := []) (by decide) rfl (pm_dec tk_X2_readTenants rfl) rfl rfl (by decide) rfl rfl (by decide) (Nat.le_of_ble_eq_true rfl) rfl (e_X6_report (by omega) q14) ?_
            have He := Option.some.inj H
            subst He
            have J := K0 _ hPe
            injection J with J0a J0z
            subst J0a
            subst J0z
            exact pm_Wg.vret (pm_dec tk_X2_readTenants rfl) rfl
       · rw [if_neg h9] at H
         cases q16 : f_X6_passWord s0 9 with
         | none => rw [q16] at H; cases H
         | some s0_15 =>
          rw [q16] at H
          dsimp only at H
          refine pm_Wg.path (k := 3) (ds := [0]) (f' := (26, [some (.ref 192), some (.ref 1)], [.retAddr 9, .ref 1], cl_h (ct_x v1 v2 v3 s0) g1 g2 (ct_p3 s3) g4 g5 g6 g7 g8 g9 q)) tk_X2_readTenants (by omega) rfl ⟨h9, trivial⟩ ?_
          refine pm_Wg.callV (m' := 87) (ix := 47) (rr := 103) (pl := 939) (b := 1) (As := [.retAddr 9]) (S := []) (by decide) rfl (pm_dec tk_X2_readTenants rfl) rfl rfl (by decide) rfl rfl (by decide) (Nat.le_of_ble_eq_true rfl) rfl (e_X6_passWord (by omega) rfl q16) ?_
          cases q19 : f_X2_readShare s0_15 s3 (s3.1 0 7) with
          | none => rw [q19] at H; cases H
          | some w =>
           obtain ⟨s0_17, s3_18⟩ := w
           rw [q19] at H
           dsimp only at H
           refine pm_Wg.path (k := 4) (ds := []) (f' := (35, [some (.ref 192), some (.ref 1)], [.int (s3.1 0 7), .ref 1, .ref 192], cl_h (ct_x v1 v2 v3 s0_15) g1 g2 (ct_p3 s3) g4 g5 g6 g7 g8 g9 q)) tk_X2_readTenants (by omega) rfl trivial ?_
           refine pm_Wg.callV (m' := 30) (ix := 65) (rr := 121) (pl := 1015) (b := 192) (As := [.ref 1, .int (s3.1 0 7)]) (S := []) (by decide) rfl (pm_dec tk_X2_readTenants rfl) rfl rfl (by decide) rfl rfl (by decide) (Nat.le_of_ble_eq_true rfl) rfl (e_X2_readShare (by omega) q19) ?_
           cases q21 : f_X6_passSign s0_17 with
           | none => rw [q21] at H; cases H
           | some s0_20 =>
            rw [q21] at H
            dsimp only at H
            refine pm_Wg.path (k := 1) (ds := []) (f' := (39, [some (.ref 192), some (.ref 1)], [.ref 1], cl_h (ct_x v1 v2 v3 s0_17) g1 g2 (ct_p3 s3_18) g4 g5 g6 g7 g8 g9 q)) tk_X2_readTenants (by omega) rfl trivial ?_
            refine pm_Wg.callV (m' := 88) (ix := 60) (rr := 120) (pl := 1010) (b := 1) (As := []) (S := []) (by decide) rfl (pm_dec tk_X2_readTenants rfl) rfl rfl (by decide) rfl rfl (by decide) (Nat.le_of_ble_eq_true rfl) rfl (e_X6_passSign (by omega) q21) ?_
            refine pm_Wg.path (k := 7) (ds := []) (f' := (5, [some (.ref 192), some (.ref 1)], [], cl_h (ct_x v1 v2 v3 s0_20) g1 g2 (ct_p3 (cs_i s3_18 0 7 ((s3_18.1 0 7) + 1))) g4 g5 g6 g7 g8 g9 q)) tk_X2_readTenants (by omega) rfl trivial ?_
            exact ih _ _ e H hPe
set_option maxRecDepth 20000 in
set_option maxHeartbeats 20000000 in
theorem e_X2_readTenants {d : Nat} (hd : 7 ≤ d) {g1 g2 g4 g5 g6 g7 g8 g9 : List pm_E} {v1 v2 v3 : Value} {q : Nat × Nat × Nat} {s0 : cs_S} {s3 : cs_S} {z0 : cs_S} {z3 : cs_S} (H : f_X2_readTenants s0 s3 = some (z0, z3)) : pm_Mt 29 d [.ref 192, .ref 1] (cl_h (ct_x v1 v2 v3 s0) g1 g2 (ct_p3 s3) g4 g5 g6 g7 g8 g9 q) (.inl (none)) (cl_h (ct_x v1 v2 v3 z0) g1 g2 (ct_p3 z3) g4 g5 g6 g7 g8 g9 q) := by
  refine pm_Mt.of (by decide) (by decide +kernel) rfl rfl ?_
  obtain ⟨d, rfl⟩ : ∃ d', d = d' + 1 := ⟨d - 1, by omega⟩
  unfold f_X2_readTenants at H
  refine pm_Wg.path (k := 3) (ds := []) (f' := (5, [some (.ref 192), some (.ref 1)], [], cl_h (ct_x v1 v2 v3 s0) g1 g2 (ct_p3 (cs_i s3 0 7 1)) g4 g5 g6 g7 g8 g9 q)) tk_X2_readTenants (by omega) rfl trivial ?_
  exact ll_X2_readTenants_5 (by omega) (fun e => e = (z0, z3)) (fun e he => he) pm_fu _ _ _ H rfl

def fc_X2_readFrom_c4 (s0 : cs_S) (s3 : cs_S) (k0 : Int32) : Option (cs_S × cs_S) :=
  (match f_X6_passSign s0 with
  | none => none
  | some s0_38 =>
   (match f_X2_readTenants s0_38 (cs_i s3 0 5 k0) with
   | none => none
   | some (s0_40, s3_41) =>
    (match f_X6_sees s0_40 10 with
    | none => none
    | some r43 =>
     (if r43 = 0 then
      (match f_X6_passEnd s0_40 with
      | none => none
      | some s0_46 =>
       some (s0_46, s3_41))
     else
      (match f_X6_passWord s0_40 10 with
      | none => none
      | some s0_48 =>
       (match f_X6_takeNumber s0_48 0 500 with
       | none => none
       | some (r50, s0_51) =>
        (match f_X6_passSign s0_51 with
        | none => none
        | some s0_53 =>
         (match f_X6_passEnd s0_53 with
         | none => none
         | some s0_55 =>
          some (s0_55, (cs_i s3_41 0 6 r50))))))))))
def fc_X2_readFrom_c3 (s0 : cs_S) (s3 : cs_S) (k0 : Int32) : Option (cs_S × cs_S) :=
  (match f_X6_passSign s0 with
  | none => none
  | some s0_21 =>
   (match f_X6_passWord s0_21 6 with
   | none => none
   | some s0_23 =>
    (match f_X2_readShare s0_23 (cs_i s3 0 3 k0) 0 with
    | none => none
    | some (s0_25, s3_26) =>
     (match f_X6_passWord s0_25 7 with
     | none => none
     | some s0_28 =>
      (match f_X6_takeNumber s0_28 1 8 with
      | none => none
      | some (r30, s0_31) =>
       (match f_X6_passWord s0_31 8 with
       | none => none
       | some s0_33 =>
        (match f_X6_takeNumber s0_33 0 64 with
        | none => none
        | some (r35, s0_36) =>
         (fc_X2_readFrom_c4 s0_36 (cs_i s3_26 0 4 r30) r35))))))))
def fc_X2_readFrom_c2 (s0 : cs_S) (s3 : cs_S) (k0 : Int32) : Option (cs_S × cs_S) :=
  (match f_X6_passWord s0 5 with
  | none => none
  | some s0_16 =>
   (match f_X6_takeNumber s0_16 0 99 with
   | none => none
   | some (r18, s0_19) =>
    (fc_X2_readFrom_c3 s0_19 (cs_i s3 0 2 k0) r18)))
def fc_X2_readFrom_c1 (s0 : cs_S) (s3 : cs_S) (k0 : Int32) : Option (cs_S × cs_S) :=
  (match f_X6_passWord s0 4 with
  | none => none
  | some s0_11 =>
   (match f_X6_takeNumber s0_11 1 50 with
   | none => none
   | some (r13, s0_14) =>
    (fc_X2_readFrom_c2 s0_14 (cs_i s3 0 1 k0) r13)))
def f_X2_readFrom (s0 : cs_S) (s3 : cs_S) : Option (cs_S × cs_S) :=
  (match f_X6_passWord s0 2 with
  | none => none
  | some s0_1 =>
   (match f_X6_takeNumber s0_1 3 6 with
   | none => none
   | some (r3, s0_4) =>
    (match f_X6_passWord s0_4 3 with
    | none => none
    | some s0_6 =>
     (match f_X6_takeNumber s0_6 1 64 with
     | none => none
     | some (r8, s0_9) =>
      (fc_X2_readFrom_c1 s0_9 (cs_i s3 0 0 r3) r8)))))
def tb_X2_readFrom : List pm_I := [(0, .aload_n 1, 0, 0), (1, .ldc 46, 2, 1), (3, .invokevirtual 47, 103, 0), (6, .aload_n 0, 0, 0), (7, .aload_n 1, 0, 0), (8, .iconst 3, 5, 0), (9, .bipush 6, 8, 0), (11, .invokevirtual 53, 118, 0), (14, .putfield 9, 115, 0), (17, .aload_n 1, 0, 0), (18, .ldc 57, 3, 1), (20, .invokevirtual 47, 103, 0), (23, .aload_n 0, 0, 0), (24, .aload_n 1, 0, 0), (25, .iconst 1, 3, 0), (26, .bipush 64, 26, 0), (28, .invokevirtual 53, 118, 0), (31, .putfield 15, 118, 0), (34, .aload_n 1, 0, 0), (35, .ldc 58, 4, 1), (37, .invokevirtual 47, 103, 0), (40, .aload_n 0, 0, 0), (41, .aload_n 1, 0, 0), (42, .iconst 1, 3, 0), (43, .bipush 50, 22, 0), (45, .invokevirtual 53, 118, 0), (48, .putfield 18, 121, 0), (51, .aload_n 1, 0, 0), (52, .ldc 59, 5, 1), (54, .invokevirtual 47, 103, 0), (57, .aload_n 0, 0, 0), (58, .aload_n 1, 0, 0), (59, .iconst 0, 2, 0), (60, .bipush 99, 28, 0), (62, .invokevirtual 53, 118, 0), (65, .putfield 21, 123, 0), (68, .aload_n 1, 0, 0), (69, .invokevirtual 60, 120, 0), (72, .aload_n 1, 0, 0), (73, .ldc 63, 6, 1), (75, .invokevirtual 47, 103, 0), (78, .aload_n 0, 0, 0), (79, .aload_n 1, 0, 0), (80, .iconst 0, 2, 0), (81, .invokevirtual 65, 121, 0), (84, .aload_n 1, 0, 0), (85, .ldc 69, 7, 1), (87, .invokevirtual 47, 103, 0), (90, .aload_n 0, 0, 0), (91, .aload_n 1, 0, 0), (92, .iconst 1, 3, 0), (93, .bipush 8, 10, 0), (95, .invokevirtual 53, 118, 0), (98, .putfield 24, 125, 0), (101, .aload_n 1, 0, 0), (102, .ldc 70, 8, 1), (104, .invokevirtual 47, 103, 0), (107, .aload_n 0, 0, 0), (108, .aload_n 1, 0, 0), (109, .iconst 0, 2, 0), (110, .bipush 64, 26, 0), (112, .invokevirtual 53, 118, 0), (115, .putfield 27, 127, 0), (118, .aload_n 1, 0, 0), (119, .invokevirtual 60, 120, 0), (122, .aload_n 0, 0, 0), (123, .aload_n 1, 0, 0), (124, .invokevirtual 71, 123, 0), (127, .aload_n 1, 0, 0), (128, .ldc 75, 10, 1), (130, .invokevirtual 76, 124, 0), (133, .ifCond .eq 25, 158, 0), (136, .aload_n 1, 0, 0), (137, .ldc 75, 10, 1), (139, .invokevirtual 47, 103, 0), (142, .aload_n 0, 0, 0), (143, .aload_n 1, 0, 0), (144, .iconst 0, 2, 0), (145, .sipush 500, 35, 0), (148, .invokevirtual 53, 118, 0), (151, .putfield 30, 129, 0), (154, .aload_n 1, 0, 0), (155, .invokevirtual 60, 120, 0), (158, .aload_n 1, 0, 0), (159, .invokevirtual 80, 126, 0), (162, .return_, 0, 0)]
theorem tk_X2_readFrom : ∀ e ∈ tb_X2_readFrom, pm_ck 28 e = true := List.all_eq_true.mp (by decide +kernel)
set_option maxRecDepth 20000 in
set_option maxHeartbeats 20000000 in
theorem ec_X2_readFrom_c4 {d : Nat} (hd : 8 ≤ d) {g1 g2 g4 g5 g6 g7 g8 g9 : List pm_E} {v1 v2 v3 : Value} {q : Nat × Nat × Nat} {s0 : cs_S} {s3 : cs_S} {k0 : Int32} {z0 : cs_S} {z3 : cs_S} (H : fc_X2_readFrom_c4 s0 s3 k0 = some (z0, z3)) : pm_Wg 28 d (.inl (none)) (cl_h (ct_x v1 v2 v3 z0) g1 g2 (ct_p3 z3) g4 g5 g6 g7 g8 g9 q) (115, [some (.ref 192), some (.ref 1)], [.int k0, .ref 192], cl_h (ct_x v1 v2 v3 s0) g1 g2 (ct_p3 s3) g4 g5 g6 g7 g8 g9 q) := by
  obtain ⟨d, rfl⟩ : ∃ d', d = d' + 1 := ⟨d - 1, by omega⟩
  unfold fc_X2_readFrom_c4 at H
  try dsimp only at H
  cases q39 : f_X6_passSign s0 with
  | none => rw [q39] at H; cases H
  | some s0_38 =>
   rw [q39] at H
   dsimp only at H
   refine pm_Wg.path (k := 2) (ds := []) (f' := (119, [some (.ref 192), some (.ref 1)], [.ref 1], cl_h (ct_x v1 v2 v3 s0) g1 g2 (ct_p3 (cs_i s3 0 5 k0)) g4 g5 g6 g7 g8 g9 q)) tk_X2_readFrom (by omega) rfl trivial ?_
   refine pm_Wg.callV (m' := 88) (ix := 60) (rr := 120) (pl := 1010) (b := 1) (As := []) (S := []) (by decide) rfl (pm_dec tk_X2_readFrom rfl) rfl rfl (by decide) rfl rfl (by decide) (Nat.le_of_ble_eq_true rfl) rfl (e_X6_passSign (by omega) q39) ?_
   cases q42 : f_X2_readTenants s0_38 (cs_i s3 0 5 k0) with
   | none => rw [q42] at H; cases H
   | some w =>
    obtain ⟨s0_40, s3_41⟩ := w
    rw [q42] at H
    dsimp only at H
    refine pm_Wg.path (k := 2) (ds := []) (f' := (124, [some (.ref 192), some (.ref 1)], [.ref 1, .ref 192], cl_h (ct_x v1 v2 v3 s0_38) g1 g2 (ct_p3 (cs_i s3 0 5 k0)) g4 g5 g6 g7 g8 g9 q)) tk_X2_readFrom (by omega) rfl trivial ?_
    refine pm_Wg.callV (m' := 29) (ix := 71) (rr := 123) (pl := 1025) (b := 192) (As := [.ref 1]) (S := []) (by decide) rfl (pm_dec tk_X2_readFrom rfl) rfl rfl (by decide) rfl rfl (by decide) (Nat.le_of_ble_eq_true rfl) rfl (e_X2_readTenants (by omega) q42) ?_
    cases q44 : f_X6_sees s0_40 10 with
    | none => rw [q44] at H; cases H
    | some r43 =>
     rw [q44] at H
     dsimp only at H
     refine pm_Wg.path (k := 2) (ds := []) (f' := (130, [some (.ref 192), some (.ref 1)], [.retAddr 10, .ref 1], cl_h (ct_x v1 v2 v3 s0_40) g1 g2 (ct_p3 s3_41) g4 g5 g6 g7 g8 g9 q)) tk_X2_readFrom (by omega) rfl trivial ?_
     refine pm_Wg.callV (m' := 86) (ix := 76) (rr := 124) (pl := 1030) (b := 1) (As := [.retAddr 10]) (S := []) (by decide) rfl (pm_dec tk_X2_readFrom rfl) rfl rfl (by decide) rfl rfl (by decide) (Nat.le_of_ble_eq_true rfl) rfl (e_X6_sees (by omega) rfl q44) ?_
     by_cases h45 : r43 = 0
     · rw [if_pos h45] at H
       cases q47 : f_X6_passEnd s0_40 with
       | none => rw [q47] at H; cases H
       | some s0_46 =>
        rw [q47] at H
        dsimp only at H
        refine pm_Wg.path (k := 2) (ds := [1]) (f' := (159, [some (.ref 192), some (.ref 1)], [.ref 1], cl_h (ct_x v1 v2 v3 s0_40) g1 g2 (ct_p3 s3_41) g4 g5 g6 g7 g8 g9 q)) tk_X2_readFrom (by omega) rfl ⟨h45, trivial⟩ ?_
        refine pm_Wg.callV (m' := 89) (ix := 80) (rr := 126) (pl := 1033) (b := 1) (As := []) (S := []) (by decide) rfl (pm_dec tk_X2_readFrom rfl) rfl rfl (by decide) rfl rfl (by decide) (Nat.le_of_ble_eq_true rfl) rfl (e_X6_passEnd (by omega) q47) ?_
        have J := Option.some.inj H
        injection J with J0a J0z
        subst J0a
        subst J0z
        exact pm_Wg.vret (pm_dec tk_X2_readFrom rfl) rfl
     · rw [if_neg h45] at H
       cases q49 : f_X6_passWord s0_40 10 with
       | none => rw [q49] at H; cases H
       | some s0_48 =>
        rw [q49] at H
        dsimp only at H
        refine pm_Wg.path (k := 3) (ds := [0]) (f' := (139, [some (.ref 192), some (.ref 1)], [.retAddr 10, .ref 1], cl_h (ct_x v1 v2 v3 s0_40) g1 g2 (ct_p3 s3_41) g4 g5 g6 g7 g8 g9 q)) tk_X2_readFrom (by omega) rfl ⟨h45, trivial⟩ ?_
        refine pm_Wg.callV (m' := 87) (ix := 47) (rr := 103) (pl := 939) (b := 1) (As := [.retAddr 10]) (S := []) (by decide) rfl (pm_dec tk_X2_readFrom rfl) rfl rfl (by decide) rfl rfl (by decide) (Nat.le_of_ble_eq_true rfl) rfl (e_X6_passWord (by omega) rfl q49) ?_
        cases q52 : f_X6_takeNumber s0_48 0 500 with
        | none => rw [q52] at H; cases H
        | some w =>
         obtain ⟨r50, s0_51⟩ := w
         rw [q52] at H
         dsimp only at H
         refine pm_Wg.path (k := 4) (ds := []) (f' := (148, [some (.ref 192), some (.ref 1)], [.int 500, .int 0, .ref 1, .ref 192], cl_h (ct_x v1 v2 v3 s0_48) g1 g2 (ct_p3 s3_41) g4 g5 g6 g7 g8 g9 q)) tk_X2_readFrom (by omega) rfl trivial ?_
         refine pm_Wg.callV (m' := 90) (ix := 53) (rr := 118) (pl := 999) (b := 1) (As := [.int 0, .int 500]) (S := [.ref 192]) (by decide) rfl (pm_dec tk_X2_readFrom rfl) rfl rfl (by decide) rfl rfl (by decide) (Nat.le_of_ble_eq_true rfl) rfl (e_X6_takeNumber (by omega) q52) ?_
         cases q54 : f_X6_passSign s0_51 with
         | none => rw [q54] at H; cases H
         | some s0_53 =>
          rw [q54] at H
          dsimp only at H
          refine pm_Wg.path (k := 2) (ds := []) (f' := (155, [some (.ref 192), some (.ref 1)], [.ref 1], cl_h (ct_x v1 v2 v3 s0_51) g1 g2 (ct_p3 (cs_i s3_41 0 6 r50)) g4 g5 g6 g7 g8 g9 q)) tk_X2_readFrom (by omega) rfl trivial ?_
          refine pm_Wg.callV (m' := 88) (ix := 60) (rr := 120) (pl := 1010) (b := 1) (As := []) (S := []) (by decide) rfl (pm_dec tk_X2_readFrom rfl) rfl rfl (by decide) rfl rfl (by decide) (Nat.le_of_ble_eq_true rfl) rfl (e_X6_passSign (by omega) q54) ?_
          cases q56 : f_X6_passEnd s0_53 with
          | none => rw [q56] at H; cases H
          | some s0_55 =>
           rw [q56] at H
           dsimp only at H
           refine pm_Wg.path (k := 1) (ds := []) (f' := (159, [some (.ref 192), some (.ref 1)], [.ref 1], cl_h (ct_x v1 v2 v3 s0_53) g1 g2 (ct_p3 (cs_i s3_41 0 6 r50)) g4 g5 g6 g7 g8 g9 q)) tk_X2_readFrom (by omega) rfl trivial ?_
           refine pm_Wg.callV (m' := 89) (ix := 80) (rr := 126) (pl := 1033) (b := 1) (As := []) (S := []) (by decide) rfl (pm_dec tk_X2_readFrom rfl) rfl rfl (by decide) rfl rfl (by decide) (Nat.le_of_ble_eq_true rfl) rfl (e_X6_passEnd (by omega) q56) ?_
           have J := Option.some.inj H
           injection J with J0a J0z
           subst J0a
           subst J0z
           exact pm_Wg.vret (pm_dec tk_X2_readFrom rfl) rfl
set_option maxRecDepth 20000 in
set_option maxHeartbeats 20000000 in
theorem ec_X2_readFrom_c3 {d : Nat} (hd : 8 ≤ d) {g1 g2 g4 g5 g6 g7 g8 g9 : List pm_E} {v1 v2 v3 : Value} {q : Nat × Nat × Nat} {s0 : cs_S} {s3 : cs_S} {k0 : Int32} {z0 : cs_S} {z3 : cs_S} (H : fc_X2_readFrom_c3 s0 s3 k0 = some (z0, z3)) : pm_Wg 28 d (.inl (none)) (cl_h (ct_x v1 v2 v3 z0) g1 g2 (ct_p3 z3) g4 g5 g6 g7 g8 g9 q) (65, [some (.ref 192), some (.ref 1)], [.int k0, .ref 192], cl_h (ct_x v1 v2 v3 s0) g1 g2 (ct_p3 s3) g4 g5 g6 g7 g8 g9 q) := by
  obtain ⟨d, rfl⟩ : ∃ d', d = d' + 1 := ⟨d - 1, by omega⟩
  unfold fc_X2_readFrom_c3 at H
  try dsimp only at H
  cases q22 : f_X6_passSign s0 with
  | none => rw [q22] at H; cases H
  | some s0_21 =>
   rw [q22] at H
   dsimp only at H
   refine pm_Wg.path (k := 2) (ds := []) (f' := (69, [some (.ref 192), some (.ref 1)], [.ref 1], cl_h (ct_x v1 v2 v3 s0) g1 g2 (ct_p3 (cs_i s3 0 3 k0)) g4 g5 g6 g7 g8 g9 q)) tk_X2_readFrom (by omega) rfl trivial ?_
   refine pm_Wg.callV (m' := 88) (ix := 60) (rr := 120) (pl := 1010) (b := 1) (As := []) (S := []) (by decide) rfl (pm_dec tk_X2_readFrom rfl) rfl rfl (by decide) rfl rfl (by decide) (Nat.le_of_ble_eq_true rfl) rfl (e_X6_passSign (by omega) q22) ?_
   cases q24 : f_X6_passWord s0_21 6 with
   | none => rw [q24] at H; cases H
   | some s0_23 =>
    rw [q24] at H
    dsimp only at H
    refine pm_Wg.path (k := 2) (ds := []) (f' := (75, [some (.ref 192), some (.ref 1)], [.retAddr 6, .ref 1], cl_h (ct_x v1 v2 v3 s0_21) g1 g2 (ct_p3 (cs_i s3 0 3 k0)) g4 g5 g6 g7 g8 g9 q)) tk_X2_readFrom (by omega) rfl trivial ?_
    refine pm_Wg.callV (m' := 87) (ix := 47) (rr := 103) (pl := 939) (b := 1) (As := [.retAddr 6]) (S := []) (by decide) rfl (pm_dec tk_X2_readFrom rfl) rfl rfl (by decide) rfl rfl (by decide) (Nat.le_of_ble_eq_true rfl) rfl (e_X6_passWord (by omega) rfl q24) ?_
    cases q27 : f_X2_readShare s0_23 (cs_i s3 0 3 k0) 0 with
    | none => rw [q27] at H; cases H
    | some w =>
     obtain ⟨s0_25, s3_26⟩ := w
     rw [q27] at H
     dsimp only at H
     refine pm_Wg.path (k := 3) (ds := []) (f' := (81, [some (.ref 192), some (.ref 1)], [.int 0, .ref 1, .ref 192], cl_h (ct_x v1 v2 v3 s0_23) g1 g2 (ct_p3 (cs_i s3 0 3 k0)) g4 g5 g6 g7 g8 g9 q)) tk_X2_readFrom (by omega) rfl trivial ?_
     refine pm_Wg.callV (m' := 30) (ix := 65) (rr := 121) (pl := 1015) (b := 192) (As := [.ref 1, .int 0]) (S := []) (by decide) rfl (pm_dec tk_X2_readFrom rfl) rfl rfl (by decide) rfl rfl (by decide) (Nat.le_of_ble_eq_true rfl) rfl (e_X2_readShare (by omega) q27) ?_
     cases q29 : f_X6_passWord s0_25 7 with
     | none => rw [q29] at H; cases H
     | some s0_28 =>
      rw [q29] at H
      dsimp only at H
      refine pm_Wg.path (k := 2) (ds := []) (f' := (87, [some (.ref 192), some (.ref 1)], [.retAddr 7, .ref 1], cl_h (ct_x v1 v2 v3 s0_25) g1 g2 (ct_p3 s3_26) g4 g5 g6 g7 g8 g9 q)) tk_X2_readFrom (by omega) rfl trivial ?_
      refine pm_Wg.callV (m' := 87) (ix := 47) (rr := 103) (pl := 939) (b := 1) (As := [.retAddr 7]) (S := []) (by decide) rfl (pm_dec tk_X2_readFrom rfl) rfl rfl (by decide) rfl rfl (by decide) (Nat.le_of_ble_eq_true rfl) rfl (e_X6_passWord (by omega) rfl q29) ?_
      cases q32 : f_X6_takeNumber s0_28 1 8 with
      | none => rw [q32] at H; cases H
      | some w =>
       obtain ⟨r30, s0_31⟩ := w
       rw [q32] at H
       dsimp only at H
       refine pm_Wg.path (k := 4) (ds := []) (f' := (95, [some (.ref 192), some (.ref 1)], [.int 8, .int 1, .ref 1, .ref 192], cl_h (ct_x v1 v2 v3 s0_28) g1 g2 (ct_p3 s3_26) g4 g5 g6 g7 g8 g9 q)) tk_X2_readFrom (by omega) rfl trivial ?_
       refine pm_Wg.callV (m' := 90) (ix := 53) (rr := 118) (pl := 999) (b := 1) (As := [.int 1, .int 8]) (S := [.ref 192]) (by decide) rfl (pm_dec tk_X2_readFrom rfl) rfl rfl (by decide) rfl rfl (by decide) (Nat.le_of_ble_eq_true rfl) rfl (e_X6_takeNumber (by omega) q32) ?_
       cases q34 : f_X6_passWord s0_31 8 with
       | none => rw [q34] at H; cases H
       | some s0_33 =>
        rw [q34] at H
        dsimp only at H
        refine pm_Wg.path (k := 3) (ds := []) (f' := (104, [some (.ref 192), some (.ref 1)], [.retAddr 8, .ref 1], cl_h (ct_x v1 v2 v3 s0_31) g1 g2 (ct_p3 (cs_i s3_26 0 4 r30)) g4 g5 g6 g7 g8 g9 q)) tk_X2_readFrom (by omega) rfl trivial ?_
        refine pm_Wg.callV (m' := 87) (ix := 47) (rr := 103) (pl := 939) (b := 1) (As := [.retAddr 8]) (S := []) (by decide) rfl (pm_dec tk_X2_readFrom rfl) rfl rfl (by decide) rfl rfl (by decide) (Nat.le_of_ble_eq_true rfl) rfl (e_X6_passWord (by omega) rfl q34) ?_
        cases q37 : f_X6_takeNumber s0_33 0 64 with
        | none => rw [q37] at H; cases H
        | some w =>
         obtain ⟨r35, s0_36⟩ := w
         rw [q37] at H
         dsimp only at H
         refine pm_Wg.path (k := 4) (ds := []) (f' := (112, [some (.ref 192), some (.ref 1)], [.int 64, .int 0, .ref 1, .ref 192], cl_h (ct_x v1 v2 v3 s0_33) g1 g2 (ct_p3 (cs_i s3_26 0 4 r30)) g4 g5 g6 g7 g8 g9 q)) tk_X2_readFrom (by omega) rfl trivial ?_
         refine pm_Wg.callV (m' := 90) (ix := 53) (rr := 118) (pl := 999) (b := 1) (As := [.int 0, .int 64]) (S := [.ref 192]) (by decide) rfl (pm_dec tk_X2_readFrom rfl) rfl rfl (by decide) rfl rfl (by decide) (Nat.le_of_ble_eq_true rfl) rfl (e_X6_takeNumber (by omega) q37) ?_
         exact ec_X2_readFrom_c4 (by omega) H
set_option maxRecDepth 20000 in
set_option maxHeartbeats 20000000 in
theorem ec_X2_readFrom_c2 {d : Nat} (hd : 8 ≤ d) {g1 g2 g4 g5 g6 g7 g8 g9 : List pm_E} {v1 v2 v3 : Value} {q : Nat × Nat × Nat} {s0 : cs_S} {s3 : cs_S} {k0 : Int32} {z0 : cs_S} {z3 : cs_S} (H : fc_X2_readFrom_c2 s0 s3 k0 = some (z0, z3)) : pm_Wg 28 d (.inl (none)) (cl_h (ct_x v1 v2 v3 z0) g1 g2 (ct_p3 z3) g4 g5 g6 g7 g8 g9 q) (48, [some (.ref 192), some (.ref 1)], [.int k0, .ref 192], cl_h (ct_x v1 v2 v3 s0) g1 g2 (ct_p3 s3) g4 g5 g6 g7 g8 g9 q) := by
  obtain ⟨d, rfl⟩ : ∃ d', d = d' + 1 := ⟨d - 1, by omega⟩
  unfold fc_X2_readFrom_c2 at H
  try dsimp only at H
  cases q17 : f_X6_passWord s0 5 with
  | none => rw [q17] at H; cases H
  | some s0_16 =>
   rw [q17] at H
   dsimp only at H
   refine pm_Wg.path (k := 3) (ds := []) (f' := (54, [some (.ref 192), some (.ref 1)], [.retAddr 5, .ref 1], cl_h (ct_x v1 v2 v3 s0) g1 g2 (ct_p3 (cs_i s3 0 2 k0)) g4 g5 g6 g7 g8 g9 q)) tk_X2_readFrom (by omega) rfl trivial ?_
   refine pm_Wg.callV (m' := 87) (ix := 47) (rr := 103) (pl := 939) (b := 1) (As := [.retAddr 5]) (S := []) (by decide) rfl (pm_dec tk_X2_readFrom rfl) rfl rfl (by decide) rfl rfl (by decide) (Nat.le_of_ble_eq_true rfl) rfl (e_X6_passWord (by omega) rfl q17) ?_
   cases q20 : f_X6_takeNumber s0_16 0 99 with
   | none => rw [q20] at H; cases H
   | some w =>
    obtain ⟨r18, s0_19⟩ := w
    rw [q20] at H
    dsimp only at H
    refine pm_Wg.path (k := 4) (ds := []) (f' := (62, [some (.ref 192), some (.ref 1)], [.int 99, .int 0, .ref 1, .ref 192], cl_h (ct_x v1 v2 v3 s0_16) g1 g2 (ct_p3 (cs_i s3 0 2 k0)) g4 g5 g6 g7 g8 g9 q)) tk_X2_readFrom (by omega) rfl trivial ?_
    refine pm_Wg.callV (m' := 90) (ix := 53) (rr := 118) (pl := 999) (b := 1) (As := [.int 0, .int 99]) (S := [.ref 192]) (by decide) rfl (pm_dec tk_X2_readFrom rfl) rfl rfl (by decide) rfl rfl (by decide) (Nat.le_of_ble_eq_true rfl) rfl (e_X6_takeNumber (by omega) q20) ?_
    exact ec_X2_readFrom_c3 (by omega) H
set_option maxRecDepth 20000 in
set_option maxHeartbeats 20000000 in
theorem ec_X2_readFrom_c1 {d : Nat} (hd : 8 ≤ d) {g1 g2 g4 g5 g6 g7 g8 g9 : List pm_E} {v1 v2 v3 : Value} {q : Nat × Nat × Nat} {s0 : cs_S} {s3 : cs_S} {k0 : Int32} {z0 : cs_S} {z3 : cs_S} (H : fc_X2_readFrom_c1 s0 s3 k0 = some (z0, z3)) : pm_Wg 28 d (.inl (none)) (cl_h (ct_x v1 v2 v3 z0) g1 g2 (ct_p3 z3) g4 g5 g6 g7 g8 g9 q) (31, [some (.ref 192), some (.ref 1)], [.int k0, .ref 192], cl_h (ct_x v1 v2 v3 s0) g1 g2 (ct_p3 s3) g4 g5 g6 g7 g8 g9 q) := by
  obtain ⟨d, rfl⟩ : ∃ d', d = d' + 1 := ⟨d - 1, by omega⟩
  unfold fc_X2_readFrom_c1 at H
  try dsimp only at H
  cases q12 : f_X6_passWord s0 4 with
  | none => rw [q12] at H; cases H
  | some s0_11 =>
   rw [q12] at H
   dsimp only at H
   refine pm_Wg.path (k := 3) (ds := []) (f' := (37, [some (.ref 192), some (.ref 1)], [.retAddr 4, .ref 1], cl_h (ct_x v1 v2 v3 s0) g1 g2 (ct_p3 (cs_i s3 0 1 k0)) g4 g5 g6 g7 g8 g9 q)) tk_X2_readFrom (by omega) rfl trivial ?_
   refine pm_Wg.callV (m' := 87) (ix := 47) (rr := 103) (pl := 939) (b := 1) (As := [.retAddr 4]) (S := []) (by decide) rfl (pm_dec tk_X2_readFrom rfl) rfl rfl (by decide) rfl rfl (by decide) (Nat.le_of_ble_eq_true rfl) rfl (e_X6_passWord (by omega) rfl q12) ?_
   cases q15 : f_X6_takeNumber s0_11 1 50 with
   | none => rw [q15] at H; cases H
   | some w =>
    obtain ⟨r13, s0_14⟩ := w
    rw [q15] at H
    dsimp only at H
    refine pm_Wg.path (k := 4) (ds := []) (f' := (45, [some (.ref 192), some (.ref 1)], [.int 50, .int 1, .ref 1, .ref 192], cl_h (ct_x v1 v2 v3 s0_11) g1 g2 (ct_p3 (cs_i s3 0 1 k0)) g4 g5 g6 g7 g8 g9 q)) tk_X2_readFrom (by omega) rfl trivial ?_
    refine pm_Wg.callV (m' := 90) (ix := 53) (rr := 118) (pl := 999) (b := 1) (As := [.int 1, .int 50]) (S := [.ref 192]) (by decide) rfl (pm_dec tk_X2_readFrom rfl) rfl rfl (by decide) rfl rfl (by decide) (Nat.le_of_ble_eq_true rfl) rfl (e_X6_takeNumber (by omega) q15) ?_
    exact ec_X2_readFrom_c2 (by omega) H
set_option maxRecDepth 20000 in
set_option maxHeartbeats 20000000 in
theorem e_X2_readFrom {d : Nat} (hd : 8 ≤ d) {g1 g2 g4 g5 g6 g7 g8 g9 : List pm_E} {v1 v2 v3 : Value} {q : Nat × Nat × Nat} {s0 : cs_S} {s3 : cs_S} {z0 : cs_S} {z3 : cs_S} (H : f_X2_readFrom s0 s3 = some (z0, z3)) : pm_Mt 28 d [.ref 192, .ref 1] (cl_h (ct_x v1 v2 v3 s0) g1 g2 (ct_p3 s3) g4 g5 g6 g7 g8 g9 q) (.inl (none)) (cl_h (ct_x v1 v2 v3 z0) g1 g2 (ct_p3 z3) g4 g5 g6 g7 g8 g9 q) := by
  refine pm_Mt.of (by decide) (by decide +kernel) rfl rfl ?_
  obtain ⟨d, rfl⟩ : ∃ d', d = d' + 1 := ⟨d - 1, by omega⟩
  unfold f_X2_readFrom at H
  cases q2 : f_X6_passWord s0 2 with
  | none => rw [q2] at H; cases H
  | some s0_1 =>
   rw [q2] at H
   dsimp only at H
   refine pm_Wg.path (k := 2) (ds := []) (f' := (3, [some (.ref 192), some (.ref 1)], [.retAddr 2, .ref 1], cl_h (ct_x v1 v2 v3 s0) g1 g2 (ct_p3 s3) g4 g5 g6 g7 g8 g9 q)) tk_X2_readFrom (by omega) rfl trivial ?_
   refine pm_Wg.callV (m' := 87) (ix := 47) (rr := 103) (pl := 939) (b := 1) (As := [.retAddr 2]) (S := []) (by decide) rfl (pm_dec tk_X2_readFrom rfl) rfl rfl (by decide) rfl rfl (by decide) (Nat.le_of_ble_eq_true rfl) rfl (e_X6_passWord (by omega) rfl q2) ?_
   cases q5 : f_X6_takeNumber s0_1 3 6 with
   | none => rw [q5] at H; cases H
   | some w =>
    obtain ⟨r3, s0_4⟩ := w
    rw [q5] at H
    dsimp only at H
    refine pm_Wg.path (k := 4) (ds := []) (f' := (11, [some (.ref 192), some (.ref 1)], [.int 6, .int 3, .ref 1, .ref 192], cl_h (ct_x v1 v2 v3 s0_1) g1 g2 (ct_p3 s3) g4 g5 g6 g7 g8 g9 q)) tk_X2_readFrom (by omega) rfl trivial ?_
    refine pm_Wg.callV (m' := 90) (ix := 53) (rr := 118) (pl := 999) (b := 1) (As := [.int 3, .int 6]) (S := [.ref 192]) (by decide) rfl (pm_dec tk_X2_readFrom rfl) rfl rfl (by decide) rfl rfl (by decide) (Nat.le_of_ble_eq_true rfl) rfl (e_X6_takeNumber (by omega) q5) ?_
    cases q7 : f_X6_passWord s0_4 3 with
    | none => rw [q7] at H; cases H
    | some s0_6 =>
     rw [q7] at H
     dsimp only at H
     refine pm_Wg.path (k := 3) (ds := []) (f' := (20, [some (.ref 192), some (.ref 1)], [.retAddr 3, .ref 1], cl_h (ct_x v1 v2 v3 s0_4) g1 g2 (ct_p3 (cs_i s3 0 0 r3)) g4 g5 g6 g7 g8 g9 q)) tk_X2_readFrom (by omega) rfl trivial ?_
     refine pm_Wg.callV (m' := 87) (ix := 47) (rr := 103) (pl := 939) (b := 1) (As := [.retAddr 3]) (S := []) (by decide) rfl (pm_dec tk_X2_readFrom rfl) rfl rfl (by decide) rfl rfl (by decide) (Nat.le_of_ble_eq_true rfl) rfl (e_X6_passWord (by omega) rfl q7) ?_
     cases q10 : f_X6_takeNumber s0_6 1 64 with
     | none => rw [q10] at H; cases H
     | some w =>
      obtain ⟨r8, s0_9⟩ := w
      rw [q10] at H
      dsimp only at H
      refine pm_Wg.path (k := 4) (ds := []) (f' := (28, [some (.ref 192), some (.ref 1)], [.int 64, .int 1, .ref 1, .ref 192], cl_h (ct_x v1 v2 v3 s0_6) g1 g2 (ct_p3 (cs_i s3 0 0 r3)) g4 g5 g6 g7 g8 g9 q)) tk_X2_readFrom (by omega) rfl trivial ?_
      refine pm_Wg.callV (m' := 90) (ix := 53) (rr := 118) (pl := 999) (b := 1) (As := [.int 1, .int 64]) (S := [.ref 192]) (by decide) rfl (pm_dec tk_X2_readFrom rfl) rfl rfl (by decide) rfl rfl (by decide) (Nat.le_of_ble_eq_true rfl) rfl (e_X6_takeNumber (by omega) q10) ?_
      exact ec_X2_readFrom_c1 (by omega) H
