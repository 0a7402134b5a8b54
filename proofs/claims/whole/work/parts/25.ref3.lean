/-! The rest of the reference's methods, by program (wip/whole/dec3.py). -/
def lb_X9_queueDegraded_2 (x : mo_S × Int32 × Int32 × Int32) : Option ((mo_S × Int32 × Int32 × Int32) ⊕ (mo_S)) := match x with
  | (s, l1, l2, l3) =>
   (match f_X9_disks s with
   | none => none
   | some r1 =>
    (if r1 ≤ l3 then
     some (.inr s)
    else
     (match f_X9_isSurviving s l3 with
     | none => none
     | some r4 =>
      (if r4 = 0 then
       some (.inl (s, l1, l2, (l3 + 1)))
      else
       (match f_X9_isHeldOn s l3 l2 with
       | none => none
       | some r7 =>
        (if r7 = 0 then
         (match f_X9_ofRequest s l1 0 with
         | none => none
         | some r10 =>
          (match f_X9_ofRequest s l1 2 with
          | none => none
          | some r12 =>
           (match f_X9_queue s l3 r10 0 l2 r12 l1 with
           | none => none
           | some s14 =>
            some (.inl (s14, l1, l2, (l3 + 1))))))
        else
         some (.inl (s, l1, l2, (l3 + 1)))))))))
def f_X9_queueDegraded (s : mo_S) (a0 : Int32) (a1 : Int32) : Option mo_S :=
  (pm_loop pm_fu lb_X9_queueDegraded_2 (s, a0, a1, 0))
def tb_X9_queueDegraded : List pm_I := [(0, .iconst 0, 2, 0), (1, .istore_n 3, 0, 0), (2, .iload_n 3, 0, 0), (3, .aload_n 0, 0, 0), (4, .invokevirtual 55, 258, 0), (7, .if_icmp .ge 46, 53, 0), (10, .aload_n 0, 0, 0), (11, .iload_n 3, 0, 0), (12, .invokevirtual 276, 280, 0), (15, .ifCond .eq 32, 47, 0), (18, .aload_n 0, 0, 0), (19, .iload_n 3, 0, 0), (20, .iload_n 2, 0, 0), (21, .invokevirtual 279, 281, 0), (24, .ifCond .ne 23, 47, 0), (27, .aload_n 0, 0, 0), (28, .iload_n 3, 0, 0), (29, .aload_n 0, 0, 0), (30, .iload_n 1, 0, 0), (31, .iconst 0, 2, 0), (32, .invokevirtual 267, 282, 0), (35, .iconst 0, 2, 0), (36, .iload_n 2, 0, 0), (37, .aload_n 0, 0, 0), (38, .iload_n 1, 0, 0), (39, .iconst 2, 4, 0), (40, .invokevirtual 267, 282, 0), (43, .iload_n 1, 0, 0), (44, .invokevirtual 282, 283, 0), (47, .iinc 3 1, 3, 0), (50, .goto (-48), 2, 0), (53, .return_, 0, 0)]
theorem tk_X9_queueDegraded : ∀ e ∈ tb_X9_queueDegraded, pm_ck 220 e = true := List.all_eq_true.mp (by decide +kernel)
set_option maxRecDepth 20000 in
set_option maxHeartbeats 40000000 in
theorem ll_X9_queueDegraded_2 (d : Nat) (hd : 6 ≤ d) (gx : List pm_E) (gs : List (List pm_E)) (q : Nat × Nat × Nat) (s1 : mo_S) (P : mo_S → Prop) (K0 : ∀ e : mo_S, P (e) → e = s1) : ∀ (n : Nat) (s : mo_S) (l1 : Int32) (l2 : Int32) (l3 : Int32) (e : mo_S), pm_loop n lb_X9_queueDegraded_2 (s, l1, l2, l3) = some e → P e → pm_Wg 220 d (.inl (none)) (mo_h gx s1 gs q) (2, [some (.ref 64), some (.int l1), some (.int l2), some (.int l3)], [], mo_h gx s gs q) := by
  intro n
  induction n with
  | zero => intro s l1 l2 l3 e H; cases H
  | succ n ih =>
    intro s l1 l2 l3 e H hPe
    obtain ⟨d, rfl⟩ : ∃ d', d = d' + 1 := ⟨d - 1, by omega⟩
    have H : pm_lst (pm_loop n lb_X9_queueDegraded_2) (lb_X9_queueDegraded_2 (s, l1, l2, l3)) = some e := H
    generalize pm_loop n lb_X9_queueDegraded_2 = LB at H ih
    unfold lb_X9_queueDegraded_2 at H
    try dsimp only at H
    cases q2 : f_X9_disks s with
    | none => rw [q2] at H; cases H
    | some r1 =>
     rw [q2] at H
     dsimp only at H
     refine pm_Wg.path (k := 2) (ds := []) (f' := (4, [some (.ref 64), some (.int l1), some (.int l2), some (.int l3)], [.ref 64, .int l3], mo_h gx s gs q)) tk_X9_queueDegraded (by omega) rfl trivial ?_
     refine pm_Wg.callV (m' := 150) (ix := 55) (rr := 258) (pl := 1618) (b := 64) (As := []) (S := [.int l3]) (by decide) rfl (pm_dec tk_X9_queueDegraded rfl) rfl rfl (by decide) rfl rfl (by decide) (Nat.le_of_ble_eq_true rfl) rfl (e_X9_disks d (by omega) gx gs q _ _ q2) ?_
     by_cases h3 : r1 ≤ l3
     · rw [if_pos h3] at H
       have He := Option.some.inj H
       subst He
       have H := K0 _ hPe
       subst H
       refine pm_Wg.path (k := 1) (ds := [1]) (f' := (53, [some (.ref 64), some (.int l1), some (.int l2), some (.int l3)], [], mo_h gx s gs q)) tk_X9_queueDegraded (by omega) rfl ⟨h3, trivial⟩ ?_
       exact pm_Wg.vret (pm_dec tk_X9_queueDegraded rfl) rfl
     · rw [if_neg h3] at H
       cases q5 : f_X9_isSurviving s l3 with
       | none => rw [q5] at H; cases H
       | some r4 =>
        rw [q5] at H
        dsimp only at H
        refine pm_Wg.path (k := 3) (ds := [0]) (f' := (12, [some (.ref 64), some (.int l1), some (.int l2), some (.int l3)], [.int l3, .ref 64], mo_h gx s gs q)) tk_X9_queueDegraded (by omega) rfl ⟨h3, trivial⟩ ?_
        refine pm_Wg.callV (m' := 216) (ix := 276) (rr := 280) (pl := 1707) (b := 64) (As := [.int l3]) (S := []) (by decide) rfl (pm_dec tk_X9_queueDegraded rfl) rfl rfl (by decide) rfl rfl (by decide) (Nat.le_of_ble_eq_true rfl) rfl (e_X9_isSurviving d (by omega) gx gs q _ _ _ q5) ?_
        by_cases h6 : r4 = 0
        · rw [if_pos h6] at H
          refine pm_Wg.path (k := 3) (ds := [1]) (f' := (2, [some (.ref 64), some (.int l1), some (.int l2), some (.int (l3 + 1))], [], mo_h gx s gs q)) tk_X9_queueDegraded (by omega) rfl ⟨h6, trivial⟩ ?_
          exact ih _ _ _ _ e H hPe
        · rw [if_neg h6] at H
          cases q8 : f_X9_isHeldOn s l3 l2 with
          | none => rw [q8] at H; cases H
          | some r7 =>
           rw [q8] at H
           dsimp only at H
           refine pm_Wg.path (k := 4) (ds := [0]) (f' := (21, [some (.ref 64), some (.int l1), some (.int l2), some (.int l3)], [.int l2, .int l3, .ref 64], mo_h gx s gs q)) tk_X9_queueDegraded (by omega) rfl ⟨h6, trivial⟩ ?_
           refine pm_Wg.callV (m' := 217) (ix := 279) (rr := 281) (pl := 1711) (b := 64) (As := [.int l3, .int l2]) (S := []) (by decide) rfl (pm_dec tk_X9_queueDegraded rfl) rfl rfl (by decide) rfl rfl (by decide) (Nat.le_of_ble_eq_true rfl) rfl (e_X9_isHeldOn d (by omega) gx gs q _ _ _ _ q8) ?_
           by_cases h9 : r7 = 0
           · rw [if_pos h9] at H
             cases q11 : f_X9_ofRequest s l1 0 with
             | none => rw [q11] at H; cases H
             | some r10 =>
              rw [q11] at H
              dsimp only at H
              refine pm_Wg.path (k := 6) (ds := [0]) (f' := (32, [some (.ref 64), some (.int l1), some (.int l2), some (.int l3)], [.int 0, .int l1, .ref 64, .int l3, .ref 64], mo_h gx s gs q)) tk_X9_queueDegraded (by omega) rfl ⟨h9, trivial⟩ ?_
              refine pm_Wg.callV (m' := 211) (ix := 267) (rr := 282) (pl := 1715) (b := 64) (As := [.int l1, .int 0]) (S := [.int l3, .ref 64]) (by decide) rfl (pm_dec tk_X9_queueDegraded rfl) rfl rfl (by decide) rfl rfl (by decide) (Nat.le_of_ble_eq_true rfl) rfl (e_X9_ofRequest d (by omega) gx gs q _ _ _ _ q11) ?_
              cases q13 : f_X9_ofRequest s l1 2 with
              | none => rw [q13] at H; cases H
              | some r12 =>
               rw [q13] at H
               dsimp only at H
               refine pm_Wg.path (k := 5) (ds := []) (f' := (40, [some (.ref 64), some (.int l1), some (.int l2), some (.int l3)], [.int 2, .int l1, .ref 64, .int l2, .int 0, .int r10, .int l3, .ref 64], mo_h gx s gs q)) tk_X9_queueDegraded (by omega) rfl trivial ?_
               refine pm_Wg.callV (m' := 211) (ix := 267) (rr := 282) (pl := 1715) (b := 64) (As := [.int l1, .int 2]) (S := [.int l2, .int 0, .int r10, .int l3, .ref 64]) (by decide) rfl (pm_dec tk_X9_queueDegraded rfl) rfl rfl (by decide) rfl rfl (by decide) (Nat.le_of_ble_eq_true rfl) rfl (e_X9_ofRequest d (by omega) gx gs q _ _ _ _ q13) ?_
               cases q15 : f_X9_queue s l3 r10 0 l2 r12 l1 with
               | none => rw [q15] at H; cases H
               | some s14 =>
                rw [q15] at H
                dsimp only at H
                refine pm_Wg.path (k := 1) (ds := []) (f' := (44, [some (.ref 64), some (.int l1), some (.int l2), some (.int l3)], [.int l1, .int r12, .int l2, .int 0, .int r10, .int l3, .ref 64], mo_h gx s gs q)) tk_X9_queueDegraded (by omega) rfl trivial ?_
                refine pm_Wg.callV (m' := 207) (ix := 282) (rr := 283) (pl := 1719) (b := 64) (As := [.int l3, .int r10, .int 0, .int l2, .int r12, .int l1]) (S := []) (by decide) rfl (pm_dec tk_X9_queueDegraded rfl) rfl rfl (by decide) rfl rfl (by decide) (Nat.le_of_ble_eq_true rfl) rfl (e_X9_queue d (by omega) gx gs q _ _ _ _ _ _ _ _ q15) ?_
                refine pm_Wg.path (k := 2) (ds := []) (f' := (2, [some (.ref 64), some (.int l1), some (.int l2), some (.int (l3 + 1))], [], mo_h gx s14 gs q)) tk_X9_queueDegraded (by omega) rfl trivial ?_
                exact ih _ _ _ _ e H hPe
           · rw [if_neg h9] at H
             refine pm_Wg.path (k := 3) (ds := [1]) (f' := (2, [some (.ref 64), some (.int l1), some (.int l2), some (.int (l3 + 1))], [], mo_h gx s gs q)) tk_X9_queueDegraded (by omega) rfl ⟨h9, trivial⟩ ?_
             exact ih _ _ _ _ e H hPe
set_option maxRecDepth 20000 in
set_option maxHeartbeats 20000000 in
theorem e_X9_queueDegraded (d : Nat) (hd : 6 ≤ d) (gx : List pm_E) (gs : List (List pm_E)) (q : Nat × Nat × Nat) (s : mo_S) (a0 : Int32) (a1 : Int32) (s1 : mo_S) (H : f_X9_queueDegraded s a0 a1 = some s1) : pm_Mt 220 d [.ref 64, .int a0, .int a1] (mo_h gx s gs q) (.inl (none)) (mo_h gx s1 gs q) := by
  refine pm_Mt.of (by decide) (by decide +kernel) rfl rfl ?_
  obtain ⟨d, rfl⟩ : ∃ d', d = d' + 1 := ⟨d - 1, by omega⟩
  unfold f_X9_queueDegraded at H
  refine pm_Wg.path (k := 2) (ds := []) (f' := (2, [some (.ref 64), some (.int a0), some (.int a1), some (.int 0)], [], mo_h gx s gs q)) tk_X9_queueDegraded (by omega) rfl trivial ?_
  exact ll_X9_queueDegraded_2 (d + 1) (by omega) gx gs q s1 (fun e => e = s1) (fun e he => he) pm_fu _ _ _ _ _ H rfl

def f_X9_queueRead (s : mo_S) (a0 : Int32) (a1 : Int32) : Option mo_S :=
  (match f_X9_diskFor s a1 with
  | none => none
  | some r1 =>
   (match f_X9_stripeFor s a1 with
   | none => none
   | some r3 =>
    (match pm_inb 1 18186 with
    | false => none
    | true =>
    (if r1 = (s.2.2.1 3 (Int32.toNatClampNeg 1)) then
     (match f_X9_stateOf s r3 with
     | none => none
     | some r9 =>
      (if r9 = 3 then
       (if r1 = (s.2.2.1 3 (Int32.toNatClampNeg 1)) then
        (match f_X9_disks s with
        | none => none
        | some r14 =>
         (match f_X9_ofRequest s a0 0 with
         | none => none
         | some r16 =>
          (match f_X9_ofRequest s a0 2 with
          | none => none
          | some r18 =>
           (match f_X9_queue s r14 r16 0 r3 r18 a0 with
           | none => none
           | some s20 =>
            some s20))))
       else
        (match f_X9_ofRequest s a0 0 with
        | none => none
        | some r22 =>
         (match f_X9_ofRequest s a0 2 with
         | none => none
         | some r24 =>
          (match f_X9_queue s r1 r22 0 r3 r24 a0 with
          | none => none
          | some s26 =>
           some s26))))
      else
       (match f_X9_queueDegraded s a0 r3 with
       | none => none
       | some s28 =>
        some s28)))
    else
     (if r1 = (s.2.2.1 3 (Int32.toNatClampNeg 1)) then
      (match f_X9_disks s with
      | none => none
      | some r30 =>
       (match f_X9_ofRequest s a0 0 with
       | none => none
       | some r32 =>
        (match f_X9_ofRequest s a0 2 with
        | none => none
        | some r34 =>
         (match f_X9_queue s r30 r32 0 r3 r34 a0 with
         | none => none
         | some s36 =>
          some s36))))
     else
      (match f_X9_ofRequest s a0 0 with
      | none => none
      | some r38 =>
       (match f_X9_ofRequest s a0 2 with
       | none => none
       | some r40 =>
        (match f_X9_queue s r1 r38 0 r3 r40 a0 with
        | none => none
        | some s42 =>
         some s42))))))))
def tb_X9_queueRead : List pm_I := [(0, .aload_n 0, 0, 0), (1, .iload_n 2, 0, 0), (2, .invokevirtual 212, 266, 0), (5, .istore_n 3, 0, 0), (6, .aload_n 0, 0, 0), (7, .iload_n 2, 0, 0), (8, .invokevirtual 203, 264, 0), (11, .istore 4, 0, 0), (13, .iload_n 3, 0, 0), (14, .aload_n 0, 0, 0), (15, .getfield 16, 162, 0), (18, .iconst 1, 3, 0), (19, .iaload, 0, 0), (20, .if_icmp .ne 21, 41, 0), (23, .aload_n 0, 0, 0), (24, .iload 4, 0, 0), (26, .invokevirtual 286, 278, 0), (29, .iconst 3, 5, 0), (30, .if_icmp .eq 11, 41, 0), (33, .aload_n 0, 0, 0), (34, .iload_n 1, 0, 0), (35, .iload 4, 0, 0), (37, .invokevirtual 289, 279, 0), (40, .return_, 0, 0), (41, .aload_n 0, 0, 0), (42, .iload_n 3, 0, 0), (43, .aload_n 0, 0, 0), (44, .getfield 16, 162, 0), (47, .iconst 1, 3, 0), (48, .iaload, 0, 0), (49, .if_icmp .ne 10, 59, 0), (52, .aload_n 0, 0, 0), (53, .invokevirtual 55, 258, 0), (56, .goto 4, 60, 0), (59, .iload_n 3, 0, 0), (60, .aload_n 0, 0, 0), (61, .iload_n 1, 0, 0), (62, .iconst 0, 2, 0), (63, .invokevirtual 267, 282, 0), (66, .iconst 0, 2, 0), (67, .iload 4, 0, 0), (69, .aload_n 0, 0, 0), (70, .iload_n 1, 0, 0), (71, .iconst 2, 4, 0), (72, .invokevirtual 267, 282, 0), (75, .iload_n 1, 0, 0), (76, .invokevirtual 282, 283, 0), (79, .return_, 0, 0)]
theorem tk_X9_queueRead : ∀ e ∈ tb_X9_queueRead, pm_ck 221 e = true := List.all_eq_true.mp (by decide +kernel)
set_option maxRecDepth 20000 in
set_option maxHeartbeats 20000000 in
theorem e_X9_queueRead (d : Nat) (hd : 7 ≤ d) (gx : List pm_E) (gs : List (List pm_E)) (q : Nat × Nat × Nat) (s : mo_S) (a0 : Int32) (a1 : Int32) (s1 : mo_S) (H : f_X9_queueRead s a0 a1 = some s1) : pm_Mt 221 d [.ref 64, .int a0, .int a1] (mo_h gx s gs q) (.inl (none)) (mo_h gx s1 gs q) := by
  refine pm_Mt.of (by decide) (by decide +kernel) rfl rfl ?_
  obtain ⟨d, rfl⟩ : ∃ d', d = d' + 1 := ⟨d - 1, by omega⟩
  unfold f_X9_queueRead at H
  cases q2 : f_X9_diskFor s a1 with
  | none => rw [q2] at H; cases H
  | some r1 =>
   rw [q2] at H
   dsimp only at H
   refine pm_Wg.path (k := 2) (ds := []) (f' := (2, [some (.ref 64), some (.int a0), some (.int a1), none, none], [.int a1, .ref 64], mo_h gx s gs q)) tk_X9_queueRead (by omega) rfl trivial ?_
   refine pm_Wg.callV (m' := 190) (ix := 212) (rr := 266) (pl := 1651) (b := 64) (As := [.int a1]) (S := []) (by decide) rfl (pm_dec tk_X9_queueRead rfl) rfl rfl (by decide) rfl rfl (by decide) (Nat.le_of_ble_eq_true rfl) rfl (e_X9_diskFor d (by omega) gx gs q _ _ _ q2) ?_
   cases q4 : f_X9_stripeFor s a1 with
   | none => rw [q4] at H; cases H
   | some r3 =>
    rw [q4] at H
    dsimp only at H
    refine pm_Wg.path (k := 3) (ds := []) (f' := (8, [some (.ref 64), some (.int a0), some (.int a1), some (.int r1), none], [.int a1, .ref 64], mo_h gx s gs q)) tk_X9_queueRead (by omega) rfl trivial ?_
    refine pm_Wg.callV (m' := 188) (ix := 203) (rr := 264) (pl := 1643) (b := 64) (As := [.int a1]) (S := []) (by decide) rfl (pm_dec tk_X9_queueRead rfl) rfl rfl (by decide) rfl rfl (by decide) (Nat.le_of_ble_eq_true rfl) rfl (e_X9_stripeFor d (by omega) gx gs q _ _ _ q4) ?_
    cases b5 : pm_inb 1 18186 with
    | false => rw [b5] at H; cases H
    | true =>
     rw [b5] at H
     dsimp only at H
     by_cases h6 : r1 = (s.2.2.1 3 (Int32.toNatClampNeg 1))
     · rw [if_pos h6] at H
       cases q10 : f_X9_stateOf s r3 with
       | none => rw [q10] at H; cases H
       | some r9 =>
        rw [q10] at H
        dsimp only at H
        refine pm_Wg.path (k := 9) (ds := [0]) (f' := (26, [some (.ref 64), some (.int a0), some (.int a1), some (.int r1), some (.int r3)], [.int r3, .ref 64], mo_h gx s gs q)) tk_X9_queueRead (by omega) rfl ⟨h6, pm_inb_vp b5, trivial⟩ ?_
        refine pm_Wg.callV (m' := 219) (ix := 286) (rr := 278) (pl := 1699) (b := 64) (As := [.int r3]) (S := []) (by decide) rfl (pm_dec tk_X9_queueRead rfl) rfl rfl (by decide) rfl rfl (by decide) (Nat.le_of_ble_eq_true rfl) rfl (e_X9_stateOf d (by omega) gx gs q _ _ _ q10) ?_
        by_cases h11 : r9 = 3
        · rw [if_pos h11] at H
          by_cases h13 : r1 = (s.2.2.1 3 (Int32.toNatClampNeg 1))
          · rw [if_pos h13] at H
            cases q15 : f_X9_disks s with
            | none => rw [q15] at H; cases H
            | some r14 =>
             rw [q15] at H
             dsimp only at H
             refine pm_Wg.path (k := 10) (ds := [1, 0]) (f' := (53, [some (.ref 64), some (.int a0), some (.int a1), some (.int r1), some (.int r3)], [.ref 64, .ref 64], mo_h gx s gs q)) tk_X9_queueRead (by omega) rfl ⟨h13, pm_inb_vp b5, h11, trivial⟩ ?_
             refine pm_Wg.callV (m' := 150) (ix := 55) (rr := 258) (pl := 1618) (b := 64) (As := []) (S := [.ref 64]) (by decide) rfl (pm_dec tk_X9_queueRead rfl) rfl rfl (by decide) rfl rfl (by decide) (Nat.le_of_ble_eq_true rfl) rfl (e_X9_disks d (by omega) gx gs q _ _ q15) ?_
             cases q17 : f_X9_ofRequest s a0 0 with
             | none => rw [q17] at H; cases H
             | some r16 =>
              rw [q17] at H
              dsimp only at H
              refine pm_Wg.path (k := 4) (ds := []) (f' := (63, [some (.ref 64), some (.int a0), some (.int a1), some (.int r1), some (.int r3)], [.int 0, .int a0, .ref 64, .int r14, .ref 64], mo_h gx s gs q)) tk_X9_queueRead (by omega) rfl trivial ?_
              refine pm_Wg.callV (m' := 211) (ix := 267) (rr := 282) (pl := 1715) (b := 64) (As := [.int a0, .int 0]) (S := [.int r14, .ref 64]) (by decide) rfl (pm_dec tk_X9_queueRead rfl) rfl rfl (by decide) rfl rfl (by decide) (Nat.le_of_ble_eq_true rfl) rfl (e_X9_ofRequest d (by omega) gx gs q _ _ _ _ q17) ?_
              cases q19 : f_X9_ofRequest s a0 2 with
              | none => rw [q19] at H; cases H
              | some r18 =>
               rw [q19] at H
               dsimp only at H
               refine pm_Wg.path (k := 5) (ds := []) (f' := (72, [some (.ref 64), some (.int a0), some (.int a1), some (.int r1), some (.int r3)], [.int 2, .int a0, .ref 64, .int r3, .int 0, .int r16, .int r14, .ref 64], mo_h gx s gs q)) tk_X9_queueRead (by omega) rfl trivial ?_
               refine pm_Wg.callV (m' := 211) (ix := 267) (rr := 282) (pl := 1715) (b := 64) (As := [.int a0, .int 2]) (S := [.int r3, .int 0, .int r16, .int r14, .ref 64]) (by decide) rfl (pm_dec tk_X9_queueRead rfl) rfl rfl (by decide) rfl rfl (by decide) (Nat.le_of_ble_eq_true rfl) rfl (e_X9_ofRequest d (by omega) gx gs q _ _ _ _ q19) ?_
               cases q21 : f_X9_queue s r14 r16 0 r3 r18 a0 with
               | none => rw [q21] at H; cases H
               | some s20 =>
                rw [q21] at H
                dsimp only at H
                refine pm_Wg.path (k := 1) (ds := []) (f' := (76, [some (.ref 64), some (.int a0), some (.int a1), some (.int r1), some (.int r3)], [.int a0, .int r18, .int r3, .int 0, .int r16, .int r14, .ref 64], mo_h gx s gs q)) tk_X9_queueRead (by omega) rfl trivial ?_
                refine pm_Wg.callV (m' := 207) (ix := 282) (rr := 283) (pl := 1719) (b := 64) (As := [.int r14, .int r16, .int 0, .int r3, .int r18, .int a0]) (S := []) (by decide) rfl (pm_dec tk_X9_queueRead rfl) rfl rfl (by decide) rfl rfl (by decide) (Nat.le_of_ble_eq_true rfl) rfl (e_X9_queue d (by omega) gx gs q _ _ _ _ _ _ _ _ q21) ?_
                injection H with H
                subst H
                exact pm_Wg.vret (pm_dec tk_X9_queueRead rfl) rfl
          · rw [if_neg h13] at H
            cases q23 : f_X9_ofRequest s a0 0 with
            | none => rw [q23] at H; cases H
            | some r22 =>
             rw [q23] at H
             dsimp only at H
             refine pm_Wg.path (k := 13) (ds := [1, 1]) (f' := (63, [some (.ref 64), some (.int a0), some (.int a1), some (.int r1), some (.int r3)], [.int 0, .int a0, .ref 64, .int r1, .ref 64], mo_h gx s gs q)) tk_X9_queueRead (by omega) rfl ⟨h13, pm_inb_vp b5, h11, trivial⟩ ?_
             refine pm_Wg.callV (m' := 211) (ix := 267) (rr := 282) (pl := 1715) (b := 64) (As := [.int a0, .int 0]) (S := [.int r1, .ref 64]) (by decide) rfl (pm_dec tk_X9_queueRead rfl) rfl rfl (by decide) rfl rfl (by decide) (Nat.le_of_ble_eq_true rfl) rfl (e_X9_ofRequest d (by omega) gx gs q _ _ _ _ q23) ?_
             cases q25 : f_X9_ofRequest s a0 2 with
             | none => rw [q25] at H; cases H
             | some r24 =>
              rw [q25] at H
              dsimp only at H
              refine pm_Wg.path (k := 5) (ds := []) (f' := (72, [some (.ref 64), some (.int a0), some (.int a1), some (.int r1), some (.int r3)], [.int 2, .int a0, .ref 64, .int r3, .int 0, .int r22, .int r1, .ref 64], mo_h gx s gs q)) tk_X9_queueRead (by omega) rfl trivial ?_
              refine pm_Wg.callV (m' := 211) (ix := 267) (rr := 282) (pl := 1715) (b := 64) (As := [.int a0, .int 2]) (S := [.int r3, .int 0, .int r22, .int r1, .ref 64]) (by decide) rfl (pm_dec tk_X9_queueRead rfl) rfl rfl (by decide) rfl rfl (by decide) (Nat.le_of_ble_eq_true rfl) rfl (e_X9_ofRequest d (by omega) gx gs q _ _ _ _ q25) ?_
              cases q27 : f_X9_queue s r1 r22 0 r3 r24 a0 with
              | none => rw [q27] at H; cases H
              | some s26 =>
               rw [q27] at H
               dsimp only at H
               refine pm_Wg.path (k := 1) (ds := []) (f' := (76, [some (.ref 64), some (.int a0), some (.int a1), some (.int r1), some (.int r3)], [.int a0, .int r24, .int r3, .int 0, .int r22, .int r1, .ref 64], mo_h gx s gs q)) tk_X9_queueRead (by omega) rfl trivial ?_
               refine pm_Wg.callV (m' := 207) (ix := 282) (rr := 283) (pl := 1719) (b := 64) (As := [.int r1, .int r22, .int 0, .int r3, .int r24, .int a0]) (S := []) (by decide) rfl (pm_dec tk_X9_queueRead rfl) rfl rfl (by decide) rfl rfl (by decide) (Nat.le_of_ble_eq_true rfl) rfl (e_X9_queue d (by omega) gx gs q _ _ _ _ _ _ _ _ q27) ?_
               injection H with H
               subst H
               exact pm_Wg.vret (pm_dec tk_X9_queueRead rfl) rfl
        · rw [if_neg h11] at H
          cases q29 : f_X9_queueDegraded s a0 r3 with
          | none => rw [q29] at H; cases H
          | some s28 =>
           rw [q29] at H
           dsimp only at H
           refine pm_Wg.path (k := 5) (ds := [0]) (f' := (37, [some (.ref 64), some (.int a0), some (.int a1), some (.int r1), some (.int r3)], [.int r3, .int a0, .ref 64], mo_h gx s gs q)) tk_X9_queueRead (by omega) rfl ⟨h11, trivial⟩ ?_
           refine pm_Wg.callV (m' := 220) (ix := 289) (rr := 279) (pl := 1703) (b := 64) (As := [.int a0, .int r3]) (S := []) (by decide) rfl (pm_dec tk_X9_queueRead rfl) rfl rfl (by decide) rfl rfl (by decide) (Nat.le_of_ble_eq_true rfl) rfl (e_X9_queueDegraded d (by omega) gx gs q _ _ _ _ q29) ?_
           injection H with H
           subst H
           exact pm_Wg.vret (pm_dec tk_X9_queueRead rfl) rfl
     · rw [if_neg h6] at H
       by_cases h8 : r1 = (s.2.2.1 3 (Int32.toNatClampNeg 1))
       · rw [if_pos h8] at H
         cases q31 : f_X9_disks s with
         | none => rw [q31] at H; cases H
         | some r30 =>
          rw [q31] at H
          dsimp only at H
          refine pm_Wg.path (k := 15) (ds := [1, 0]) (f' := (53, [some (.ref 64), some (.int a0), some (.int a1), some (.int r1), some (.int r3)], [.ref 64, .ref 64], mo_h gx s gs q)) tk_X9_queueRead (by omega) rfl ⟨h8, pm_inb_vp b5, h6, pm_inb_vp b5, trivial⟩ ?_
          refine pm_Wg.callV (m' := 150) (ix := 55) (rr := 258) (pl := 1618) (b := 64) (As := []) (S := [.ref 64]) (by decide) rfl (pm_dec tk_X9_queueRead rfl) rfl rfl (by decide) rfl rfl (by decide) (Nat.le_of_ble_eq_true rfl) rfl (e_X9_disks d (by omega) gx gs q _ _ q31) ?_
          cases q33 : f_X9_ofRequest s a0 0 with
          | none => rw [q33] at H; cases H
          | some r32 =>
           rw [q33] at H
           dsimp only at H
           refine pm_Wg.path (k := 4) (ds := []) (f' := (63, [some (.ref 64), some (.int a0), some (.int a1), some (.int r1), some (.int r3)], [.int 0, .int a0, .ref 64, .int r30, .ref 64], mo_h gx s gs q)) tk_X9_queueRead (by omega) rfl trivial ?_
           refine pm_Wg.callV (m' := 211) (ix := 267) (rr := 282) (pl := 1715) (b := 64) (As := [.int a0, .int 0]) (S := [.int r30, .ref 64]) (by decide) rfl (pm_dec tk_X9_queueRead rfl) rfl rfl (by decide) rfl rfl (by decide) (Nat.le_of_ble_eq_true rfl) rfl (e_X9_ofRequest d (by omega) gx gs q _ _ _ _ q33) ?_
           cases q35 : f_X9_ofRequest s a0 2 with
           | none => rw [q35] at H; cases H
           | some r34 =>
            rw [q35] at H
            dsimp only at H
            refine pm_Wg.path (k := 5) (ds := []) (f' := (72, [some (.ref 64), some (.int a0), some (.int a1), some (.int r1), some (.int r3)], [.int 2, .int a0, .ref 64, .int r3, .int 0, .int r32, .int r30, .ref 64], mo_h gx s gs q)) tk_X9_queueRead (by omega) rfl trivial ?_
            refine pm_Wg.callV (m' := 211) (ix := 267) (rr := 282) (pl := 1715) (b := 64) (As := [.int a0, .int 2]) (S := [.int r3, .int 0, .int r32, .int r30, .ref 64]) (by decide) rfl (pm_dec tk_X9_queueRead rfl) rfl rfl (by decide) rfl rfl (by decide) (Nat.le_of_ble_eq_true rfl) rfl (e_X9_ofRequest d (by omega) gx gs q _ _ _ _ q35) ?_
            cases q37 : f_X9_queue s r30 r32 0 r3 r34 a0 with
            | none => rw [q37] at H; cases H
            | some s36 =>
             rw [q37] at H
             dsimp only at H
             refine pm_Wg.path (k := 1) (ds := []) (f' := (76, [some (.ref 64), some (.int a0), some (.int a1), some (.int r1), some (.int r3)], [.int a0, .int r34, .int r3, .int 0, .int r32, .int r30, .ref 64], mo_h gx s gs q)) tk_X9_queueRead (by omega) rfl trivial ?_
             refine pm_Wg.callV (m' := 207) (ix := 282) (rr := 283) (pl := 1719) (b := 64) (As := [.int r30, .int r32, .int 0, .int r3, .int r34, .int a0]) (S := []) (by decide) rfl (pm_dec tk_X9_queueRead rfl) rfl rfl (by decide) rfl rfl (by decide) (Nat.le_of_ble_eq_true rfl) rfl (e_X9_queue d (by omega) gx gs q _ _ _ _ _ _ _ _ q37) ?_
             injection H with H
             subst H
             exact pm_Wg.vret (pm_dec tk_X9_queueRead rfl) rfl
       · rw [if_neg h8] at H
         cases q39 : f_X9_ofRequest s a0 0 with
         | none => rw [q39] at H; cases H
         | some r38 =>
          rw [q39] at H
          dsimp only at H
          refine pm_Wg.path (k := 18) (ds := [1, 1]) (f' := (63, [some (.ref 64), some (.int a0), some (.int a1), some (.int r1), some (.int r3)], [.int 0, .int a0, .ref 64, .int r1, .ref 64], mo_h gx s gs q)) tk_X9_queueRead (by omega) rfl ⟨h8, pm_inb_vp b5, h6, pm_inb_vp b5, trivial⟩ ?_
          refine pm_Wg.callV (m' := 211) (ix := 267) (rr := 282) (pl := 1715) (b := 64) (As := [.int a0, .int 0]) (S := [.int r1, .ref 64]) (by decide) rfl (pm_dec tk_X9_queueRead rfl) rfl rfl (by decide) rfl rfl (by decide) (Nat.le_of_ble_eq_true rfl) rfl (e_X9_ofRequest d (by omega) gx gs q _ _ _ _ q39) ?_
          cases q41 : f_X9_ofRequest s a0 2 with
          | none => rw [q41] at H; cases H
          | some r40 =>
           rw [q41] at H
           dsimp only at H
           refine pm_Wg.path (k := 5) (ds := []) (f' := (72, [some (.ref 64), some (.int a0), some (.int a1), some (.int r1), some (.int r3)], [.int 2, .int a0, .ref 64, .int r3, .int 0, .int r38, .int r1, .ref 64], mo_h gx s gs q)) tk_X9_queueRead (by omega) rfl trivial ?_
           refine pm_Wg.callV (m' := 211) (ix := 267) (rr := 282) (pl := 1715) (b := 64) (As := [.int a0, .int 2]) (S := [.int r3, .int 0, .int r38, .int r1, .ref 64]) (by decide) rfl (pm_dec tk_X9_queueRead rfl) rfl rfl (by decide) rfl rfl (by decide) (Nat.le_of_ble_eq_true rfl) rfl (e_X9_ofRequest d (by omega) gx gs q _ _ _ _ q41) ?_
           cases q43 : f_X9_queue s r1 r38 0 r3 r40 a0 with
           | none => rw [q43] at H; cases H
           | some s42 =>
            rw [q43] at H
            dsimp only at H
            refine pm_Wg.path (k := 1) (ds := []) (f' := (76, [some (.ref 64), some (.int a0), some (.int a1), some (.int r1), some (.int r3)], [.int a0, .int r40, .int r3, .int 0, .int r38, .int r1, .ref 64], mo_h gx s gs q)) tk_X9_queueRead (by omega) rfl trivial ?_
            refine pm_Wg.callV (m' := 207) (ix := 282) (rr := 283) (pl := 1719) (b := 64) (As := [.int r1, .int r38, .int 0, .int r3, .int r40, .int a0]) (S := []) (by decide) rfl (pm_dec tk_X9_queueRead rfl) rfl rfl (by decide) rfl rfl (by decide) (Nat.le_of_ble_eq_true rfl) rfl (e_X9_queue d (by omega) gx gs q _ _ _ _ _ _ _ _ q43) ?_
            injection H with H
            subst H
            exact pm_Wg.vret (pm_dec tk_X9_queueRead rfl) rfl

def f_X9_request (s : mo_S) (a0 : Int32) (a1 : Int32) (a2 : Int32) (a3 : Int32) : Option (Int32 × mo_S) :=
  (match pm_inb 2 18186 with
  | false => none
  | true =>
  (match f_X9_setRequest (mo_a s 3 2 ((s.2.2.1 3 (Int32.toNatClampNeg 2)) + 1)) (s.2.2.1 3 (Int32.toNatClampNeg 2)) 0 a0 with
  | none => none
  | some s3 =>
   (match pm_inb 0 18186 with
   | false => none
   | true =>
   (match f_X9_setRequest s3 (s.2.2.1 3 (Int32.toNatClampNeg 2)) 1 (s3.2.2.1 3 (Int32.toNatClampNeg 0)) with
   | none => none
   | some s6 =>
    (match f_X9_setRequest s6 (s.2.2.1 3 (Int32.toNatClampNeg 2)) 2 a3 with
    | none => none
    | some s8 =>
     (match f_X9_setRequest s8 (s.2.2.1 3 (Int32.toNatClampNeg 2)) 3 0 with
     | none => none
     | some s10 =>
      (match f_X9_setRequest s10 (s.2.2.1 3 (Int32.toNatClampNeg 2)) 4 (-1) with
      | none => none
      | some s12 =>
       (if a2 = 0 then
        (match f_X9_queueRead s12 (s.2.2.1 3 (Int32.toNatClampNeg 2)) a1 with
        | none => none
        | some s15 =>
         (match f_X9_checkRequest s15 (s.2.2.1 3 (Int32.toNatClampNeg 2)) with
         | none => none
         | some s17 =>
          some ((s.2.2.1 3 (Int32.toNatClampNeg 2)), s17)))
       else
        (match f_X9_diskFor s12 a1 with
        | none => none
        | some r19 =>
         (match f_X9_stripeFor s12 a1 with
         | none => none
         | some r21 =>
          (match f_X9_queueWrite s12 (s.2.2.1 3 (Int32.toNatClampNeg 2)) r19 r21 with
          | none => none
          | some s23 =>
           (match f_X9_stripeFor s23 a1 with
           | none => none
           | some r25 =>
            (match f_X9_parityOf s23 r25 with
            | none => none
            | some r27 =>
             (match f_X9_queueWrite s23 (s.2.2.1 3 (Int32.toNatClampNeg 2)) r27 r25 with
             | none => none
             | some s31 =>
              (match f_X9_checkRequest s31 (s.2.2.1 3 (Int32.toNatClampNeg 2)) with
              | none => none
              | some s33 =>
               some ((s.2.2.1 3 (Int32.toNatClampNeg 2)), s33))))))))))))))))
def tb_X9_request : List pm_I := [(0, .aload_n 0, 0, 0), (1, .getfield 16, 162, 0), (4, .iconst 2, 4, 0), (5, .iaload, 0, 0), (6, .istore 5, 0, 0), (8, .aload_n 0, 0, 0), (9, .getfield 16, 162, 0), (12, .iconst 2, 4, 0), (13, .iload 5, 0, 0), (15, .iconst 1, 3, 0), (16, .iadd, 0, 0), (17, .iastore, 0, 0), (18, .aload_n 0, 0, 0), (19, .iload 5, 0, 0), (21, .iconst 0, 2, 0), (22, .iload_n 1, 0, 0), (23, .invokevirtual 270, 276, 0), (26, .aload_n 0, 0, 0), (27, .iload 5, 0, 0), (29, .iconst 1, 3, 0), (30, .aload_n 0, 0, 0), (31, .getfield 16, 162, 0), (34, .iconst 0, 2, 0), (35, .iaload, 0, 0), (36, .invokevirtual 270, 276, 0), (39, .aload_n 0, 0, 0), (40, .iload 5, 0, 0), (42, .iconst 2, 4, 0), (43, .iload 4, 0, 0), (45, .invokevirtual 270, 276, 0), (48, .aload_n 0, 0, 0), (49, .iload 5, 0, 0), (51, .iconst 3, 5, 0), (52, .iconst 0, 2, 0), (53, .invokevirtual 270, 276, 0), (56, .aload_n 0, 0, 0), (57, .iload 5, 0, 0), (59, .iconst 4, 6, 0), (60, .iconst (-1), 1, 0), (61, .invokevirtual 270, 276, 0), (64, .iload_n 3, 0, 0), (65, .ifCond .ne 13, 78, 0), (68, .aload_n 0, 0, 0), (69, .iload 5, 0, 0), (71, .iload_n 2, 0, 0), (72, .invokevirtual 292, 277, 0), (75, .goto 39, 114, 0), (78, .aload_n 0, 0, 0), (79, .iload 5, 0, 0), (81, .aload_n 0, 0, 0), (82, .iload_n 2, 0, 0), (83, .invokevirtual 212, 266, 0), (86, .aload_n 0, 0, 0), (87, .iload_n 2, 0, 0), (88, .invokevirtual 203, 264, 0), (91, .invokevirtual 295, 294, 0), (94, .aload_n 0, 0, 0), (95, .iload 5, 0, 0), (97, .aload_n 0, 0, 0), (98, .aload_n 0, 0, 0), (99, .iload_n 2, 0, 0), (100, .invokevirtual 203, 264, 0), (103, .invokevirtual 206, 267, 0), (106, .aload_n 0, 0, 0), (107, .iload_n 2, 0, 0), (108, .invokevirtual 203, 264, 0), (111, .invokevirtual 295, 294, 0), (114, .aload_n 0, 0, 0), (115, .iload 5, 0, 0), (117, .invokevirtual 298, 295, 0), (120, .iload 5, 0, 0), (122, .ireturn, 0, 0)]
theorem tk_X9_request : ∀ e ∈ tb_X9_request, pm_ck 223 e = true := List.all_eq_true.mp (by decide +kernel)
set_option maxRecDepth 20000 in
set_option maxHeartbeats 20000000 in
theorem e_X9_request (d : Nat) (hd : 8 ≤ d) (gx : List pm_E) (gs : List (List pm_E)) (q : Nat × Nat × Nat) (s : mo_S) (a0 : Int32) (a1 : Int32) (a2 : Int32) (a3 : Int32) (r : Int32) (s1 : mo_S) (H : f_X9_request s a0 a1 a2 a3 = some (r, s1)) : pm_Mt 223 d [.ref 64, .int a0, .int a1, .int a2, .int a3] (mo_h gx s gs q) (.inl (some (.int r))) (mo_h gx s1 gs q) := by
  refine pm_Mt.of (by decide) (by decide +kernel) rfl rfl ?_
  obtain ⟨d, rfl⟩ : ∃ d', d = d' + 1 := ⟨d - 1, by omega⟩
  unfold f_X9_request at H
  cases b1 : pm_inb 2 18186 with
  | false => rw [b1] at H; cases H
  | true =>
   rw [b1] at H
   dsimp only at H
   cases q4 : f_X9_setRequest (mo_a s 3 2 ((s.2.2.1 3 (Int32.toNatClampNeg 2)) + 1)) (s.2.2.1 3 (Int32.toNatClampNeg 2)) 0 a0 with
   | none => rw [q4] at H; cases H
   | some s3 =>
    rw [q4] at H
    dsimp only at H
    refine pm_Wg.path (k := 16) (ds := []) (f' := (23, [some (.ref 64), some (.int a0), some (.int a1), some (.int a2), some (.int a3), some (.int (s.2.2.1 3 (Int32.toNatClampNeg 2)))], [.int a0, .int 0, .int (s.2.2.1 3 (Int32.toNatClampNeg 2)), .ref 64], mo_h gx (mo_a s 3 2 ((s.2.2.1 3 (Int32.toNatClampNeg 2)) + 1)) gs q)) tk_X9_request (by omega) rfl ⟨pm_inb_vp b1, pm_inb_vp b1, trivial⟩ ?_
    refine pm_Wg.callV (m' := 212) (ix := 270) (rr := 276) (pl := 1691) (b := 64) (As := [.int (s.2.2.1 3 (Int32.toNatClampNeg 2)), .int 0, .int a0]) (S := []) (by decide) rfl (pm_dec tk_X9_request rfl) rfl rfl (by decide) rfl rfl (by decide) (Nat.le_of_ble_eq_true rfl) rfl (e_X9_setRequest d (by omega) gx gs q _ _ _ _ _ q4) ?_
    cases b5 : pm_inb 0 18186 with
    | false => rw [b5] at H; cases H
    | true =>
     rw [b5] at H
     dsimp only at H
     cases q7 : f_X9_setRequest s3 (s.2.2.1 3 (Int32.toNatClampNeg 2)) 1 (s3.2.2.1 3 (Int32.toNatClampNeg 0)) with
     | none => rw [q7] at H; cases H
     | some s6 =>
      rw [q7] at H
      dsimp only at H
      refine pm_Wg.path (k := 7) (ds := []) (f' := (36, [some (.ref 64), some (.int a0), some (.int a1), some (.int a2), some (.int a3), some (.int (s.2.2.1 3 (Int32.toNatClampNeg 2)))], [.int (s3.2.2.1 3 (Int32.toNatClampNeg 0)), .int 1, .int (s.2.2.1 3 (Int32.toNatClampNeg 2)), .ref 64], mo_h gx s3 gs q)) tk_X9_request (by omega) rfl ⟨pm_inb_vp b5, trivial⟩ ?_
      refine pm_Wg.callV (m' := 212) (ix := 270) (rr := 276) (pl := 1691) (b := 64) (As := [.int (s.2.2.1 3 (Int32.toNatClampNeg 2)), .int 1, .int (s3.2.2.1 3 (Int32.toNatClampNeg 0))]) (S := []) (by decide) rfl (pm_dec tk_X9_request rfl) rfl rfl (by decide) rfl rfl (by decide) (Nat.le_of_ble_eq_true rfl) rfl (e_X9_setRequest d (by omega) gx gs q _ _ _ _ _ q7) ?_
      cases q9 : f_X9_setRequest s6 (s.2.2.1 3 (Int32.toNatClampNeg 2)) 2 a3 with
      | none => rw [q9] at H; cases H
      | some s8 =>
       rw [q9] at H
       dsimp only at H
       refine pm_Wg.path (k := 4) (ds := []) (f' := (45, [some (.ref 64), some (.int a0), some (.int a1), some (.int a2), some (.int a3), some (.int (s.2.2.1 3 (Int32.toNatClampNeg 2)))], [.int a3, .int 2, .int (s.2.2.1 3 (Int32.toNatClampNeg 2)), .ref 64], mo_h gx s6 gs q)) tk_X9_request (by omega) rfl trivial ?_
       refine pm_Wg.callV (m' := 212) (ix := 270) (rr := 276) (pl := 1691) (b := 64) (As := [.int (s.2.2.1 3 (Int32.toNatClampNeg 2)), .int 2, .int a3]) (S := []) (by decide) rfl (pm_dec tk_X9_request rfl) rfl rfl (by decide) rfl rfl (by decide) (Nat.le_of_ble_eq_true rfl) rfl (e_X9_setRequest d (by omega) gx gs q _ _ _ _ _ q9) ?_
       cases q11 : f_X9_setRequest s8 (s.2.2.1 3 (Int32.toNatClampNeg 2)) 3 0 with
       | none => rw [q11] at H; cases H
       | some s10 =>
        rw [q11] at H
        dsimp only at H
        refine pm_Wg.path (k := 4) (ds := []) (f' := (53, [some (.ref 64), some (.int a0), some (.int a1), some (.int a2), some (.int a3), some (.int (s.2.2.1 3 (Int32.toNatClampNeg 2)))], [.int 0, .int 3, .int (s.2.2.1 3 (Int32.toNatClampNeg 2)), .ref 64], mo_h gx s8 gs q)) tk_X9_request (by omega) rfl trivial ?_
        refine pm_Wg.callV (m' := 212) (ix := 270) (rr := 276) (pl := 1691) (b := 64) (As := [.int (s.2.2.1 3 (Int32.toNatClampNeg 2)), .int 3, .int 0]) (S := []) (by decide) rfl (pm_dec tk_X9_request rfl) rfl rfl (by decide) rfl rfl (by decide) (Nat.le_of_ble_eq_true rfl) rfl (e_X9_setRequest d (by omega) gx gs q _ _ _ _ _ q11) ?_
        cases q13 : f_X9_setRequest s10 (s.2.2.1 3 (Int32.toNatClampNeg 2)) 4 (-1) with
        | none => rw [q13] at H; cases H
        | some s12 =>
         rw [q13] at H
         dsimp only at H
         refine pm_Wg.path (k := 4) (ds := []) (f' := (61, [some (.ref 64), some (.int a0), some (.int a1), some (.int a2), some (.int a3), some (.int (s.2.2.1 3 (Int32.toNatClampNeg 2)))], [.int (-1), .int 4, .int (s.2.2.1 3 (Int32.toNatClampNeg 2)), .ref 64], mo_h gx s10 gs q)) tk_X9_request (by omega) rfl trivial ?_
         refine pm_Wg.callV (m' := 212) (ix := 270) (rr := 276) (pl := 1691) (b := 64) (As := [.int (s.2.2.1 3 (Int32.toNatClampNeg 2)), .int 4, .int (-1)]) (S := []) (by decide) rfl (pm_dec tk_X9_request rfl) rfl rfl (by decide) rfl rfl (by decide) (Nat.le_of_ble_eq_true rfl) rfl (e_X9_setRequest d (by omega) gx gs q _ _ _ _ _ q13) ?_
         by_cases h14 : a2 = 0
         · rw [if_pos h14] at H
           cases q16 : f_X9_queueRead s12 (s.2.2.1 3 (Int32.toNatClampNeg 2)) a1 with
           | none => rw [q16] at H; cases H
           | some s15 =>
            rw [q16] at H
            dsimp only at H
            refine pm_Wg.path (k := 5) (ds := [0]) (f' := (72, [some (.ref 64), some (.int a0), some (.int a1), some (.int a2), some (.int a3), some (.int (s.2.2.1 3 (Int32.toNatClampNeg 2)))], [.int a1, .int (s.2.2.1 3 (Int32.toNatClampNeg 2)), .ref 64], mo_h gx s12 gs q)) tk_X9_request (by omega) rfl ⟨h14, trivial⟩ ?_
            refine pm_Wg.callV (m' := 221) (ix := 292) (rr := 277) (pl := 1695) (b := 64) (As := [.int (s.2.2.1 3 (Int32.toNatClampNeg 2)), .int a1]) (S := []) (by decide) rfl (pm_dec tk_X9_request rfl) rfl rfl (by decide) rfl rfl (by decide) (Nat.le_of_ble_eq_true rfl) rfl (e_X9_queueRead d (by omega) gx gs q _ _ _ _ q16) ?_
            cases q18 : f_X9_checkRequest s15 (s.2.2.1 3 (Int32.toNatClampNeg 2)) with
            | none => rw [q18] at H; cases H
            | some s17 =>
             rw [q18] at H
             dsimp only at H
             refine pm_Wg.path (k := 3) (ds := []) (f' := (117, [some (.ref 64), some (.int a0), some (.int a1), some (.int a2), some (.int a3), some (.int (s.2.2.1 3 (Int32.toNatClampNeg 2)))], [.int (s.2.2.1 3 (Int32.toNatClampNeg 2)), .ref 64], mo_h gx s15 gs q)) tk_X9_request (by omega) rfl trivial ?_
             refine pm_Wg.callV (m' := 215) (ix := 298) (rr := 295) (pl := 1768) (b := 64) (As := [.int (s.2.2.1 3 (Int32.toNatClampNeg 2))]) (S := []) (by decide) rfl (pm_dec tk_X9_request rfl) rfl rfl (by decide) rfl rfl (by decide) (Nat.le_of_ble_eq_true rfl) rfl (e_X9_checkRequest d (by omega) gx gs q _ _ _ q18) ?_
             injection H with H
             injection H with H1 H2
             subst H1
             subst H2
             refine pm_Wg.path (k := 1) (ds := []) (f' := (122, [some (.ref 64), some (.int a0), some (.int a1), some (.int a2), some (.int a3), some (.int (s.2.2.1 3 (Int32.toNatClampNeg 2)))], [.int (s.2.2.1 3 (Int32.toNatClampNeg 2))], mo_h gx s17 gs q)) tk_X9_request (by omega) rfl trivial ?_
             exact pm_Wg.iret (pm_dec tk_X9_request rfl) rfl rfl
         · rw [if_neg h14] at H
           cases q20 : f_X9_diskFor s12 a1 with
           | none => rw [q20] at H; cases H
           | some r19 =>
            rw [q20] at H
            dsimp only at H
            refine pm_Wg.path (k := 6) (ds := [1]) (f' := (83, [some (.ref 64), some (.int a0), some (.int a1), some (.int a2), some (.int a3), some (.int (s.2.2.1 3 (Int32.toNatClampNeg 2)))], [.int a1, .ref 64, .int (s.2.2.1 3 (Int32.toNatClampNeg 2)), .ref 64], mo_h gx s12 gs q)) tk_X9_request (by omega) rfl ⟨h14, trivial⟩ ?_
            refine pm_Wg.callV (m' := 190) (ix := 212) (rr := 266) (pl := 1651) (b := 64) (As := [.int a1]) (S := [.int (s.2.2.1 3 (Int32.toNatClampNeg 2)), .ref 64]) (by decide) rfl (pm_dec tk_X9_request rfl) rfl rfl (by decide) rfl rfl (by decide) (Nat.le_of_ble_eq_true rfl) rfl (e_X9_diskFor d (by omega) gx gs q _ _ _ q20) ?_
            cases q22 : f_X9_stripeFor s12 a1 with
            | none => rw [q22] at H; cases H
            | some r21 =>
             rw [q22] at H
             dsimp only at H
             refine pm_Wg.path (k := 2) (ds := []) (f' := (88, [some (.ref 64), some (.int a0), some (.int a1), some (.int a2), some (.int a3), some (.int (s.2.2.1 3 (Int32.toNatClampNeg 2)))], [.int a1, .ref 64, .int r19, .int (s.2.2.1 3 (Int32.toNatClampNeg 2)), .ref 64], mo_h gx s12 gs q)) tk_X9_request (by omega) rfl trivial ?_
             refine pm_Wg.callV (m' := 188) (ix := 203) (rr := 264) (pl := 1643) (b := 64) (As := [.int a1]) (S := [.int r19, .int (s.2.2.1 3 (Int32.toNatClampNeg 2)), .ref 64]) (by decide) rfl (pm_dec tk_X9_request rfl) rfl rfl (by decide) rfl rfl (by decide) (Nat.le_of_ble_eq_true rfl) rfl (e_X9_stripeFor d (by omega) gx gs q _ _ _ q22) ?_
             cases q24 : f_X9_queueWrite s12 (s.2.2.1 3 (Int32.toNatClampNeg 2)) r19 r21 with
             | none => rw [q24] at H; cases H
             | some s23 =>
              rw [q24] at H
              dsimp only at H
              refine pm_Wg.callV (m' := 222) (ix := 295) (rr := 294) (pl := 1764) (b := 64) (As := [.int (s.2.2.1 3 (Int32.toNatClampNeg 2)), .int r19, .int r21]) (S := []) (by decide) rfl (pm_dec tk_X9_request rfl) rfl rfl (by decide) rfl rfl (by decide) (Nat.le_of_ble_eq_true rfl) rfl (e_X9_queueWrite d (by omega) gx gs q _ _ _ _ _ q24) ?_
              cases q26 : f_X9_stripeFor s23 a1 with
              | none => rw [q26] at H; cases H
              | some r25 =>
               rw [q26] at H
               dsimp only at H
               refine pm_Wg.path (k := 5) (ds := []) (f' := (100, [some (.ref 64), some (.int a0), some (.int a1), some (.int a2), some (.int a3), some (.int (s.2.2.1 3 (Int32.toNatClampNeg 2)))], [.int a1, .ref 64, .ref 64, .int (s.2.2.1 3 (Int32.toNatClampNeg 2)), .ref 64], mo_h gx s23 gs q)) tk_X9_request (by omega) rfl trivial ?_
               refine pm_Wg.callV (m' := 188) (ix := 203) (rr := 264) (pl := 1643) (b := 64) (As := [.int a1]) (S := [.ref 64, .int (s.2.2.1 3 (Int32.toNatClampNeg 2)), .ref 64]) (by decide) rfl (pm_dec tk_X9_request rfl) rfl rfl (by decide) rfl rfl (by decide) (Nat.le_of_ble_eq_true rfl) rfl (e_X9_stripeFor d (by omega) gx gs q _ _ _ q26) ?_
               cases q28 : f_X9_parityOf s23 r25 with
               | none => rw [q28] at H; cases H
               | some r27 =>
                rw [q28] at H
                dsimp only at H
                refine pm_Wg.callV (m' := 189) (ix := 206) (rr := 267) (pl := 1655) (b := 64) (As := [.int r25]) (S := [.int (s.2.2.1 3 (Int32.toNatClampNeg 2)), .ref 64]) (by decide) rfl (pm_dec tk_X9_request rfl) rfl rfl (by decide) rfl rfl (by decide) (Nat.le_of_ble_eq_true rfl) rfl (e_X9_parityOf d (by omega) gx gs q _ _ _ q28) ?_
                refine pm_Wg.path (k := 2) (ds := []) (f' := (108, [some (.ref 64), some (.int a0), some (.int a1), some (.int a2), some (.int a3), some (.int (s.2.2.1 3 (Int32.toNatClampNeg 2)))], [.int a1, .ref 64, .int r27, .int (s.2.2.1 3 (Int32.toNatClampNeg 2)), .ref 64], mo_h gx s23 gs q)) tk_X9_request (by omega) rfl trivial ?_
                refine pm_Wg.callV (m' := 188) (ix := 203) (rr := 264) (pl := 1643) (b := 64) (As := [.int a1]) (S := [.int r27, .int (s.2.2.1 3 (Int32.toNatClampNeg 2)), .ref 64]) (by decide) rfl (pm_dec tk_X9_request rfl) rfl rfl (by decide) rfl rfl (by decide) (Nat.le_of_ble_eq_true rfl) rfl (e_X9_stripeFor d (by omega) gx gs q _ _ _ q26) ?_
                cases q32 : f_X9_queueWrite s23 (s.2.2.1 3 (Int32.toNatClampNeg 2)) r27 r25 with
                | none => rw [q32] at H; cases H
                | some s31 =>
                 rw [q32] at H
                 dsimp only at H
                 refine pm_Wg.callV (m' := 222) (ix := 295) (rr := 294) (pl := 1764) (b := 64) (As := [.int (s.2.2.1 3 (Int32.toNatClampNeg 2)), .int r27, .int r25]) (S := []) (by decide) rfl (pm_dec tk_X9_request rfl) rfl rfl (by decide) rfl rfl (by decide) (Nat.le_of_ble_eq_true rfl) rfl (e_X9_queueWrite d (by omega) gx gs q _ _ _ _ _ q32) ?_
                 cases q34 : f_X9_checkRequest s31 (s.2.2.1 3 (Int32.toNatClampNeg 2)) with
                 | none => rw [q34] at H; cases H
                 | some s33 =>
                  rw [q34] at H
                  dsimp only at H
                  refine pm_Wg.path (k := 2) (ds := []) (f' := (117, [some (.ref 64), some (.int a0), some (.int a1), some (.int a2), some (.int a3), some (.int (s.2.2.1 3 (Int32.toNatClampNeg 2)))], [.int (s.2.2.1 3 (Int32.toNatClampNeg 2)), .ref 64], mo_h gx s31 gs q)) tk_X9_request (by omega) rfl trivial ?_
                  refine pm_Wg.callV (m' := 215) (ix := 298) (rr := 295) (pl := 1768) (b := 64) (As := [.int (s.2.2.1 3 (Int32.toNatClampNeg 2))]) (S := []) (by decide) rfl (pm_dec tk_X9_request rfl) rfl rfl (by decide) rfl rfl (by decide) (Nat.le_of_ble_eq_true rfl) rfl (e_X9_checkRequest d (by omega) gx gs q _ _ _ q34) ?_
                  injection H with H
                  injection H with H1 H2
                  subst H1
                  subst H2
                  refine pm_Wg.path (k := 1) (ds := []) (f' := (122, [some (.ref 64), some (.int a0), some (.int a1), some (.int a2), some (.int a3), some (.int (s.2.2.1 3 (Int32.toNatClampNeg 2)))], [.int (s.2.2.1 3 (Int32.toNatClampNeg 2))], mo_h gx s33 gs q)) tk_X9_request (by omega) rfl trivial ?_
                  exact pm_Wg.iret (pm_dec tk_X9_request rfl) rfl rfl

def f_X9_submit (s : mo_S) (a0 : Int32) (a1 : Int32) (a2 : Int32) (a3 : Int32) : Option (Int32 × mo_S) :=
  (match f_X9_isClient (mo_i s 2 0) a0 with
  | none => none
  | some r1 =>
   (if r1 = 0 then
    (match f_X9_refuse (mo_i s 2 0) 1 with
    | none => none
    | some (r4, s5) =>
     some (r4, s5))
   else
    (match f_X9_isUnit (mo_i s 2 0) a1 with
    | none => none
    | some r7 =>
     (if r7 = 0 then
      (match f_X9_refuse (mo_i s 2 0) 1 with
      | none => none
      | some (r15, s16) =>
       some (r15, s16))
     else
      (if a3 = (-1) then
       (match pm_inb 2 18186 with
       | false => none
       | true =>
       (if ((mo_i s 2 0).2.2.1 3 (Int32.toNatClampNeg 2)) = 400 then
        (match f_X9_refuse (mo_i s 2 0) 3 with
        | none => none
        | some (r18, s19) =>
         some (r18, s19))
       else
        (if a2 = 0 then
         (match f_X9_request (mo_i s 2 0) a0 a1 0 a3 with
         | none => none
         | some (r21, s22) =>
          some (r21, s22))
        else
         (match f_X9_request (mo_i s 2 0) a0 a1 1 a3 with
         | none => none
         | some (r24, s25) =>
          some (r24, s25)))))
      else
       (match pm_inb 0 18186 with
       | false => none
       | true =>
       (match f_X9_in (mo_i s 2 0) a3 ((mo_i s 2 0).2.2.1 3 (Int32.toNatClampNeg 0)) 99999 with
       | none => none
       | some r27 =>
        (if r27 = 0 then
         (match f_X9_refuse (mo_i s 2 0) 2 with
         | none => none
         | some (r33, s34) =>
          some (r33, s34))
        else
         (match pm_inb 2 18186 with
         | false => none
         | true =>
         (if ((mo_i s 2 0).2.2.1 3 (Int32.toNatClampNeg 2)) = 400 then
          (match f_X9_refuse (mo_i s 2 0) 3 with
          | none => none
          | some (r36, s37) =>
           some (r36, s37))
         else
          (if a2 = 0 then
           (match f_X9_request (mo_i s 2 0) a0 a1 0 a3 with
           | none => none
           | some (r39, s40) =>
            some (r39, s40))
          else
           (match f_X9_request (mo_i s 2 0) a0 a1 1 a3 with
           | none => none
           | some (r42, s43) =>
            some (r42, s43)))))))))))))
def tb_X9_submit : List pm_I := [(0, .aload_n 0, 0, 0), (1, .iconst 0, 2, 0), (2, .putfield 45, 161, 0), (5, .aload_n 0, 0, 0), (6, .iload_n 1, 0, 0), (7, .invokevirtual 301, 274, 0), (10, .ifCond .eq 11, 21, 0), (13, .aload_n 0, 0, 0), (14, .iload_n 2, 0, 0), (15, .invokevirtual 209, 263, 0), (18, .ifCond .ne 9, 27, 0), (21, .aload_n 0, 0, 0), (22, .iconst 1, 3, 0), (23, .invokevirtual 69, 227, 0), (26, .ireturn, 0, 0), (27, .iload 4, 0, 0), (29, .iconst (-1), 1, 0), (30, .if_icmp .eq 25, 55, 0), (33, .iload 4, 0, 0), (35, .aload_n 0, 0, 0), (36, .getfield 16, 162, 0), (39, .iconst 0, 2, 0), (40, .iaload, 0, 0), (41, .ldc 188, 7, 0), (43, .invokestatic 59, 233, 0), (46, .ifCond .ne 9, 55, 0), (49, .aload_n 0, 0, 0), (50, .iconst 2, 4, 0), (51, .invokevirtual 69, 227, 0), (54, .ireturn, 0, 0), (55, .aload_n 0, 0, 0), (56, .getfield 16, 162, 0), (59, .iconst 2, 4, 0), (60, .iaload, 0, 0), (61, .sipush 400, 33, 0), (64, .if_icmp .ne 9, 73, 0), (67, .aload_n 0, 0, 0), (68, .iconst 3, 5, 0), (69, .invokevirtual 69, 227, 0), (72, .ireturn, 0, 0), (73, .aload_n 0, 0, 0), (74, .iload_n 1, 0, 0), (75, .iload_n 2, 0, 0), (76, .iload_n 3, 0, 0), (77, .ifCond .eq 7, 84, 0), (80, .iconst 1, 3, 0), (81, .goto 4, 85, 0), (84, .iconst 0, 2, 0), (85, .iload 4, 0, 0), (87, .invokevirtual 304, 275, 0), (90, .ireturn, 0, 0)]
theorem tk_X9_submit : ∀ e ∈ tb_X9_submit, pm_ck 225 e = true := List.all_eq_true.mp (by decide +kernel)
set_option maxRecDepth 20000 in
set_option maxHeartbeats 20000000 in
theorem e_X9_submit (d : Nat) (hd : 9 ≤ d) (gx : List pm_E) (gs : List (List pm_E)) (q : Nat × Nat × Nat) (s : mo_S) (a0 : Int32) (a1 : Int32) (a2 : Int32) (a3 : Int32) (r : Int32) (s1 : mo_S) (H : f_X9_submit s a0 a1 a2 a3 = some (r, s1)) : pm_Mt 225 d [.ref 64, .int a0, .int a1, .int a2, .int a3] (mo_h gx s gs q) (.inl (some (.int r))) (mo_h gx s1 gs q) := by
  refine pm_Mt.of (by decide) (by decide +kernel) rfl rfl ?_
  obtain ⟨d, rfl⟩ : ∃ d', d = d' + 1 := ⟨d - 1, by omega⟩
  unfold f_X9_submit at H
  cases q2 : f_X9_isClient (mo_i s 2 0) a0 with
  | none => rw [q2] at H; cases H
  | some r1 =>
   rw [q2] at H
   dsimp only at H
   refine pm_Wg.path (k := 5) (ds := []) (f' := (7, [some (.ref 64), some (.int a0), some (.int a1), some (.int a2), some (.int a3)], [.int a0, .ref 64], mo_h gx (mo_i s 2 0) gs q)) tk_X9_submit (by omega) rfl trivial ?_
   refine pm_Wg.callV (m' := 224) (ix := 301) (rr := 274) (pl := 1683) (b := 64) (As := [.int a0]) (S := []) (by decide) rfl (pm_dec tk_X9_submit rfl) rfl rfl (by decide) rfl rfl (by decide) (Nat.le_of_ble_eq_true rfl) rfl (e_X9_isClient d (by omega) gx gs q _ _ _ q2) ?_
   by_cases h3 : r1 = 0
   · rw [if_pos h3] at H
     cases q6 : f_X9_refuse (mo_i s 2 0) 1 with
     | none => rw [q6] at H; cases H
     | some w =>
      obtain ⟨r4, s5⟩ := w
      rw [q6] at H
      dsimp only at H
      refine pm_Wg.path (k := 3) (ds := [1]) (f' := (23, [some (.ref 64), some (.int a0), some (.int a1), some (.int a2), some (.int a3)], [.int 1, .ref 64], mo_h gx (mo_i s 2 0) gs q)) tk_X9_submit (by omega) rfl ⟨h3, trivial⟩ ?_
      refine pm_Wg.callV (m' := 145) (ix := 69) (rr := 227) (pl := 1483) (b := 64) (As := [.int 1]) (S := []) (by decide) rfl (pm_dec tk_X9_submit rfl) rfl rfl (by decide) rfl rfl (by decide) (Nat.le_of_ble_eq_true rfl) rfl (e_X9_refuse d (by omega) gx gs q _ _ _ _ q6) ?_
      injection H with H
      injection H with H1 H2
      subst H1
      subst H2
      exact pm_Wg.iret (pm_dec tk_X9_submit rfl) rfl rfl
   · rw [if_neg h3] at H
     cases q8 : f_X9_isUnit (mo_i s 2 0) a1 with
     | none => rw [q8] at H; cases H
     | some r7 =>
      rw [q8] at H
      dsimp only at H
      refine pm_Wg.path (k := 3) (ds := [0]) (f' := (15, [some (.ref 64), some (.int a0), some (.int a1), some (.int a2), some (.int a3)], [.int a1, .ref 64], mo_h gx (mo_i s 2 0) gs q)) tk_X9_submit (by omega) rfl ⟨h3, trivial⟩ ?_
      refine pm_Wg.callV (m' := 155) (ix := 209) (rr := 263) (pl := 1639) (b := 64) (As := [.int a1]) (S := []) (by decide) rfl (pm_dec tk_X9_submit rfl) rfl rfl (by decide) rfl rfl (by decide) (Nat.le_of_ble_eq_true rfl) rfl (e_X9_isUnit d (by omega) gx gs q _ _ _ q8) ?_
      by_cases h9 : r7 = 0
      · rw [if_pos h9] at H
        cases q17 : f_X9_refuse (mo_i s 2 0) 1 with
        | none => rw [q17] at H; cases H
        | some w =>
         obtain ⟨r15, s16⟩ := w
         rw [q17] at H
         dsimp only at H
         refine pm_Wg.path (k := 3) (ds := [0]) (f' := (23, [some (.ref 64), some (.int a0), some (.int a1), some (.int a2), some (.int a3)], [.int 1, .ref 64], mo_h gx (mo_i s 2 0) gs q)) tk_X9_submit (by omega) rfl ⟨h9, trivial⟩ ?_
         refine pm_Wg.callV (m' := 145) (ix := 69) (rr := 227) (pl := 1483) (b := 64) (As := [.int 1]) (S := []) (by decide) rfl (pm_dec tk_X9_submit rfl) rfl rfl (by decide) rfl rfl (by decide) (Nat.le_of_ble_eq_true rfl) rfl (e_X9_refuse d (by omega) gx gs q _ _ _ _ q17) ?_
         injection H with H
         injection H with H1 H2
         subst H1
         subst H2
         exact pm_Wg.iret (pm_dec tk_X9_submit rfl) rfl rfl
      · rw [if_neg h9] at H
        by_cases h10 : a3 = (-1)
        · rw [if_pos h10] at H
          cases b11 : pm_inb 2 18186 with
          | false => rw [b11] at H; cases H
          | true =>
           rw [b11] at H
           dsimp only at H
           by_cases h12 : ((mo_i s 2 0).2.2.1 3 (Int32.toNatClampNeg 2)) = 400
           · rw [if_pos h12] at H
             cases q20 : f_X9_refuse (mo_i s 2 0) 3 with
             | none => rw [q20] at H; cases H
             | some w =>
              obtain ⟨r18, s19⟩ := w
              rw [q20] at H
              dsimp only at H
              refine pm_Wg.path (k := 12) (ds := [1, 1, 0]) (f' := (69, [some (.ref 64), some (.int a0), some (.int a1), some (.int a2), some (.int a3)], [.int 3, .ref 64], mo_h gx (mo_i s 2 0) gs q)) tk_X9_submit (by omega) rfl ⟨h12, pm_inb_vp b11, h10, h9, trivial⟩ ?_
              refine pm_Wg.callV (m' := 145) (ix := 69) (rr := 227) (pl := 1483) (b := 64) (As := [.int 3]) (S := []) (by decide) rfl (pm_dec tk_X9_submit rfl) rfl rfl (by decide) rfl rfl (by decide) (Nat.le_of_ble_eq_true rfl) rfl (e_X9_refuse d (by omega) gx gs q _ _ _ _ q20) ?_
              injection H with H
              injection H with H1 H2
              subst H1
              subst H2
              exact pm_Wg.iret (pm_dec tk_X9_submit rfl) rfl rfl
           · rw [if_neg h12] at H
             by_cases h13 : a2 = 0
             · rw [if_pos h13] at H
               cases q23 : f_X9_request (mo_i s 2 0) a0 a1 0 a3 with
               | none => rw [q23] at H; cases H
               | some w =>
                obtain ⟨r21, s22⟩ := w
                rw [q23] at H
                dsimp only at H
                refine pm_Wg.path (k := 17) (ds := [1, 1, 1, 1]) (f' := (87, [some (.ref 64), some (.int a0), some (.int a1), some (.int a2), some (.int a3)], [.int a3, .int 0, .int a1, .int a0, .ref 64], mo_h gx (mo_i s 2 0) gs q)) tk_X9_submit (by omega) rfl ⟨h13, h12, pm_inb_vp b11, h10, h9, trivial⟩ ?_
                refine pm_Wg.callV (m' := 223) (ix := 304) (rr := 275) (pl := 1687) (b := 64) (As := [.int a0, .int a1, .int 0, .int a3]) (S := []) (by decide) rfl (pm_dec tk_X9_submit rfl) rfl rfl (by decide) rfl rfl (by decide) (Nat.le_of_ble_eq_true rfl) rfl (e_X9_request d (by omega) gx gs q _ _ _ _ _ _ _ q23) ?_
                injection H with H
                injection H with H1 H2
                subst H1
                subst H2
                exact pm_Wg.iret (pm_dec tk_X9_submit rfl) rfl rfl
             · rw [if_neg h13] at H
               cases q26 : f_X9_request (mo_i s 2 0) a0 a1 1 a3 with
               | none => rw [q26] at H; cases H
               | some w =>
                obtain ⟨r24, s25⟩ := w
                rw [q26] at H
                dsimp only at H
                refine pm_Wg.path (k := 18) (ds := [1, 1, 1, 0]) (f' := (87, [some (.ref 64), some (.int a0), some (.int a1), some (.int a2), some (.int a3)], [.int a3, .int 1, .int a1, .int a0, .ref 64], mo_h gx (mo_i s 2 0) gs q)) tk_X9_submit (by omega) rfl ⟨h13, h12, pm_inb_vp b11, h10, h9, trivial⟩ ?_
                refine pm_Wg.callV (m' := 223) (ix := 304) (rr := 275) (pl := 1687) (b := 64) (As := [.int a0, .int a1, .int 1, .int a3]) (S := []) (by decide) rfl (pm_dec tk_X9_submit rfl) rfl rfl (by decide) rfl rfl (by decide) (Nat.le_of_ble_eq_true rfl) rfl (e_X9_request d (by omega) gx gs q _ _ _ _ _ _ _ q26) ?_
                injection H with H
                injection H with H1 H2
                subst H1
                subst H2
                exact pm_Wg.iret (pm_dec tk_X9_submit rfl) rfl rfl
        · rw [if_neg h10] at H
          cases b14 : pm_inb 0 18186 with
          | false => rw [b14] at H; cases H
          | true =>
           rw [b14] at H
           dsimp only at H
           cases q28 : f_X9_in (mo_i s 2 0) a3 ((mo_i s 2 0).2.2.1 3 (Int32.toNatClampNeg 0)) 99999 with
           | none => rw [q28] at H; cases H
           | some r27 =>
            rw [q28] at H
            dsimp only at H
            refine pm_Wg.path (k := 10) (ds := [1, 0]) (f' := (43, [some (.ref 64), some (.int a0), some (.int a1), some (.int a2), some (.int a3)], [.int 99999, .int ((mo_i s 2 0).2.2.1 3 (Int32.toNatClampNeg 0)), .int a3], mo_h gx (mo_i s 2 0) gs q)) tk_X9_submit (by omega) rfl ⟨pm_inb_vp b14, h10, h9, trivial⟩ ?_
            refine pm_Wg.callS (m' := 147) (ix := 59) (rr := 233) (pl := 1507) (As := [.int a3, .int ((mo_i s 2 0).2.2.1 3 (Int32.toNatClampNeg 0)), .int 99999]) (S := []) (by decide) rfl (pm_dec tk_X9_submit rfl) rfl rfl rfl (Nat.le_of_ble_eq_true rfl) rfl (e_X9_in d (by omega) gx gs q _ _ _ _ _ q28) ?_
            by_cases h29 : r27 = 0
            · rw [if_pos h29] at H
              cases q35 : f_X9_refuse (mo_i s 2 0) 2 with
              | none => rw [q35] at H; cases H
              | some w =>
               obtain ⟨r33, s34⟩ := w
               rw [q35] at H
               dsimp only at H
               refine pm_Wg.path (k := 3) (ds := [0]) (f' := (51, [some (.ref 64), some (.int a0), some (.int a1), some (.int a2), some (.int a3)], [.int 2, .ref 64], mo_h gx (mo_i s 2 0) gs q)) tk_X9_submit (by omega) rfl ⟨h29, trivial⟩ ?_
               refine pm_Wg.callV (m' := 145) (ix := 69) (rr := 227) (pl := 1483) (b := 64) (As := [.int 2]) (S := []) (by decide) rfl (pm_dec tk_X9_submit rfl) rfl rfl (by decide) rfl rfl (by decide) (Nat.le_of_ble_eq_true rfl) rfl (e_X9_refuse d (by omega) gx gs q _ _ _ _ q35) ?_
               injection H with H
               injection H with H1 H2
               subst H1
               subst H2
               exact pm_Wg.iret (pm_dec tk_X9_submit rfl) rfl rfl
            · rw [if_neg h29] at H
              cases b30 : pm_inb 2 18186 with
              | false => rw [b30] at H; cases H
              | true =>
               rw [b30] at H
               dsimp only at H
               by_cases h31 : ((mo_i s 2 0).2.2.1 3 (Int32.toNatClampNeg 2)) = 400
               · rw [if_pos h31] at H
                 cases q38 : f_X9_refuse (mo_i s 2 0) 3 with
                 | none => rw [q38] at H; cases H
                 | some w =>
                  obtain ⟨r36, s37⟩ := w
                  rw [q38] at H
                  dsimp only at H
                  refine pm_Wg.path (k := 9) (ds := [1, 0]) (f' := (69, [some (.ref 64), some (.int a0), some (.int a1), some (.int a2), some (.int a3)], [.int 3, .ref 64], mo_h gx (mo_i s 2 0) gs q)) tk_X9_submit (by omega) rfl ⟨h31, pm_inb_vp b30, h29, trivial⟩ ?_
                  refine pm_Wg.callV (m' := 145) (ix := 69) (rr := 227) (pl := 1483) (b := 64) (As := [.int 3]) (S := []) (by decide) rfl (pm_dec tk_X9_submit rfl) rfl rfl (by decide) rfl rfl (by decide) (Nat.le_of_ble_eq_true rfl) rfl (e_X9_refuse d (by omega) gx gs q _ _ _ _ q38) ?_
                  injection H with H
                  injection H with H1 H2
                  subst H1
                  subst H2
                  exact pm_Wg.iret (pm_dec tk_X9_submit rfl) rfl rfl
               · rw [if_neg h31] at H
                 by_cases h32 : a2 = 0
                 · rw [if_pos h32] at H
                   cases q41 : f_X9_request (mo_i s 2 0) a0 a1 0 a3 with
                   | none => rw [q41] at H; cases H
                   | some w =>
                    obtain ⟨r39, s40⟩ := w
                    rw [q41] at H
                    dsimp only at H
                    refine pm_Wg.path (k := 14) (ds := [1, 1, 1]) (f' := (87, [some (.ref 64), some (.int a0), some (.int a1), some (.int a2), some (.int a3)], [.int a3, .int 0, .int a1, .int a0, .ref 64], mo_h gx (mo_i s 2 0) gs q)) tk_X9_submit (by omega) rfl ⟨h32, h31, pm_inb_vp b30, h29, trivial⟩ ?_
                    refine pm_Wg.callV (m' := 223) (ix := 304) (rr := 275) (pl := 1687) (b := 64) (As := [.int a0, .int a1, .int 0, .int a3]) (S := []) (by decide) rfl (pm_dec tk_X9_submit rfl) rfl rfl (by decide) rfl rfl (by decide) (Nat.le_of_ble_eq_true rfl) rfl (e_X9_request d (by omega) gx gs q _ _ _ _ _ _ _ q41) ?_
                    injection H with H
                    injection H with H1 H2
                    subst H1
                    subst H2
                    exact pm_Wg.iret (pm_dec tk_X9_submit rfl) rfl rfl
                 · rw [if_neg h32] at H
                   cases q44 : f_X9_request (mo_i s 2 0) a0 a1 1 a3 with
                   | none => rw [q44] at H; cases H
                   | some w =>
                    obtain ⟨r42, s43⟩ := w
                    rw [q44] at H
                    dsimp only at H
                    refine pm_Wg.path (k := 15) (ds := [1, 1, 0]) (f' := (87, [some (.ref 64), some (.int a0), some (.int a1), some (.int a2), some (.int a3)], [.int a3, .int 1, .int a1, .int a0, .ref 64], mo_h gx (mo_i s 2 0) gs q)) tk_X9_submit (by omega) rfl ⟨h32, h31, pm_inb_vp b30, h29, trivial⟩ ?_
                    refine pm_Wg.callV (m' := 223) (ix := 304) (rr := 275) (pl := 1687) (b := 64) (As := [.int a0, .int a1, .int 1, .int a3]) (S := []) (by decide) rfl (pm_dec tk_X9_submit rfl) rfl rfl (by decide) rfl rfl (by decide) (Nat.le_of_ble_eq_true rfl) rfl (e_X9_request d (by omega) gx gs q _ _ _ _ _ _ _ q44) ?_
                    injection H with H
                    injection H with H1 H2
                    subst H1
                    subst H2
                    exact pm_Wg.iret (pm_dec tk_X9_submit rfl) rfl rfl

def f_X9_checkCollected (s : mo_S) (a0 : Int32) : Option mo_S :=
  (match f_X9_areAllHeld s a0 with
  | none => none
  | some r1 =>
   (if r1 = 0 then
    some s
   else
    (match pm_inb (680 + a0) 18186 with
    | false => none
    | true =>
    (match f_X9_disks (mo_a s 3 (680 + a0) 2) with
    | none => none
    | some r5 =>
     (match f_X9_deadlineOf (mo_a s 3 (680 + a0) 2) a0 with
     | none => none
     | some r7 =>
      (match f_X9_queue (mo_a s 3 (680 + a0) 2) r5 0 1 a0 r7 (-1) with
      | none => none
      | some s9 =>
       some s9))))))
def tb_X9_checkCollected : List pm_I := [(0, .aload_n 0, 0, 0), (1, .iload_n 1, 0, 0), (2, .invokevirtual 308, 309, 0), (5, .ifCond .eq 31, 36, 0), (8, .aload_n 0, 0, 0), (9, .getfield 16, 162, 0), (12, .sipush 680, 36, 0), (15, .iload_n 1, 0, 0), (16, .iadd, 0, 0), (17, .iconst 2, 4, 0), (18, .iastore, 0, 0), (19, .aload_n 0, 0, 0), (20, .aload_n 0, 0, 0), (21, .invokevirtual 55, 258, 0), (24, .iconst 0, 2, 0), (25, .iconst 1, 3, 0), (26, .iload_n 1, 0, 0), (27, .aload_n 0, 0, 0), (28, .iload_n 1, 0, 0), (29, .invokevirtual 311, 307, 0), (32, .iconst (-1), 1, 0), (33, .invokevirtual 282, 283, 0), (36, .return_, 0, 0)]
theorem tk_X9_checkCollected : ∀ e ∈ tb_X9_checkCollected, pm_ck 228 e = true := List.all_eq_true.mp (by decide +kernel)
set_option maxRecDepth 20000 in
set_option maxHeartbeats 20000000 in
theorem e_X9_checkCollected (d : Nat) (hd : 6 ≤ d) (gx : List pm_E) (gs : List (List pm_E)) (q : Nat × Nat × Nat) (s : mo_S) (a0 : Int32) (s1 : mo_S) (H : f_X9_checkCollected s a0 = some s1) : pm_Mt 228 d [.ref 64, .int a0] (mo_h gx s gs q) (.inl (none)) (mo_h gx s1 gs q) := by
  refine pm_Mt.of (by decide) (by decide +kernel) rfl rfl ?_
  obtain ⟨d, rfl⟩ : ∃ d', d = d' + 1 := ⟨d - 1, by omega⟩
  unfold f_X9_checkCollected at H
  cases q2 : f_X9_areAllHeld s a0 with
  | none => rw [q2] at H; cases H
  | some r1 =>
   rw [q2] at H
   dsimp only at H
   refine pm_Wg.path (k := 2) (ds := []) (f' := (2, [some (.ref 64), some (.int a0)], [.int a0, .ref 64], mo_h gx s gs q)) tk_X9_checkCollected (by omega) rfl trivial ?_
   refine pm_Wg.callV (m' := 227) (ix := 308) (rr := 309) (pl := 1824) (b := 64) (As := [.int a0]) (S := []) (by decide) rfl (pm_dec tk_X9_checkCollected rfl) rfl rfl (by decide) rfl rfl (by decide) (Nat.le_of_ble_eq_true rfl) rfl (e_X9_areAllHeld d (by omega) gx gs q _ _ _ q2) ?_
   by_cases h3 : r1 = 0
   · rw [if_pos h3] at H
     injection H with H
     subst H
     refine pm_Wg.path (k := 1) (ds := [1]) (f' := (36, [some (.ref 64), some (.int a0)], [], mo_h gx s gs q)) tk_X9_checkCollected (by omega) rfl ⟨h3, trivial⟩ ?_
     exact pm_Wg.vret (pm_dec tk_X9_checkCollected rfl) rfl
   · rw [if_neg h3] at H
     cases b4 : pm_inb (680 + a0) 18186 with
     | false => rw [b4] at H; cases H
     | true =>
      rw [b4] at H
      dsimp only at H
      cases q6 : f_X9_disks (mo_a s 3 (680 + a0) 2) with
      | none => rw [q6] at H; cases H
      | some r5 =>
       rw [q6] at H
       dsimp only at H
       refine pm_Wg.path (k := 10) (ds := [0]) (f' := (21, [some (.ref 64), some (.int a0)], [.ref 64, .ref 64], mo_h gx (mo_a s 3 (680 + a0) 2) gs q)) tk_X9_checkCollected (by omega) rfl ⟨pm_inb_vp b4, h3, trivial⟩ ?_
       refine pm_Wg.callV (m' := 150) (ix := 55) (rr := 258) (pl := 1618) (b := 64) (As := []) (S := [.ref 64]) (by decide) rfl (pm_dec tk_X9_checkCollected rfl) rfl rfl (by decide) rfl rfl (by decide) (Nat.le_of_ble_eq_true rfl) rfl (e_X9_disks d (by omega) gx gs q _ _ q6) ?_
       cases q8 : f_X9_deadlineOf (mo_a s 3 (680 + a0) 2) a0 with
       | none => rw [q8] at H; cases H
       | some r7 =>
        rw [q8] at H
        dsimp only at H
        refine pm_Wg.path (k := 5) (ds := []) (f' := (29, [some (.ref 64), some (.int a0)], [.int a0, .ref 64, .int a0, .int 1, .int 0, .int r5, .ref 64], mo_h gx (mo_a s 3 (680 + a0) 2) gs q)) tk_X9_checkCollected (by omega) rfl trivial ?_
        refine pm_Wg.callV (m' := 226) (ix := 311) (rr := 307) (pl := 1816) (b := 64) (As := [.int a0]) (S := [.int a0, .int 1, .int 0, .int r5, .ref 64]) (by decide) rfl (pm_dec tk_X9_checkCollected rfl) rfl rfl (by decide) rfl rfl (by decide) (Nat.le_of_ble_eq_true rfl) rfl (e_X9_deadlineOf d (by omega) gx gs q _ _ _ q8) ?_
        cases q10 : f_X9_queue (mo_a s 3 (680 + a0) 2) r5 0 1 a0 r7 (-1) with
        | none => rw [q10] at H; cases H
        | some s9 =>
         rw [q10] at H
         dsimp only at H
         refine pm_Wg.path (k := 1) (ds := []) (f' := (33, [some (.ref 64), some (.int a0)], [.int (-1), .int r7, .int a0, .int 1, .int 0, .int r5, .ref 64], mo_h gx (mo_a s 3 (680 + a0) 2) gs q)) tk_X9_checkCollected (by omega) rfl trivial ?_
         refine pm_Wg.callV (m' := 207) (ix := 282) (rr := 283) (pl := 1719) (b := 64) (As := [.int r5, .int 0, .int 1, .int a0, .int r7, .int (-1)]) (S := []) (by decide) rfl (pm_dec tk_X9_checkCollected rfl) rfl rfl (by decide) rfl rfl (by decide) (Nat.le_of_ble_eq_true rfl) rfl (e_X9_queue d (by omega) gx gs q _ _ _ _ _ _ _ _ q10) ?_
         injection H with H
         subst H
         exact pm_Wg.vret (pm_dec tk_X9_checkCollected rfl) rfl

def lb_X9_startStripe_13 (x : mo_S × Int32 × Int32) : Option ((mo_S × Int32 × Int32) ⊕ (mo_S)) := match x with
  | (s, l1, l2) =>
   (match f_X9_disks s with
   | none => none
   | some r2 =>
    (if r2 ≤ l2 then
     (match f_X9_checkCollected s l1 with
     | none => none
     | some s5 =>
      some (.inr s5))
    else
     (match f_X9_isSurviving s l2 with
     | none => none
     | some r7 =>
      (if r7 = 0 then
       some (.inl (s, l1, (l2 + 1)))
      else
       (match f_X9_isHeldOn s l2 l1 with
       | none => none
       | some r10 =>
        (if r10 = 0 then
         (match f_X9_queueRebuildRead s l2 l1 with
         | none => none
         | some s13 =>
          some (.inl (s13, l1, (l2 + 1))))
        else
         some (.inl (s, l1, (l2 + 1)))))))))
def f_X9_startStripe (s : mo_S) (a0 : Int32) : Option mo_S :=
  (match pm_inb (680 + a0) 18186 with
  | false => none
  | true =>
  (pm_loop pm_fu lb_X9_startStripe_13 ((mo_a s 3 (680 + a0) 1), a0, 0)))
def tb_X9_startStripe : List pm_I := [(0, .aload_n 0, 0, 0), (1, .getfield 16, 162, 0), (4, .sipush 680, 36, 0), (7, .iload_n 1, 0, 0), (8, .iadd, 0, 0), (9, .iconst 1, 3, 0), (10, .iastore, 0, 0), (11, .iconst 0, 2, 0), (12, .istore_n 2, 0, 0), (13, .iload_n 2, 0, 0), (14, .aload_n 0, 0, 0), (15, .invokevirtual 55, 258, 0), (18, .if_icmp .ge 32, 50, 0), (21, .aload_n 0, 0, 0), (22, .iload_n 2, 0, 0), (23, .invokevirtual 276, 280, 0), (26, .ifCond .eq 18, 44, 0), (29, .aload_n 0, 0, 0), (30, .iload_n 2, 0, 0), (31, .iload_n 1, 0, 0), (32, .invokevirtual 279, 281, 0), (35, .ifCond .ne 9, 44, 0), (38, .aload_n 0, 0, 0), (39, .iload_n 2, 0, 0), (40, .iload_n 1, 0, 0), (41, .invokevirtual 314, 306, 0), (44, .iinc 2 1, 3, 0), (47, .goto (-34), 13, 0), (50, .aload_n 0, 0, 0), (51, .iload_n 1, 0, 0), (52, .invokevirtual 317, 308, 0), (55, .return_, 0, 0)]
theorem tk_X9_startStripe : ∀ e ∈ tb_X9_startStripe, pm_ck 231 e = true := List.all_eq_true.mp (by decide +kernel)
set_option maxRecDepth 20000 in
set_option maxHeartbeats 40000000 in
theorem ll_X9_startStripe_13 (d : Nat) (hd : 7 ≤ d) (gx : List pm_E) (gs : List (List pm_E)) (q : Nat × Nat × Nat) (s1 : mo_S) (P : mo_S → Prop) (K0 : ∀ e : mo_S, P (e) → e = s1) : ∀ (n : Nat) (s : mo_S) (l1 : Int32) (l2 : Int32) (e : mo_S), pm_loop n lb_X9_startStripe_13 (s, l1, l2) = some e → P e → pm_Wg 231 d (.inl (none)) (mo_h gx s1 gs q) (13, [some (.ref 64), some (.int l1), some (.int l2)], [], mo_h gx s gs q) := by
  intro n
  induction n with
  | zero => intro s l1 l2 e H; cases H
  | succ n ih =>
    intro s l1 l2 e H hPe
    obtain ⟨d, rfl⟩ : ∃ d', d = d' + 1 := ⟨d - 1, by omega⟩
    have H : pm_lst (pm_loop n lb_X9_startStripe_13) (lb_X9_startStripe_13 (s, l1, l2)) = some e := H
    generalize pm_loop n lb_X9_startStripe_13 = LB at H ih
    unfold lb_X9_startStripe_13 at H
    try dsimp only at H
    cases q3 : f_X9_disks s with
    | none => rw [q3] at H; cases H
    | some r2 =>
     rw [q3] at H
     dsimp only at H
     refine pm_Wg.path (k := 2) (ds := []) (f' := (15, [some (.ref 64), some (.int l1), some (.int l2)], [.ref 64, .int l2], mo_h gx s gs q)) tk_X9_startStripe (by omega) rfl trivial ?_
     refine pm_Wg.callV (m' := 150) (ix := 55) (rr := 258) (pl := 1618) (b := 64) (As := []) (S := [.int l2]) (by decide) rfl (pm_dec tk_X9_startStripe rfl) rfl rfl (by decide) rfl rfl (by decide) (Nat.le_of_ble_eq_true rfl) rfl (e_X9_disks d (by omega) gx gs q _ _ q3) ?_
     by_cases h4 : r2 ≤ l2
     · rw [if_pos h4] at H
       cases q6 : f_X9_checkCollected s l1 with
       | none => rw [q6] at H; cases H
       | some s5 =>
        rw [q6] at H
        dsimp only at H
        refine pm_Wg.path (k := 3) (ds := [1]) (f' := (52, [some (.ref 64), some (.int l1), some (.int l2)], [.int l1, .ref 64], mo_h gx s gs q)) tk_X9_startStripe (by omega) rfl ⟨h4, trivial⟩ ?_
        refine pm_Wg.callV (m' := 228) (ix := 317) (rr := 308) (pl := 1820) (b := 64) (As := [.int l1]) (S := []) (by decide) rfl (pm_dec tk_X9_startStripe rfl) rfl rfl (by decide) rfl rfl (by decide) (Nat.le_of_ble_eq_true rfl) rfl (e_X9_checkCollected d (by omega) gx gs q _ _ _ q6) ?_
        have He := Option.some.inj H
        subst He
        have H := K0 _ hPe
        subst H
        exact pm_Wg.vret (pm_dec tk_X9_startStripe rfl) rfl
     · rw [if_neg h4] at H
       cases q8 : f_X9_isSurviving s l2 with
       | none => rw [q8] at H; cases H
       | some r7 =>
        rw [q8] at H
        dsimp only at H
        refine pm_Wg.path (k := 3) (ds := [0]) (f' := (23, [some (.ref 64), some (.int l1), some (.int l2)], [.int l2, .ref 64], mo_h gx s gs q)) tk_X9_startStripe (by omega) rfl ⟨h4, trivial⟩ ?_
        refine pm_Wg.callV (m' := 216) (ix := 276) (rr := 280) (pl := 1707) (b := 64) (As := [.int l2]) (S := []) (by decide) rfl (pm_dec tk_X9_startStripe rfl) rfl rfl (by decide) rfl rfl (by decide) (Nat.le_of_ble_eq_true rfl) rfl (e_X9_isSurviving d (by omega) gx gs q _ _ _ q8) ?_
        by_cases h9 : r7 = 0
        · rw [if_pos h9] at H
          refine pm_Wg.path (k := 3) (ds := [1]) (f' := (13, [some (.ref 64), some (.int l1), some (.int (l2 + 1))], [], mo_h gx s gs q)) tk_X9_startStripe (by omega) rfl ⟨h9, trivial⟩ ?_
          exact ih _ _ _ e H hPe
        · rw [if_neg h9] at H
          cases q11 : f_X9_isHeldOn s l2 l1 with
          | none => rw [q11] at H; cases H
          | some r10 =>
           rw [q11] at H
           dsimp only at H
           refine pm_Wg.path (k := 4) (ds := [0]) (f' := (32, [some (.ref 64), some (.int l1), some (.int l2)], [.int l1, .int l2, .ref 64], mo_h gx s gs q)) tk_X9_startStripe (by omega) rfl ⟨h9, trivial⟩ ?_
           refine pm_Wg.callV (m' := 217) (ix := 279) (rr := 281) (pl := 1711) (b := 64) (As := [.int l2, .int l1]) (S := []) (by decide) rfl (pm_dec tk_X9_startStripe rfl) rfl rfl (by decide) rfl rfl (by decide) (Nat.le_of_ble_eq_true rfl) rfl (e_X9_isHeldOn d (by omega) gx gs q _ _ _ _ q11) ?_
           by_cases h12 : r10 = 0
           · rw [if_pos h12] at H
             cases q14 : f_X9_queueRebuildRead s l2 l1 with
             | none => rw [q14] at H; cases H
             | some s13 =>
              rw [q14] at H
              dsimp only at H
              refine pm_Wg.path (k := 4) (ds := [0]) (f' := (41, [some (.ref 64), some (.int l1), some (.int l2)], [.int l1, .int l2, .ref 64], mo_h gx s gs q)) tk_X9_startStripe (by omega) rfl ⟨h12, trivial⟩ ?_
              refine pm_Wg.callV (m' := 229) (ix := 314) (rr := 306) (pl := 1812) (b := 64) (As := [.int l2, .int l1]) (S := []) (by decide) rfl (pm_dec tk_X9_startStripe rfl) rfl rfl (by decide) rfl rfl (by decide) (Nat.le_of_ble_eq_true rfl) rfl (e_X9_queueRebuildRead d (by omega) gx gs q _ _ _ _ q14) ?_
              refine pm_Wg.path (k := 2) (ds := []) (f' := (13, [some (.ref 64), some (.int l1), some (.int (l2 + 1))], [], mo_h gx s13 gs q)) tk_X9_startStripe (by omega) rfl trivial ?_
              exact ih _ _ _ e H hPe
           · rw [if_neg h12] at H
             refine pm_Wg.path (k := 3) (ds := [1]) (f' := (13, [some (.ref 64), some (.int l1), some (.int (l2 + 1))], [], mo_h gx s gs q)) tk_X9_startStripe (by omega) rfl ⟨h12, trivial⟩ ?_
             exact ih _ _ _ e H hPe
set_option maxRecDepth 20000 in
set_option maxHeartbeats 20000000 in
theorem e_X9_startStripe (d : Nat) (hd : 7 ≤ d) (gx : List pm_E) (gs : List (List pm_E)) (q : Nat × Nat × Nat) (s : mo_S) (a0 : Int32) (s1 : mo_S) (H : f_X9_startStripe s a0 = some s1) : pm_Mt 231 d [.ref 64, .int a0] (mo_h gx s gs q) (.inl (none)) (mo_h gx s1 gs q) := by
  refine pm_Mt.of (by decide) (by decide +kernel) rfl rfl ?_
  obtain ⟨d, rfl⟩ : ∃ d', d = d' + 1 := ⟨d - 1, by omega⟩
  unfold f_X9_startStripe at H
  cases b1 : pm_inb (680 + a0) 18186 with
  | false => rw [b1] at H; cases H
  | true =>
   rw [b1] at H
   dsimp only at H
   refine pm_Wg.path (k := 9) (ds := []) (f' := (13, [some (.ref 64), some (.int a0), some (.int 0)], [], mo_h gx (mo_a s 3 (680 + a0) 1) gs q)) tk_X9_startStripe (by omega) rfl ⟨pm_inb_vp b1, trivial⟩ ?_
   exact ll_X9_startStripe_13 (d + 1) (by omega) gx gs q s1 (fun e => e = s1) (fun e he => he) pm_fu _ _ _ _ H rfl

def lb_X9_startStripes_7 (x : mo_S × Int32 × Int32) : Option ((mo_S × Int32 × Int32) ⊕ (mo_S)) := match x with
  | (s, l1, l2) =>
   (match pm_inb 1 26 with
   | false => none
   | true =>
   (if (s.2.2.1 0 (Int32.toNatClampNeg 1)) ≤ l2 then
    some (.inr s)
   else
    (match pm_inb 4 26 with
    | false => none
    | true =>
    (if (s.2.2.1 0 (Int32.toNatClampNeg 4)) ≤ l1 then
     some (.inr s)
    else
     (match f_X9_stateOf s l2 with
     | none => none
     | some r7 =>
      (if r7 = 0 then
       (match f_X9_startStripe s l2 with
       | none => none
       | some s10 =>
        some (.inl (s10, (l1 + 1), (l2 + 1))))
      else
       some (.inl (s, l1, (l2 + 1)))))))))
def f_X9_startStripes (s : mo_S) : Option mo_S :=
  (match f_X9_underway s with
  | none => none
  | some r1 =>
   (pm_loop pm_fu lb_X9_startStripes_7 (s, r1, 0)))
def tb_X9_startStripes : List pm_I := [(0, .aload_n 0, 0, 0), (1, .invokevirtual 320, 304, 0), (4, .istore_n 1, 0, 0), (5, .iconst 0, 2, 0), (6, .istore_n 2, 0, 0), (7, .iload_n 2, 0, 0), (8, .aload_n 0, 0, 0), (9, .getfield 7, 159, 0), (12, .iconst 1, 3, 0), (13, .iaload, 0, 0), (14, .if_icmp .ge 36, 50, 0), (17, .iload_n 1, 0, 0), (18, .aload_n 0, 0, 0), (19, .getfield 7, 159, 0), (22, .iconst 4, 6, 0), (23, .iaload, 0, 0), (24, .if_icmp .ge 26, 50, 0), (27, .aload_n 0, 0, 0), (28, .iload_n 2, 0, 0), (29, .invokevirtual 286, 278, 0), (32, .ifCond .ne 12, 44, 0), (35, .aload_n 0, 0, 0), (36, .iload_n 2, 0, 0), (37, .invokevirtual 323, 305, 0), (40, .iload_n 1, 0, 0), (41, .iconst 1, 3, 0), (42, .iadd, 0, 0), (43, .istore_n 1, 0, 0), (44, .iinc 2 1, 3, 0), (47, .goto (-40), 7, 0), (50, .return_, 0, 0)]
theorem tk_X9_startStripes : ∀ e ∈ tb_X9_startStripes, pm_ck 232 e = true := List.all_eq_true.mp (by decide +kernel)
set_option maxRecDepth 20000 in
set_option maxHeartbeats 40000000 in
theorem ll_X9_startStripes_7 (d : Nat) (hd : 8 ≤ d) (gx : List pm_E) (gs : List (List pm_E)) (q : Nat × Nat × Nat) (s1 : mo_S) (P : mo_S → Prop) (K0 : ∀ e : mo_S, P (e) → e = s1) : ∀ (n : Nat) (s : mo_S) (l1 : Int32) (l2 : Int32) (e : mo_S), pm_loop n lb_X9_startStripes_7 (s, l1, l2) = some e → P e → pm_Wg 232 d (.inl (none)) (mo_h gx s1 gs q) (7, [some (.ref 64), some (.int l1), some (.int l2)], [], mo_h gx s gs q) := by
  intro n
  induction n with
  | zero => intro s l1 l2 e H; cases H
  | succ n ih =>
    intro s l1 l2 e H hPe
    obtain ⟨d, rfl⟩ : ∃ d', d = d' + 1 := ⟨d - 1, by omega⟩
    have H : pm_lst (pm_loop n lb_X9_startStripes_7) (lb_X9_startStripes_7 (s, l1, l2)) = some e := H
    generalize pm_loop n lb_X9_startStripes_7 = LB at H ih
    unfold lb_X9_startStripes_7 at H
    try dsimp only at H
    cases b3 : pm_inb 1 26 with
    | false => rw [b3] at H; cases H
    | true =>
     rw [b3] at H
     dsimp only at H
     by_cases h4 : (s.2.2.1 0 (Int32.toNatClampNeg 1)) ≤ l2
     · rw [if_pos h4] at H
       have He := Option.some.inj H
       subst He
       have H := K0 _ hPe
       subst H
       refine pm_Wg.path (k := 6) (ds := [1]) (f' := (50, [some (.ref 64), some (.int l1), some (.int l2)], [], mo_h gx s gs q)) tk_X9_startStripes (by omega) rfl ⟨h4, pm_inb_vp b3, trivial⟩ ?_
       exact pm_Wg.vret (pm_dec tk_X9_startStripes rfl) rfl
     · rw [if_neg h4] at H
       cases b5 : pm_inb 4 26 with
       | false => rw [b5] at H; cases H
       | true =>
        rw [b5] at H
        dsimp only at H
        by_cases h6 : (s.2.2.1 0 (Int32.toNatClampNeg 4)) ≤ l1
        · rw [if_pos h6] at H
          have He := Option.some.inj H
          subst He
          have H := K0 _ hPe
          subst H
          refine pm_Wg.path (k := 12) (ds := [0, 1]) (f' := (50, [some (.ref 64), some (.int l1), some (.int l2)], [], mo_h gx s gs q)) tk_X9_startStripes (by omega) rfl ⟨h6, pm_inb_vp b5, h4, pm_inb_vp b3, trivial⟩ ?_
          exact pm_Wg.vret (pm_dec tk_X9_startStripes rfl) rfl
        · rw [if_neg h6] at H
          cases q8 : f_X9_stateOf s l2 with
          | none => rw [q8] at H; cases H
          | some r7 =>
           rw [q8] at H
           dsimp only at H
           refine pm_Wg.path (k := 14) (ds := [0, 0]) (f' := (29, [some (.ref 64), some (.int l1), some (.int l2)], [.int l2, .ref 64], mo_h gx s gs q)) tk_X9_startStripes (by omega) rfl ⟨h6, pm_inb_vp b5, h4, pm_inb_vp b3, trivial⟩ ?_
           refine pm_Wg.callV (m' := 219) (ix := 286) (rr := 278) (pl := 1699) (b := 64) (As := [.int l2]) (S := []) (by decide) rfl (pm_dec tk_X9_startStripes rfl) rfl rfl (by decide) rfl rfl (by decide) (Nat.le_of_ble_eq_true rfl) rfl (e_X9_stateOf d (by omega) gx gs q _ _ _ q8) ?_
           by_cases h9 : r7 = 0
           · rw [if_pos h9] at H
             cases q11 : f_X9_startStripe s l2 with
             | none => rw [q11] at H; cases H
             | some s10 =>
              rw [q11] at H
              dsimp only at H
              refine pm_Wg.path (k := 3) (ds := [0]) (f' := (37, [some (.ref 64), some (.int l1), some (.int l2)], [.int l2, .ref 64], mo_h gx s gs q)) tk_X9_startStripes (by omega) rfl ⟨h9, trivial⟩ ?_
              refine pm_Wg.callV (m' := 231) (ix := 323) (rr := 305) (pl := 1808) (b := 64) (As := [.int l2]) (S := []) (by decide) rfl (pm_dec tk_X9_startStripes rfl) rfl rfl (by decide) rfl rfl (by decide) (Nat.le_of_ble_eq_true rfl) rfl (e_X9_startStripe d (by omega) gx gs q _ _ _ q11) ?_
              refine pm_Wg.path (k := 6) (ds := []) (f' := (7, [some (.ref 64), some (.int (l1 + 1)), some (.int (l2 + 1))], [], mo_h gx s10 gs q)) tk_X9_startStripes (by omega) rfl trivial ?_
              exact ih _ _ _ e H hPe
           · rw [if_neg h9] at H
             refine pm_Wg.path (k := 3) (ds := [1]) (f' := (7, [some (.ref 64), some (.int l1), some (.int (l2 + 1))], [], mo_h gx s gs q)) tk_X9_startStripes (by omega) rfl ⟨h9, trivial⟩ ?_
             exact ih _ _ _ e H hPe
set_option maxRecDepth 20000 in
set_option maxHeartbeats 20000000 in
theorem e_X9_startStripes (d : Nat) (hd : 8 ≤ d) (gx : List pm_E) (gs : List (List pm_E)) (q : Nat × Nat × Nat) (s : mo_S) (s1 : mo_S) (H : f_X9_startStripes s = some s1) : pm_Mt 232 d [.ref 64] (mo_h gx s gs q) (.inl (none)) (mo_h gx s1 gs q) := by
  refine pm_Mt.of (by decide) (by decide +kernel) rfl rfl ?_
  obtain ⟨d, rfl⟩ : ∃ d', d = d' + 1 := ⟨d - 1, by omega⟩
  unfold f_X9_startStripes at H
  cases q2 : f_X9_underway s with
  | none => rw [q2] at H; cases H
  | some r1 =>
   rw [q2] at H
   dsimp only at H
   refine pm_Wg.path (k := 1) (ds := []) (f' := (1, [some (.ref 64), none, none], [.ref 64], mo_h gx s gs q)) tk_X9_startStripes (by omega) rfl trivial ?_
   refine pm_Wg.callV (m' := 230) (ix := 320) (rr := 304) (pl := 1804) (b := 64) (As := []) (S := []) (by decide) rfl (pm_dec tk_X9_startStripes rfl) rfl rfl (by decide) rfl rfl (by decide) (Nat.le_of_ble_eq_true rfl) rfl (e_X9_underway d (by omega) gx gs q _ _ q2) ?_
   refine pm_Wg.path (k := 3) (ds := []) (f' := (7, [some (.ref 64), some (.int r1), some (.int 0)], [], mo_h gx s gs q)) tk_X9_startStripes (by omega) rfl trivial ?_
   exact ll_X9_startStripes_7 (d + 1) (by omega) gx gs q s1 (fun e => e = s1) (fun e he => he) pm_fu _ _ _ _ H rfl

def f_X9_readFinished (s : mo_S) (a0 : Int32) (a1 : Int32) (a2 : Int32) : Option mo_S :=
  (match pm_inb 1 18186 with
  | false => none
  | true =>
  (if (s.2.2.1 3 (Int32.toNatClampNeg 1)) = (-1) then
   some s
  else
   (match f_X9_isSurviving s a0 with
   | none => none
   | some r3 =>
    (if r3 = 0 then
     some s
    else
     (match f_X9_isHeldOn s a0 a1 with
     | none => none
     | some r6 =>
      (if r6 = 0 then
       (match f_X9_stateOf s a1 with
       | none => none
       | some r9 =>
        (if r9 = 1 then
         (match f_X9_setHeld s a0 a1 1 with
         | none => none
         | some s12 =>
          (if a2 = 0 then
           (match f_X9_checkCollected s12 a1 with
           | none => none
           | some s15 =>
            some s15)
          else
           (match f_X9_saveRead s12 a0 a1 with
           | none => none
           | some s17 =>
            (match f_X9_checkCollected s17 a1 with
            | none => none
            | some s19 =>
             some s19))))
        else
         (if r9 = 0 then
          (match f_X9_cached s with
          | none => none
          | some r24 =>
           (match pm_inb 5 26 with
           | false => none
           | true =>
           (if (s.2.2.1 0 (Int32.toNatClampNeg 5)) ≤ r24 then
            some s
           else
            (match f_X9_setHeld s a0 a1 1 with
            | none => none
            | some s28 =>
             (match pm_inb 6 18186 with
             | false => none
             | true =>
             some (mo_a s28 3 6 ((s28.2.2.1 3 (Int32.toNatClampNeg 6)) + 1)))))))
         else
          some s)))
      else
       some s))))))
def tb_X9_readFinished : List pm_I := [(0, .aload_n 0, 0, 0), (1, .getfield 16, 162, 0), (4, .iconst 1, 3, 0), (5, .iaload, 0, 0), (6, .iconst (-1), 1, 0), (7, .if_icmp .eq 20, 27, 0), (10, .aload_n 0, 0, 0), (11, .iload_n 1, 0, 0), (12, .invokevirtual 276, 280, 0), (15, .ifCond .eq 12, 27, 0), (18, .aload_n 0, 0, 0), (19, .iload_n 1, 0, 0), (20, .iload_n 2, 0, 0), (21, .invokevirtual 279, 281, 0), (24, .ifCond .eq 4, 28, 0), (27, .return_, 0, 0), (28, .aload_n 0, 0, 0), (29, .iload_n 2, 0, 0), (30, .invokevirtual 286, 278, 0), (33, .iconst 1, 3, 0), (34, .if_icmp .ne 28, 62, 0), (37, .aload_n 0, 0, 0), (38, .iload_n 1, 0, 0), (39, .iload_n 2, 0, 0), (40, .iconst 1, 3, 0), (41, .invokevirtual 332, 316, 0), (44, .iload_n 3, 0, 0), (45, .ifCond .eq 9, 54, 0), (48, .aload_n 0, 0, 0), (49, .iload_n 1, 0, 0), (50, .iload_n 2, 0, 0), (51, .invokevirtual 335, 319, 0), (54, .aload_n 0, 0, 0), (55, .iload_n 2, 0, 0), (56, .invokevirtual 317, 308, 0), (59, .goto 47, 106, 0), (62, .aload_n 0, 0, 0), (63, .iload_n 2, 0, 0), (64, .invokevirtual 286, 278, 0), (67, .ifCond .ne 39, 106, 0), (70, .aload_n 0, 0, 0), (71, .invokevirtual 338, 321, 0), (74, .aload_n 0, 0, 0), (75, .getfield 7, 159, 0), (78, .iconst 5, 7, 0), (79, .iaload, 0, 0), (80, .if_icmp .ge 26, 106, 0), (83, .aload_n 0, 0, 0), (84, .iload_n 1, 0, 0), (85, .iload_n 2, 0, 0), (86, .iconst 1, 3, 0), (87, .invokevirtual 332, 316, 0), (90, .aload_n 0, 0, 0), (91, .getfield 16, 162, 0), (94, .bipush 6, 8, 0), (96, .aload_n 0, 0, 0), (97, .getfield 16, 162, 0), (100, .bipush 6, 8, 0), (102, .iaload, 0, 0), (103, .iconst 1, 3, 0), (104, .iadd, 0, 0), (105, .iastore, 0, 0), (106, .return_, 0, 0)]
theorem tk_X9_readFinished : ∀ e ∈ tb_X9_readFinished, pm_ck 235 e = true := List.all_eq_true.mp (by decide +kernel)
set_option maxRecDepth 20000 in
set_option maxHeartbeats 20000000 in
theorem e_X9_readFinished (d : Nat) (hd : 7 ≤ d) (gx : List pm_E) (gs : List (List pm_E)) (q : Nat × Nat × Nat) (s : mo_S) (a0 : Int32) (a1 : Int32) (a2 : Int32) (s1 : mo_S) (H : f_X9_readFinished s a0 a1 a2 = some s1) : pm_Mt 235 d [.ref 64, .int a0, .int a1, .int a2] (mo_h gx s gs q) (.inl (none)) (mo_h gx s1 gs q) := by
  refine pm_Mt.of (by decide) (by decide +kernel) rfl rfl ?_
  obtain ⟨d, rfl⟩ : ∃ d', d = d' + 1 := ⟨d - 1, by omega⟩
  unfold f_X9_readFinished at H
  cases b1 : pm_inb 1 18186 with
  | false => rw [b1] at H; cases H
  | true =>
   rw [b1] at H
   dsimp only at H
   by_cases h2 : (s.2.2.1 3 (Int32.toNatClampNeg 1)) = (-1)
   · rw [if_pos h2] at H
     injection H with H
     subst H
     refine pm_Wg.path (k := 6) (ds := [1]) (f' := (27, [some (.ref 64), some (.int a0), some (.int a1), some (.int a2)], [], mo_h gx s gs q)) tk_X9_readFinished (by omega) rfl ⟨h2, pm_inb_vp b1, trivial⟩ ?_
     exact pm_Wg.vret (pm_dec tk_X9_readFinished rfl) rfl
   · rw [if_neg h2] at H
     cases q4 : f_X9_isSurviving s a0 with
     | none => rw [q4] at H; cases H
     | some r3 =>
      rw [q4] at H
      dsimp only at H
      refine pm_Wg.path (k := 8) (ds := [0]) (f' := (12, [some (.ref 64), some (.int a0), some (.int a1), some (.int a2)], [.int a0, .ref 64], mo_h gx s gs q)) tk_X9_readFinished (by omega) rfl ⟨h2, pm_inb_vp b1, trivial⟩ ?_
      refine pm_Wg.callV (m' := 216) (ix := 276) (rr := 280) (pl := 1707) (b := 64) (As := [.int a0]) (S := []) (by decide) rfl (pm_dec tk_X9_readFinished rfl) rfl rfl (by decide) rfl rfl (by decide) (Nat.le_of_ble_eq_true rfl) rfl (e_X9_isSurviving d (by omega) gx gs q _ _ _ q4) ?_
      by_cases h5 : r3 = 0
      · rw [if_pos h5] at H
        injection H with H
        subst H
        refine pm_Wg.path (k := 1) (ds := [1]) (f' := (27, [some (.ref 64), some (.int a0), some (.int a1), some (.int a2)], [], mo_h gx s gs q)) tk_X9_readFinished (by omega) rfl ⟨h5, trivial⟩ ?_
        exact pm_Wg.vret (pm_dec tk_X9_readFinished rfl) rfl
      · rw [if_neg h5] at H
        cases q7 : f_X9_isHeldOn s a0 a1 with
        | none => rw [q7] at H; cases H
        | some r6 =>
         rw [q7] at H
         dsimp only at H
         refine pm_Wg.path (k := 4) (ds := [0]) (f' := (21, [some (.ref 64), some (.int a0), some (.int a1), some (.int a2)], [.int a1, .int a0, .ref 64], mo_h gx s gs q)) tk_X9_readFinished (by omega) rfl ⟨h5, trivial⟩ ?_
         refine pm_Wg.callV (m' := 217) (ix := 279) (rr := 281) (pl := 1711) (b := 64) (As := [.int a0, .int a1]) (S := []) (by decide) rfl (pm_dec tk_X9_readFinished rfl) rfl rfl (by decide) rfl rfl (by decide) (Nat.le_of_ble_eq_true rfl) rfl (e_X9_isHeldOn d (by omega) gx gs q _ _ _ _ q7) ?_
         by_cases h8 : r6 = 0
         · rw [if_pos h8] at H
           cases q10 : f_X9_stateOf s a1 with
           | none => rw [q10] at H; cases H
           | some r9 =>
            rw [q10] at H
            dsimp only at H
            refine pm_Wg.path (k := 3) (ds := [1]) (f' := (30, [some (.ref 64), some (.int a0), some (.int a1), some (.int a2)], [.int a1, .ref 64], mo_h gx s gs q)) tk_X9_readFinished (by omega) rfl ⟨h8, trivial⟩ ?_
            refine pm_Wg.callV (m' := 219) (ix := 286) (rr := 278) (pl := 1699) (b := 64) (As := [.int a1]) (S := []) (by decide) rfl (pm_dec tk_X9_readFinished rfl) rfl rfl (by decide) rfl rfl (by decide) (Nat.le_of_ble_eq_true rfl) rfl (e_X9_stateOf d (by omega) gx gs q _ _ _ q10) ?_
            by_cases h11 : r9 = 1
            · rw [if_pos h11] at H
              cases q13 : f_X9_setHeld s a0 a1 1 with
              | none => rw [q13] at H; cases H
              | some s12 =>
               rw [q13] at H
               dsimp only at H
               refine pm_Wg.path (k := 6) (ds := [0]) (f' := (41, [some (.ref 64), some (.int a0), some (.int a1), some (.int a2)], [.int 1, .int a1, .int a0, .ref 64], mo_h gx s gs q)) tk_X9_readFinished (by omega) rfl ⟨h11, trivial⟩ ?_
               refine pm_Wg.callV (m' := 218) (ix := 332) (rr := 316) (pl := 1852) (b := 64) (As := [.int a0, .int a1, .int 1]) (S := []) (by decide) rfl (pm_dec tk_X9_readFinished rfl) rfl rfl (by decide) rfl rfl (by decide) (Nat.le_of_ble_eq_true rfl) rfl (e_X9_setHeld d (by omega) gx gs q _ _ _ _ _ q13) ?_
               by_cases h14 : a2 = 0
               · rw [if_pos h14] at H
                 cases q16 : f_X9_checkCollected s12 a1 with
                 | none => rw [q16] at H; cases H
                 | some s15 =>
                  rw [q16] at H
                  dsimp only at H
                  refine pm_Wg.path (k := 4) (ds := [1]) (f' := (56, [some (.ref 64), some (.int a0), some (.int a1), some (.int a2)], [.int a1, .ref 64], mo_h gx s12 gs q)) tk_X9_readFinished (by omega) rfl ⟨h14, trivial⟩ ?_
                  refine pm_Wg.callV (m' := 228) (ix := 317) (rr := 308) (pl := 1820) (b := 64) (As := [.int a1]) (S := []) (by decide) rfl (pm_dec tk_X9_readFinished rfl) rfl rfl (by decide) rfl rfl (by decide) (Nat.le_of_ble_eq_true rfl) rfl (e_X9_checkCollected d (by omega) gx gs q _ _ _ q16) ?_
                  injection H with H
                  subst H
                  refine pm_Wg.path (k := 1) (ds := []) (f' := (106, [some (.ref 64), some (.int a0), some (.int a1), some (.int a2)], [], mo_h gx s15 gs q)) tk_X9_readFinished (by omega) rfl trivial ?_
                  exact pm_Wg.vret (pm_dec tk_X9_readFinished rfl) rfl
               · rw [if_neg h14] at H
                 cases q18 : f_X9_saveRead s12 a0 a1 with
                 | none => rw [q18] at H; cases H
                 | some s17 =>
                  rw [q18] at H
                  dsimp only at H
                  refine pm_Wg.path (k := 5) (ds := [0]) (f' := (51, [some (.ref 64), some (.int a0), some (.int a1), some (.int a2)], [.int a1, .int a0, .ref 64], mo_h gx s12 gs q)) tk_X9_readFinished (by omega) rfl ⟨h14, trivial⟩ ?_
                  refine pm_Wg.callV (m' := 234) (ix := 335) (rr := 319) (pl := 1864) (b := 64) (As := [.int a0, .int a1]) (S := []) (by decide) rfl (pm_dec tk_X9_readFinished rfl) rfl rfl (by decide) rfl rfl (by decide) (Nat.le_of_ble_eq_true rfl) rfl (e_X9_saveRead d (by omega) gx gs q _ _ _ _ q18) ?_
                  cases q20 : f_X9_checkCollected s17 a1 with
                  | none => rw [q20] at H; cases H
                  | some s19 =>
                   rw [q20] at H
                   dsimp only at H
                   refine pm_Wg.path (k := 2) (ds := []) (f' := (56, [some (.ref 64), some (.int a0), some (.int a1), some (.int a2)], [.int a1, .ref 64], mo_h gx s17 gs q)) tk_X9_readFinished (by omega) rfl trivial ?_
                   refine pm_Wg.callV (m' := 228) (ix := 317) (rr := 308) (pl := 1820) (b := 64) (As := [.int a1]) (S := []) (by decide) rfl (pm_dec tk_X9_readFinished rfl) rfl rfl (by decide) rfl rfl (by decide) (Nat.le_of_ble_eq_true rfl) rfl (e_X9_checkCollected d (by omega) gx gs q _ _ _ q20) ?_
                   injection H with H
                   subst H
                   refine pm_Wg.path (k := 1) (ds := []) (f' := (106, [some (.ref 64), some (.int a0), some (.int a1), some (.int a2)], [], mo_h gx s19 gs q)) tk_X9_readFinished (by omega) rfl trivial ?_
                   exact pm_Wg.vret (pm_dec tk_X9_readFinished rfl) rfl
            · rw [if_neg h11] at H
              refine pm_Wg.path (k := 4) (ds := [1]) (f' := (64, [some (.ref 64), some (.int a0), some (.int a1), some (.int a2)], [.int a1, .ref 64], mo_h gx s gs q)) tk_X9_readFinished (by omega) rfl ⟨h11, trivial⟩ ?_
              refine pm_Wg.callV (m' := 219) (ix := 286) (rr := 278) (pl := 1699) (b := 64) (As := [.int a1]) (S := []) (by decide) rfl (pm_dec tk_X9_readFinished rfl) rfl rfl (by decide) rfl rfl (by decide) (Nat.le_of_ble_eq_true rfl) rfl (e_X9_stateOf d (by omega) gx gs q _ _ _ q10) ?_
              by_cases h23 : r9 = 0
              · rw [if_pos h23] at H
                cases q25 : f_X9_cached s with
                | none => rw [q25] at H; cases H
                | some r24 =>
                 rw [q25] at H
                 dsimp only at H
                 refine pm_Wg.path (k := 2) (ds := [0]) (f' := (71, [some (.ref 64), some (.int a0), some (.int a1), some (.int a2)], [.ref 64], mo_h gx s gs q)) tk_X9_readFinished (by omega) rfl ⟨h23, trivial⟩ ?_
                 refine pm_Wg.callV (m' := 233) (ix := 338) (rr := 321) (pl := 1872) (b := 64) (As := []) (S := []) (by decide) rfl (pm_dec tk_X9_readFinished rfl) rfl rfl (by decide) rfl rfl (by decide) (Nat.le_of_ble_eq_true rfl) rfl (e_X9_cached d (by omega) gx gs q _ _ q25) ?_
                 cases b26 : pm_inb 5 26 with
                 | false => rw [b26] at H; cases H
                 | true =>
                  rw [b26] at H
                  dsimp only at H
                  by_cases h27 : (s.2.2.1 0 (Int32.toNatClampNeg 5)) ≤ r24
                  · rw [if_pos h27] at H
                    injection H with H
                    subst H
                    refine pm_Wg.path (k := 5) (ds := [1]) (f' := (106, [some (.ref 64), some (.int a0), some (.int a1), some (.int a2)], [], mo_h gx s gs q)) tk_X9_readFinished (by omega) rfl ⟨h27, pm_inb_vp b26, trivial⟩ ?_
                    exact pm_Wg.vret (pm_dec tk_X9_readFinished rfl) rfl
                  · rw [if_neg h27] at H
                    cases q29 : f_X9_setHeld s a0 a1 1 with
                    | none => rw [q29] at H; cases H
                    | some s28 =>
                     rw [q29] at H
                     dsimp only at H
                     refine pm_Wg.path (k := 9) (ds := [0]) (f' := (87, [some (.ref 64), some (.int a0), some (.int a1), some (.int a2)], [.int 1, .int a1, .int a0, .ref 64], mo_h gx s gs q)) tk_X9_readFinished (by omega) rfl ⟨h27, pm_inb_vp b26, trivial⟩ ?_
                     refine pm_Wg.callV (m' := 218) (ix := 332) (rr := 316) (pl := 1852) (b := 64) (As := [.int a0, .int a1, .int 1]) (S := []) (by decide) rfl (pm_dec tk_X9_readFinished rfl) rfl rfl (by decide) rfl rfl (by decide) (Nat.le_of_ble_eq_true rfl) rfl (e_X9_setHeld d (by omega) gx gs q _ _ _ _ _ q29) ?_
                     cases b30 : pm_inb 6 18186 with
                     | false => rw [b30] at H; cases H
                     | true =>
                      rw [b30] at H
                      dsimp only at H
                      injection H with H
                      subst H
                      refine pm_Wg.path (k := 10) (ds := []) (f' := (106, [some (.ref 64), some (.int a0), some (.int a1), some (.int a2)], [], mo_h gx (mo_a s28 3 6 ((s28.2.2.1 3 (Int32.toNatClampNeg 6)) + 1)) gs q)) tk_X9_readFinished (by omega) rfl ⟨pm_inb_vp b30, pm_inb_vp b30, trivial⟩ ?_
                      exact pm_Wg.vret (pm_dec tk_X9_readFinished rfl) rfl
              · rw [if_neg h23] at H
                injection H with H
                subst H
                refine pm_Wg.path (k := 1) (ds := [1]) (f' := (106, [some (.ref 64), some (.int a0), some (.int a1), some (.int a2)], [], mo_h gx s gs q)) tk_X9_readFinished (by omega) rfl ⟨h23, trivial⟩ ?_
                exact pm_Wg.vret (pm_dec tk_X9_readFinished rfl) rfl
         · rw [if_neg h8] at H
           injection H with H
           subst H
           refine pm_Wg.path (k := 1) (ds := [0]) (f' := (27, [some (.ref 64), some (.int a0), some (.int a1), some (.int a2)], [], mo_h gx s gs q)) tk_X9_readFinished (by omega) rfl ⟨h8, trivial⟩ ?_
           exact pm_Wg.vret (pm_dec tk_X9_readFinished rfl) rfl

def f_X9_writeFinished (s : mo_S) (a0 : Int32) (a1 : Int32) (a2 : Int32) : Option mo_S :=
  (if a2 = 0 then
   (match f_X9_stripeRebuilt s a1 with
   | none => none
   | some s2 =>
    some s2)
  else
   (match f_X9_isSurviving s a0 with
   | none => none
   | some r4 =>
    (if r4 = 0 then
     some s
    else
     (match f_X9_isHeldOn s a0 a1 with
     | none => none
     | some r7 =>
      (if r7 = 0 then
       some s
      else
       (match f_X9_stateOf s a1 with
       | none => none
       | some r10 =>
        (if 1 < r10 then
         some s
        else
         (match f_X9_setHeld s a0 a1 0 with
         | none => none
         | some s13 =>
          (match f_X9_stateOf s13 a1 with
          | none => none
          | some r15 =>
           (if r15 = 1 then
            (match f_X9_queueRebuildRead s13 a0 a1 with
            | none => none
            | some s18 =>
             some s18)
           else
            some s13))))))))))
def tb_X9_writeFinished : List pm_I := [(0, .iload_n 3, 0, 0), (1, .ifCond .ne 9, 10, 0), (4, .aload_n 0, 0, 0), (5, .iload_n 2, 0, 0), (6, .invokevirtual 344, 315, 0), (9, .return_, 0, 0), (10, .aload_n 0, 0, 0), (11, .iload_n 1, 0, 0), (12, .invokevirtual 276, 280, 0), (15, .ifCond .eq 25, 40, 0), (18, .aload_n 0, 0, 0), (19, .iload_n 1, 0, 0), (20, .iload_n 2, 0, 0), (21, .invokevirtual 279, 281, 0), (24, .ifCond .eq 16, 40, 0), (27, .aload_n 0, 0, 0), (28, .iload_n 2, 0, 0), (29, .invokevirtual 286, 278, 0), (32, .iconst 1, 3, 0), (33, .if_icmp .gt 7, 40, 0), (36, .iconst 1, 3, 0), (37, .goto 4, 41, 0), (40, .iconst 0, 2, 0), (41, .istore 4, 0, 0), (43, .iload 4, 0, 0), (45, .ifCond .ne 4, 49, 0), (48, .return_, 0, 0), (49, .aload_n 0, 0, 0), (50, .iload_n 1, 0, 0), (51, .iload_n 2, 0, 0), (52, .iconst 0, 2, 0), (53, .invokevirtual 332, 316, 0), (56, .aload_n 0, 0, 0), (57, .iload_n 2, 0, 0), (58, .invokevirtual 286, 278, 0), (61, .iconst 1, 3, 0), (62, .if_icmp .ne 9, 71, 0), (65, .aload_n 0, 0, 0), (66, .iload_n 1, 0, 0), (67, .iload_n 2, 0, 0), (68, .invokevirtual 314, 306, 0), (71, .return_, 0, 0)]
theorem tk_X9_writeFinished : ∀ e ∈ tb_X9_writeFinished, pm_ck 238 e = true := List.all_eq_true.mp (by decide +kernel)
set_option maxRecDepth 20000 in
set_option maxHeartbeats 20000000 in
theorem e_X9_writeFinished (d : Nat) (hd : 7 ≤ d) (gx : List pm_E) (gs : List (List pm_E)) (q : Nat × Nat × Nat) (s : mo_S) (a0 : Int32) (a1 : Int32) (a2 : Int32) (s1 : mo_S) (H : f_X9_writeFinished s a0 a1 a2 = some s1) : pm_Mt 238 d [.ref 64, .int a0, .int a1, .int a2] (mo_h gx s gs q) (.inl (none)) (mo_h gx s1 gs q) := by
  refine pm_Mt.of (by decide) (by decide +kernel) rfl rfl ?_
  obtain ⟨d, rfl⟩ : ∃ d', d = d' + 1 := ⟨d - 1, by omega⟩
  unfold f_X9_writeFinished at H
  by_cases h1 : a2 = 0
  · rw [if_pos h1] at H
    cases q3 : f_X9_stripeRebuilt s a1 with
    | none => rw [q3] at H; cases H
    | some s2 =>
     rw [q3] at H
     dsimp only at H
     refine pm_Wg.path (k := 4) (ds := [0]) (f' := (6, [some (.ref 64), some (.int a0), some (.int a1), some (.int a2), none], [.int a1, .ref 64], mo_h gx s gs q)) tk_X9_writeFinished (by omega) rfl ⟨h1, trivial⟩ ?_
     refine pm_Wg.callV (m' := 237) (ix := 344) (rr := 315) (pl := 1848) (b := 64) (As := [.int a1]) (S := []) (by decide) rfl (pm_dec tk_X9_writeFinished rfl) rfl rfl (by decide) rfl rfl (by decide) (Nat.le_of_ble_eq_true rfl) rfl (e_X9_stripeRebuilt d (by omega) gx gs q _ _ _ q3) ?_
     injection H with H
     subst H
     exact pm_Wg.vret (pm_dec tk_X9_writeFinished rfl) rfl
  · rw [if_neg h1] at H
    cases q5 : f_X9_isSurviving s a0 with
    | none => rw [q5] at H; cases H
    | some r4 =>
     rw [q5] at H
     dsimp only at H
     refine pm_Wg.path (k := 4) (ds := [1]) (f' := (12, [some (.ref 64), some (.int a0), some (.int a1), some (.int a2), none], [.int a0, .ref 64], mo_h gx s gs q)) tk_X9_writeFinished (by omega) rfl ⟨h1, trivial⟩ ?_
     refine pm_Wg.callV (m' := 216) (ix := 276) (rr := 280) (pl := 1707) (b := 64) (As := [.int a0]) (S := []) (by decide) rfl (pm_dec tk_X9_writeFinished rfl) rfl rfl (by decide) rfl rfl (by decide) (Nat.le_of_ble_eq_true rfl) rfl (e_X9_isSurviving d (by omega) gx gs q _ _ _ q5) ?_
     by_cases h6 : r4 = 0
     · rw [if_pos h6] at H
       injection H with H
       subst H
       refine pm_Wg.path (k := 5) (ds := [1, 0]) (f' := (48, [some (.ref 64), some (.int a0), some (.int a1), some (.int a2), some (.int 0)], [], mo_h gx s gs q)) tk_X9_writeFinished (by omega) rfl ⟨(by decide), h6, trivial⟩ ?_
       exact pm_Wg.vret (pm_dec tk_X9_writeFinished rfl) rfl
     · rw [if_neg h6] at H
       cases q8 : f_X9_isHeldOn s a0 a1 with
       | none => rw [q8] at H; cases H
       | some r7 =>
        rw [q8] at H
        dsimp only at H
        refine pm_Wg.path (k := 4) (ds := [0]) (f' := (21, [some (.ref 64), some (.int a0), some (.int a1), some (.int a2), none], [.int a1, .int a0, .ref 64], mo_h gx s gs q)) tk_X9_writeFinished (by omega) rfl ⟨h6, trivial⟩ ?_
        refine pm_Wg.callV (m' := 217) (ix := 279) (rr := 281) (pl := 1711) (b := 64) (As := [.int a0, .int a1]) (S := []) (by decide) rfl (pm_dec tk_X9_writeFinished rfl) rfl rfl (by decide) rfl rfl (by decide) (Nat.le_of_ble_eq_true rfl) rfl (e_X9_isHeldOn d (by omega) gx gs q _ _ _ _ q8) ?_
        by_cases h9 : r7 = 0
        · rw [if_pos h9] at H
          injection H with H
          subst H
          refine pm_Wg.path (k := 5) (ds := [1, 0]) (f' := (48, [some (.ref 64), some (.int a0), some (.int a1), some (.int a2), some (.int 0)], [], mo_h gx s gs q)) tk_X9_writeFinished (by omega) rfl ⟨(by decide), h9, trivial⟩ ?_
          exact pm_Wg.vret (pm_dec tk_X9_writeFinished rfl) rfl
        · rw [if_neg h9] at H
          cases q11 : f_X9_stateOf s a1 with
          | none => rw [q11] at H; cases H
          | some r10 =>
           rw [q11] at H
           dsimp only at H
           refine pm_Wg.path (k := 3) (ds := [0]) (f' := (29, [some (.ref 64), some (.int a0), some (.int a1), some (.int a2), none], [.int a1, .ref 64], mo_h gx s gs q)) tk_X9_writeFinished (by omega) rfl ⟨h9, trivial⟩ ?_
           refine pm_Wg.callV (m' := 219) (ix := 286) (rr := 278) (pl := 1699) (b := 64) (As := [.int a1]) (S := []) (by decide) rfl (pm_dec tk_X9_writeFinished rfl) rfl rfl (by decide) rfl rfl (by decide) (Nat.le_of_ble_eq_true rfl) rfl (e_X9_stateOf d (by omega) gx gs q _ _ _ q11) ?_
           by_cases h12 : 1 < r10
           · rw [if_pos h12] at H
             injection H with H
             subst H
             refine pm_Wg.path (k := 6) (ds := [1, 0]) (f' := (48, [some (.ref 64), some (.int a0), some (.int a1), some (.int a2), some (.int 0)], [], mo_h gx s gs q)) tk_X9_writeFinished (by omega) rfl ⟨(by decide), h12, trivial⟩ ?_
             exact pm_Wg.vret (pm_dec tk_X9_writeFinished rfl) rfl
           · rw [if_neg h12] at H
             cases q14 : f_X9_setHeld s a0 a1 0 with
             | none => rw [q14] at H; cases H
             | some s13 =>
              rw [q14] at H
              dsimp only at H
              refine pm_Wg.path (k := 11) (ds := [0, 1]) (f' := (53, [some (.ref 64), some (.int a0), some (.int a1), some (.int a2), some (.int 1)], [.int 0, .int a1, .int a0, .ref 64], mo_h gx s gs q)) tk_X9_writeFinished (by omega) rfl ⟨(by decide), h12, trivial⟩ ?_
              refine pm_Wg.callV (m' := 218) (ix := 332) (rr := 316) (pl := 1852) (b := 64) (As := [.int a0, .int a1, .int 0]) (S := []) (by decide) rfl (pm_dec tk_X9_writeFinished rfl) rfl rfl (by decide) rfl rfl (by decide) (Nat.le_of_ble_eq_true rfl) rfl (e_X9_setHeld d (by omega) gx gs q _ _ _ _ _ q14) ?_
              cases q16 : f_X9_stateOf s13 a1 with
              | none => rw [q16] at H; cases H
              | some r15 =>
               rw [q16] at H
               dsimp only at H
               refine pm_Wg.path (k := 2) (ds := []) (f' := (58, [some (.ref 64), some (.int a0), some (.int a1), some (.int a2), some (.int 1)], [.int a1, .ref 64], mo_h gx s13 gs q)) tk_X9_writeFinished (by omega) rfl trivial ?_
               refine pm_Wg.callV (m' := 219) (ix := 286) (rr := 278) (pl := 1699) (b := 64) (As := [.int a1]) (S := []) (by decide) rfl (pm_dec tk_X9_writeFinished rfl) rfl rfl (by decide) rfl rfl (by decide) (Nat.le_of_ble_eq_true rfl) rfl (e_X9_stateOf d (by omega) gx gs q _ _ _ q16) ?_
               by_cases h17 : r15 = 1
               · rw [if_pos h17] at H
                 cases q19 : f_X9_queueRebuildRead s13 a0 a1 with
                 | none => rw [q19] at H; cases H
                 | some s18 =>
                  rw [q19] at H
                  dsimp only at H
                  refine pm_Wg.path (k := 5) (ds := [0]) (f' := (68, [some (.ref 64), some (.int a0), some (.int a1), some (.int a2), some (.int 1)], [.int a1, .int a0, .ref 64], mo_h gx s13 gs q)) tk_X9_writeFinished (by omega) rfl ⟨h17, trivial⟩ ?_
                  refine pm_Wg.callV (m' := 229) (ix := 314) (rr := 306) (pl := 1812) (b := 64) (As := [.int a0, .int a1]) (S := []) (by decide) rfl (pm_dec tk_X9_writeFinished rfl) rfl rfl (by decide) rfl rfl (by decide) (Nat.le_of_ble_eq_true rfl) rfl (e_X9_queueRebuildRead d (by omega) gx gs q _ _ _ _ q19) ?_
                  injection H with H
                  subst H
                  exact pm_Wg.vret (pm_dec tk_X9_writeFinished rfl) rfl
               · rw [if_neg h17] at H
                 injection H with H
                 subst H
                 refine pm_Wg.path (k := 2) (ds := [1]) (f' := (71, [some (.ref 64), some (.int a0), some (.int a1), some (.int a2), some (.int 1)], [], mo_h gx s13 gs q)) tk_X9_writeFinished (by omega) rfl ⟨h17, trivial⟩ ?_
                 exact pm_Wg.vret (pm_dec tk_X9_writeFinished rfl) rfl

def f_X9_finishOperation (s : mo_S) (a0 : Int32) (a1 : Int32) : Option mo_S :=
  (match f_X9_of s a1 0 with
  | none => none
  | some r1 =>
   (match f_X9_of s a1 2 with
   | none => none
   | some r3 =>
    (match f_X9_of s a1 1 with
    | none => none
    | some r5 =>
     (match f_X9_of s a1 4 with
     | none => none
     | some r7 =>
      (match f_X9_release s a1 with
      | none => none
      | some s9 =>
       (if r7 = (-1) then
        (if r5 = 1 then
         (match f_X9_writeFinished s9 a0 r3 r1 with
         | none => none
         | some s13 =>
          some s13)
        else
         (match f_X9_readFinished s9 a0 r3 r1 with
         | none => none
         | some s15 =>
          some s15))
       else
        (match f_X9_addPending s9 r7 (-1) with
        | none => none
        | some s17 =>
         (match f_X9_checkRequest s17 r7 with
         | none => none
         | some s19 =>
          (if r5 = 1 then
           (match f_X9_writeFinished s19 a0 r3 r1 with
           | none => none
           | some s22 =>
            some s22)
          else
           (match f_X9_readFinished s19 a0 r3 r1 with
           | none => none
           | some s24 =>
            some s24))))))))))
def tb_X9_finishOperation : List pm_I := [(0, .aload_n 0, 0, 0), (1, .iload_n 2, 0, 0), (2, .iconst 0, 2, 0), (3, .invokevirtual 254, 285, 0), (6, .istore_n 3, 0, 0), (7, .aload_n 0, 0, 0), (8, .iload_n 2, 0, 0), (9, .iconst 2, 4, 0), (10, .invokevirtual 254, 285, 0), (13, .istore 4, 0, 0), (15, .aload_n 0, 0, 0), (16, .iload_n 2, 0, 0), (17, .iconst 1, 3, 0), (18, .invokevirtual 254, 285, 0), (21, .istore 5, 0, 0), (23, .aload_n 0, 0, 0), (24, .iload_n 2, 0, 0), (25, .iconst 4, 6, 0), (26, .invokevirtual 254, 285, 0), (29, .istore 6, 0, 0), (31, .aload_n 0, 0, 0), (32, .iload_n 2, 0, 0), (33, .invokevirtual 329, 300, 0), (36, .iload 6, 0, 0), (38, .iconst (-1), 1, 0), (39, .if_icmp .eq 16, 55, 0), (42, .aload_n 0, 0, 0), (43, .iload 6, 0, 0), (45, .iconst (-1), 1, 0), (46, .invokevirtual 260, 293, 0), (49, .aload_n 0, 0, 0), (50, .iload 6, 0, 0), (52, .invokevirtual 298, 295, 0), (55, .iload 5, 0, 0), (57, .iconst 1, 3, 0), (58, .if_icmp .ne 14, 72, 0), (61, .aload_n 0, 0, 0), (62, .iload_n 1, 0, 0), (63, .iload 4, 0, 0), (65, .iload_n 3, 0, 0), (66, .invokevirtual 347, 314, 0), (69, .goto 11, 80, 0), (72, .aload_n 0, 0, 0), (73, .iload_n 1, 0, 0), (74, .iload 4, 0, 0), (76, .iload_n 3, 0, 0), (77, .invokevirtual 350, 318, 0), (80, .return_, 0, 0)]
theorem tk_X9_finishOperation : ∀ e ∈ tb_X9_finishOperation, pm_ck 239 e = true := List.all_eq_true.mp (by decide +kernel)
set_option maxRecDepth 20000 in
set_option maxHeartbeats 20000000 in
theorem e_X9_finishOperation (d : Nat) (hd : 8 ≤ d) (gx : List pm_E) (gs : List (List pm_E)) (q : Nat × Nat × Nat) (s : mo_S) (a0 : Int32) (a1 : Int32) (s1 : mo_S) (H : f_X9_finishOperation s a0 a1 = some s1) : pm_Mt 239 d [.ref 64, .int a0, .int a1] (mo_h gx s gs q) (.inl (none)) (mo_h gx s1 gs q) := by
  refine pm_Mt.of (by decide) (by decide +kernel) rfl rfl ?_
  obtain ⟨d, rfl⟩ : ∃ d', d = d' + 1 := ⟨d - 1, by omega⟩
  unfold f_X9_finishOperation at H
  cases q2 : f_X9_of s a1 0 with
  | none => rw [q2] at H; cases H
  | some r1 =>
   rw [q2] at H
   dsimp only at H
   refine pm_Wg.path (k := 3) (ds := []) (f' := (3, [some (.ref 64), some (.int a0), some (.int a1), none, none, none, none], [.int 0, .int a1, .ref 64], mo_h gx s gs q)) tk_X9_finishOperation (by omega) rfl trivial ?_
   refine pm_Wg.callV (m' := 200) (ix := 254) (rr := 285) (pl := 1726) (b := 64) (As := [.int a1, .int 0]) (S := []) (by decide) rfl (pm_dec tk_X9_finishOperation rfl) rfl rfl (by decide) rfl rfl (by decide) (Nat.le_of_ble_eq_true rfl) rfl (e_X9_of d (by omega) gx gs q _ _ _ _ q2) ?_
   cases q4 : f_X9_of s a1 2 with
   | none => rw [q4] at H; cases H
   | some r3 =>
    rw [q4] at H
    dsimp only at H
    refine pm_Wg.path (k := 4) (ds := []) (f' := (10, [some (.ref 64), some (.int a0), some (.int a1), some (.int r1), none, none, none], [.int 2, .int a1, .ref 64], mo_h gx s gs q)) tk_X9_finishOperation (by omega) rfl trivial ?_
    refine pm_Wg.callV (m' := 200) (ix := 254) (rr := 285) (pl := 1726) (b := 64) (As := [.int a1, .int 2]) (S := []) (by decide) rfl (pm_dec tk_X9_finishOperation rfl) rfl rfl (by decide) rfl rfl (by decide) (Nat.le_of_ble_eq_true rfl) rfl (e_X9_of d (by omega) gx gs q _ _ _ _ q4) ?_
    cases q6 : f_X9_of s a1 1 with
    | none => rw [q6] at H; cases H
    | some r5 =>
     rw [q6] at H
     dsimp only at H
     refine pm_Wg.path (k := 4) (ds := []) (f' := (18, [some (.ref 64), some (.int a0), some (.int a1), some (.int r1), some (.int r3), none, none], [.int 1, .int a1, .ref 64], mo_h gx s gs q)) tk_X9_finishOperation (by omega) rfl trivial ?_
     refine pm_Wg.callV (m' := 200) (ix := 254) (rr := 285) (pl := 1726) (b := 64) (As := [.int a1, .int 1]) (S := []) (by decide) rfl (pm_dec tk_X9_finishOperation rfl) rfl rfl (by decide) rfl rfl (by decide) (Nat.le_of_ble_eq_true rfl) rfl (e_X9_of d (by omega) gx gs q _ _ _ _ q6) ?_
     cases q8 : f_X9_of s a1 4 with
     | none => rw [q8] at H; cases H
     | some r7 =>
      rw [q8] at H
      dsimp only at H
      refine pm_Wg.path (k := 4) (ds := []) (f' := (26, [some (.ref 64), some (.int a0), some (.int a1), some (.int r1), some (.int r3), some (.int r5), none], [.int 4, .int a1, .ref 64], mo_h gx s gs q)) tk_X9_finishOperation (by omega) rfl trivial ?_
      refine pm_Wg.callV (m' := 200) (ix := 254) (rr := 285) (pl := 1726) (b := 64) (As := [.int a1, .int 4]) (S := []) (by decide) rfl (pm_dec tk_X9_finishOperation rfl) rfl rfl (by decide) rfl rfl (by decide) (Nat.le_of_ble_eq_true rfl) rfl (e_X9_of d (by omega) gx gs q _ _ _ _ q8) ?_
      cases q10 : f_X9_release s a1 with
      | none => rw [q10] at H; cases H
      | some s9 =>
       rw [q10] at H
       dsimp only at H
       refine pm_Wg.path (k := 3) (ds := []) (f' := (33, [some (.ref 64), some (.int a0), some (.int a1), some (.int r1), some (.int r3), some (.int r5), some (.int r7)], [.int a1, .ref 64], mo_h gx s gs q)) tk_X9_finishOperation (by omega) rfl trivial ?_
       refine pm_Wg.callV (m' := 210) (ix := 329) (rr := 300) (pl := 1788) (b := 64) (As := [.int a1]) (S := []) (by decide) rfl (pm_dec tk_X9_finishOperation rfl) rfl rfl (by decide) rfl rfl (by decide) (Nat.le_of_ble_eq_true rfl) rfl (e_X9_release d (by omega) gx gs q _ _ _ q10) ?_
       by_cases h11 : r7 = (-1)
       · rw [if_pos h11] at H
         by_cases h12 : r5 = 1
         · rw [if_pos h12] at H
           cases q14 : f_X9_writeFinished s9 a0 r3 r1 with
           | none => rw [q14] at H; cases H
           | some s13 =>
            rw [q14] at H
            dsimp only at H
            refine pm_Wg.path (k := 10) (ds := [1, 0]) (f' := (66, [some (.ref 64), some (.int a0), some (.int a1), some (.int r1), some (.int r3), some (.int r5), some (.int r7)], [.int r1, .int r3, .int a0, .ref 64], mo_h gx s9 gs q)) tk_X9_finishOperation (by omega) rfl ⟨h12, h11, trivial⟩ ?_
            refine pm_Wg.callV (m' := 238) (ix := 347) (rr := 314) (pl := 1844) (b := 64) (As := [.int a0, .int r3, .int r1]) (S := []) (by decide) rfl (pm_dec tk_X9_finishOperation rfl) rfl rfl (by decide) rfl rfl (by decide) (Nat.le_of_ble_eq_true rfl) rfl (e_X9_writeFinished d (by omega) gx gs q _ _ _ _ _ q14) ?_
            injection H with H
            subst H
            refine pm_Wg.path (k := 1) (ds := []) (f' := (80, [some (.ref 64), some (.int a0), some (.int a1), some (.int r1), some (.int r3), some (.int r5), some (.int r7)], [], mo_h gx s13 gs q)) tk_X9_finishOperation (by omega) rfl trivial ?_
            exact pm_Wg.vret (pm_dec tk_X9_finishOperation rfl) rfl
         · rw [if_neg h12] at H
           cases q16 : f_X9_readFinished s9 a0 r3 r1 with
           | none => rw [q16] at H; cases H
           | some s15 =>
            rw [q16] at H
            dsimp only at H
            refine pm_Wg.path (k := 10) (ds := [1, 1]) (f' := (77, [some (.ref 64), some (.int a0), some (.int a1), some (.int r1), some (.int r3), some (.int r5), some (.int r7)], [.int r1, .int r3, .int a0, .ref 64], mo_h gx s9 gs q)) tk_X9_finishOperation (by omega) rfl ⟨h12, h11, trivial⟩ ?_
            refine pm_Wg.callV (m' := 235) (ix := 350) (rr := 318) (pl := 1860) (b := 64) (As := [.int a0, .int r3, .int r1]) (S := []) (by decide) rfl (pm_dec tk_X9_finishOperation rfl) rfl rfl (by decide) rfl rfl (by decide) (Nat.le_of_ble_eq_true rfl) rfl (e_X9_readFinished d (by omega) gx gs q _ _ _ _ _ q16) ?_
            injection H with H
            subst H
            exact pm_Wg.vret (pm_dec tk_X9_finishOperation rfl) rfl
       · rw [if_neg h11] at H
         cases q18 : f_X9_addPending s9 r7 (-1) with
         | none => rw [q18] at H; cases H
         | some s17 =>
          rw [q18] at H
          dsimp only at H
          refine pm_Wg.path (k := 6) (ds := [0]) (f' := (46, [some (.ref 64), some (.int a0), some (.int a1), some (.int r1), some (.int r3), some (.int r5), some (.int r7)], [.int (-1), .int r7, .ref 64], mo_h gx s9 gs q)) tk_X9_finishOperation (by omega) rfl ⟨h11, trivial⟩ ?_
          refine pm_Wg.callV (m' := 213) (ix := 260) (rr := 293) (pl := 1760) (b := 64) (As := [.int r7, .int (-1)]) (S := []) (by decide) rfl (pm_dec tk_X9_finishOperation rfl) rfl rfl (by decide) rfl rfl (by decide) (Nat.le_of_ble_eq_true rfl) rfl (e_X9_addPending d (by omega) gx gs q _ _ _ _ q18) ?_
          cases q20 : f_X9_checkRequest s17 r7 with
          | none => rw [q20] at H; cases H
          | some s19 =>
           rw [q20] at H
           dsimp only at H
           refine pm_Wg.path (k := 2) (ds := []) (f' := (52, [some (.ref 64), some (.int a0), some (.int a1), some (.int r1), some (.int r3), some (.int r5), some (.int r7)], [.int r7, .ref 64], mo_h gx s17 gs q)) tk_X9_finishOperation (by omega) rfl trivial ?_
           refine pm_Wg.callV (m' := 215) (ix := 298) (rr := 295) (pl := 1768) (b := 64) (As := [.int r7]) (S := []) (by decide) rfl (pm_dec tk_X9_finishOperation rfl) rfl rfl (by decide) rfl rfl (by decide) (Nat.le_of_ble_eq_true rfl) rfl (e_X9_checkRequest d (by omega) gx gs q _ _ _ q20) ?_
           by_cases h21 : r5 = 1
           · rw [if_pos h21] at H
             cases q23 : f_X9_writeFinished s19 a0 r3 r1 with
             | none => rw [q23] at H; cases H
             | some s22 =>
              rw [q23] at H
              dsimp only at H
              refine pm_Wg.path (k := 7) (ds := [0]) (f' := (66, [some (.ref 64), some (.int a0), some (.int a1), some (.int r1), some (.int r3), some (.int r5), some (.int r7)], [.int r1, .int r3, .int a0, .ref 64], mo_h gx s19 gs q)) tk_X9_finishOperation (by omega) rfl ⟨h21, trivial⟩ ?_
              refine pm_Wg.callV (m' := 238) (ix := 347) (rr := 314) (pl := 1844) (b := 64) (As := [.int a0, .int r3, .int r1]) (S := []) (by decide) rfl (pm_dec tk_X9_finishOperation rfl) rfl rfl (by decide) rfl rfl (by decide) (Nat.le_of_ble_eq_true rfl) rfl (e_X9_writeFinished d (by omega) gx gs q _ _ _ _ _ q23) ?_
              injection H with H
              subst H
              refine pm_Wg.path (k := 1) (ds := []) (f' := (80, [some (.ref 64), some (.int a0), some (.int a1), some (.int r1), some (.int r3), some (.int r5), some (.int r7)], [], mo_h gx s22 gs q)) tk_X9_finishOperation (by omega) rfl trivial ?_
              exact pm_Wg.vret (pm_dec tk_X9_finishOperation rfl) rfl
           · rw [if_neg h21] at H
             cases q25 : f_X9_readFinished s19 a0 r3 r1 with
             | none => rw [q25] at H; cases H
             | some s24 =>
              rw [q25] at H
              dsimp only at H
              refine pm_Wg.path (k := 7) (ds := [1]) (f' := (77, [some (.ref 64), some (.int a0), some (.int a1), some (.int r1), some (.int r3), some (.int r5), some (.int r7)], [.int r1, .int r3, .int a0, .ref 64], mo_h gx s19 gs q)) tk_X9_finishOperation (by omega) rfl ⟨h21, trivial⟩ ?_
              refine pm_Wg.callV (m' := 235) (ix := 350) (rr := 318) (pl := 1860) (b := 64) (As := [.int a0, .int r3, .int r1]) (S := []) (by decide) rfl (pm_dec tk_X9_finishOperation rfl) rfl rfl (by decide) rfl rfl (by decide) (Nat.le_of_ble_eq_true rfl) rfl (e_X9_readFinished d (by omega) gx gs q _ _ _ _ _ q25) ?_
              injection H with H
              subst H
              exact pm_Wg.vret (pm_dec tk_X9_finishOperation rfl) rfl

def f_X9_handle (s : mo_S) (a0 : Int32) : Option mo_S :=
  (match f_X9_of s a0 4 with
  | none => none
  | some r1 =>
   (match f_X9_of s a0 2 with
   | none => none
   | some r3 =>
    (match f_X9_of s a0 1 with
    | none => none
    | some r5 =>
     (if r5 = 0 then
      (match f_X9_release s a0 with
      | none => none
      | some s8 =>
       (match f_X9_addPending s8 r1 (-1) with
       | none => none
       | some s10 =>
        (match f_X9_queueDegraded s10 r1 r3 with
        | none => none
        | some s12 =>
         (match f_X9_checkRequest s12 r1 with
         | none => none
         | some s14 =>
          some s14))))
     else
      (match f_X9_release s a0 with
      | none => none
      | some s16 =>
       (match f_X9_addPending s16 r1 (-1) with
       | none => none
       | some s18 =>
        (match f_X9_checkRequest s18 r1 with
        | none => none
        | some s20 =>
         some s20)))))))
def tb_X9_handle : List pm_I := [(0, .aload_n 0, 0, 0), (1, .iload_n 1, 0, 0), (2, .iconst 4, 6, 0), (3, .invokevirtual 254, 285, 0), (6, .istore_n 2, 0, 0), (7, .aload_n 0, 0, 0), (8, .iload_n 1, 0, 0), (9, .iconst 2, 4, 0), (10, .invokevirtual 254, 285, 0), (13, .istore_n 3, 0, 0), (14, .aload_n 0, 0, 0), (15, .iload_n 1, 0, 0), (16, .iconst 1, 3, 0), (17, .invokevirtual 254, 285, 0), (20, .ifCond .ne 7, 27, 0), (23, .iconst 1, 3, 0), (24, .goto 4, 28, 0), (27, .iconst 0, 2, 0), (28, .istore 4, 0, 0), (30, .aload_n 0, 0, 0), (31, .iload_n 1, 0, 0), (32, .invokevirtual 329, 300, 0), (35, .aload_n 0, 0, 0), (36, .iload_n 2, 0, 0), (37, .iconst (-1), 1, 0), (38, .invokevirtual 260, 293, 0), (41, .iload 4, 0, 0), (43, .ifCond .eq 9, 52, 0), (46, .aload_n 0, 0, 0), (47, .iload_n 2, 0, 0), (48, .iload_n 3, 0, 0), (49, .invokevirtual 289, 279, 0), (52, .aload_n 0, 0, 0), (53, .iload_n 2, 0, 0), (54, .invokevirtual 298, 295, 0), (57, .return_, 0, 0)]
theorem tk_X9_handle : ∀ e ∈ tb_X9_handle, pm_ck 240 e = true := List.all_eq_true.mp (by decide +kernel)
set_option maxRecDepth 20000 in
set_option maxHeartbeats 20000000 in
theorem e_X9_handle (d : Nat) (hd : 7 ≤ d) (gx : List pm_E) (gs : List (List pm_E)) (q : Nat × Nat × Nat) (s : mo_S) (a0 : Int32) (s1 : mo_S) (H : f_X9_handle s a0 = some s1) : pm_Mt 240 d [.ref 64, .int a0] (mo_h gx s gs q) (.inl (none)) (mo_h gx s1 gs q) := by
  refine pm_Mt.of (by decide) (by decide +kernel) rfl rfl ?_
  obtain ⟨d, rfl⟩ : ∃ d', d = d' + 1 := ⟨d - 1, by omega⟩
  unfold f_X9_handle at H
  cases q2 : f_X9_of s a0 4 with
  | none => rw [q2] at H; cases H
  | some r1 =>
   rw [q2] at H
   dsimp only at H
   refine pm_Wg.path (k := 3) (ds := []) (f' := (3, [some (.ref 64), some (.int a0), none, none, none], [.int 4, .int a0, .ref 64], mo_h gx s gs q)) tk_X9_handle (by omega) rfl trivial ?_
   refine pm_Wg.callV (m' := 200) (ix := 254) (rr := 285) (pl := 1726) (b := 64) (As := [.int a0, .int 4]) (S := []) (by decide) rfl (pm_dec tk_X9_handle rfl) rfl rfl (by decide) rfl rfl (by decide) (Nat.le_of_ble_eq_true rfl) rfl (e_X9_of d (by omega) gx gs q _ _ _ _ q2) ?_
   cases q4 : f_X9_of s a0 2 with
   | none => rw [q4] at H; cases H
   | some r3 =>
    rw [q4] at H
    dsimp only at H
    refine pm_Wg.path (k := 4) (ds := []) (f' := (10, [some (.ref 64), some (.int a0), some (.int r1), none, none], [.int 2, .int a0, .ref 64], mo_h gx s gs q)) tk_X9_handle (by omega) rfl trivial ?_
    refine pm_Wg.callV (m' := 200) (ix := 254) (rr := 285) (pl := 1726) (b := 64) (As := [.int a0, .int 2]) (S := []) (by decide) rfl (pm_dec tk_X9_handle rfl) rfl rfl (by decide) rfl rfl (by decide) (Nat.le_of_ble_eq_true rfl) rfl (e_X9_of d (by omega) gx gs q _ _ _ _ q4) ?_
    cases q6 : f_X9_of s a0 1 with
    | none => rw [q6] at H; cases H
    | some r5 =>
     rw [q6] at H
     dsimp only at H
     refine pm_Wg.path (k := 4) (ds := []) (f' := (17, [some (.ref 64), some (.int a0), some (.int r1), some (.int r3), none], [.int 1, .int a0, .ref 64], mo_h gx s gs q)) tk_X9_handle (by omega) rfl trivial ?_
     refine pm_Wg.callV (m' := 200) (ix := 254) (rr := 285) (pl := 1726) (b := 64) (As := [.int a0, .int 1]) (S := []) (by decide) rfl (pm_dec tk_X9_handle rfl) rfl rfl (by decide) rfl rfl (by decide) (Nat.le_of_ble_eq_true rfl) rfl (e_X9_of d (by omega) gx gs q _ _ _ _ q6) ?_
     by_cases h7 : r5 = 0
     · rw [if_pos h7] at H
       cases q9 : f_X9_release s a0 with
       | none => rw [q9] at H; cases H
       | some s8 =>
        rw [q9] at H
        dsimp only at H
        refine pm_Wg.path (k := 6) (ds := [0]) (f' := (32, [some (.ref 64), some (.int a0), some (.int r1), some (.int r3), some (.int 1)], [.int a0, .ref 64], mo_h gx s gs q)) tk_X9_handle (by omega) rfl ⟨h7, trivial⟩ ?_
        refine pm_Wg.callV (m' := 210) (ix := 329) (rr := 300) (pl := 1788) (b := 64) (As := [.int a0]) (S := []) (by decide) rfl (pm_dec tk_X9_handle rfl) rfl rfl (by decide) rfl rfl (by decide) (Nat.le_of_ble_eq_true rfl) rfl (e_X9_release d (by omega) gx gs q _ _ _ q9) ?_
        cases q11 : f_X9_addPending s8 r1 (-1) with
        | none => rw [q11] at H; cases H
        | some s10 =>
         rw [q11] at H
         dsimp only at H
         refine pm_Wg.path (k := 3) (ds := []) (f' := (38, [some (.ref 64), some (.int a0), some (.int r1), some (.int r3), some (.int 1)], [.int (-1), .int r1, .ref 64], mo_h gx s8 gs q)) tk_X9_handle (by omega) rfl trivial ?_
         refine pm_Wg.callV (m' := 213) (ix := 260) (rr := 293) (pl := 1760) (b := 64) (As := [.int r1, .int (-1)]) (S := []) (by decide) rfl (pm_dec tk_X9_handle rfl) rfl rfl (by decide) rfl rfl (by decide) (Nat.le_of_ble_eq_true rfl) rfl (e_X9_addPending d (by omega) gx gs q _ _ _ _ q11) ?_
         cases q13 : f_X9_queueDegraded s10 r1 r3 with
         | none => rw [q13] at H; cases H
         | some s12 =>
          rw [q13] at H
          dsimp only at H
          refine pm_Wg.path (k := 5) (ds := [0]) (f' := (49, [some (.ref 64), some (.int a0), some (.int r1), some (.int r3), some (.int 1)], [.int r3, .int r1, .ref 64], mo_h gx s10 gs q)) tk_X9_handle (by omega) rfl ⟨(by decide), trivial⟩ ?_
          refine pm_Wg.callV (m' := 220) (ix := 289) (rr := 279) (pl := 1703) (b := 64) (As := [.int r1, .int r3]) (S := []) (by decide) rfl (pm_dec tk_X9_handle rfl) rfl rfl (by decide) rfl rfl (by decide) (Nat.le_of_ble_eq_true rfl) rfl (e_X9_queueDegraded d (by omega) gx gs q _ _ _ _ q13) ?_
          cases q15 : f_X9_checkRequest s12 r1 with
          | none => rw [q15] at H; cases H
          | some s14 =>
           rw [q15] at H
           dsimp only at H
           refine pm_Wg.path (k := 2) (ds := []) (f' := (54, [some (.ref 64), some (.int a0), some (.int r1), some (.int r3), some (.int 1)], [.int r1, .ref 64], mo_h gx s12 gs q)) tk_X9_handle (by omega) rfl trivial ?_
           refine pm_Wg.callV (m' := 215) (ix := 298) (rr := 295) (pl := 1768) (b := 64) (As := [.int r1]) (S := []) (by decide) rfl (pm_dec tk_X9_handle rfl) rfl rfl (by decide) rfl rfl (by decide) (Nat.le_of_ble_eq_true rfl) rfl (e_X9_checkRequest d (by omega) gx gs q _ _ _ q15) ?_
           injection H with H
           subst H
           exact pm_Wg.vret (pm_dec tk_X9_handle rfl) rfl
     · rw [if_neg h7] at H
       cases q17 : f_X9_release s a0 with
       | none => rw [q17] at H; cases H
       | some s16 =>
        rw [q17] at H
        dsimp only at H
        refine pm_Wg.path (k := 5) (ds := [1]) (f' := (32, [some (.ref 64), some (.int a0), some (.int r1), some (.int r3), some (.int 0)], [.int a0, .ref 64], mo_h gx s gs q)) tk_X9_handle (by omega) rfl ⟨h7, trivial⟩ ?_
        refine pm_Wg.callV (m' := 210) (ix := 329) (rr := 300) (pl := 1788) (b := 64) (As := [.int a0]) (S := []) (by decide) rfl (pm_dec tk_X9_handle rfl) rfl rfl (by decide) rfl rfl (by decide) (Nat.le_of_ble_eq_true rfl) rfl (e_X9_release d (by omega) gx gs q _ _ _ q17) ?_
        cases q19 : f_X9_addPending s16 r1 (-1) with
        | none => rw [q19] at H; cases H
        | some s18 =>
         rw [q19] at H
         dsimp only at H
         refine pm_Wg.path (k := 3) (ds := []) (f' := (38, [some (.ref 64), some (.int a0), some (.int r1), some (.int r3), some (.int 0)], [.int (-1), .int r1, .ref 64], mo_h gx s16 gs q)) tk_X9_handle (by omega) rfl trivial ?_
         refine pm_Wg.callV (m' := 213) (ix := 260) (rr := 293) (pl := 1760) (b := 64) (As := [.int r1, .int (-1)]) (S := []) (by decide) rfl (pm_dec tk_X9_handle rfl) rfl rfl (by decide) rfl rfl (by decide) (Nat.le_of_ble_eq_true rfl) rfl (e_X9_addPending d (by omega) gx gs q _ _ _ _ q19) ?_
         cases q21 : f_X9_checkRequest s18 r1 with
         | none => rw [q21] at H; cases H
         | some s20 =>
          rw [q21] at H
          dsimp only at H
          refine pm_Wg.path (k := 4) (ds := [1]) (f' := (54, [some (.ref 64), some (.int a0), some (.int r1), some (.int r3), some (.int 0)], [.int r1, .ref 64], mo_h gx s18 gs q)) tk_X9_handle (by omega) rfl ⟨(by decide), trivial⟩ ?_
          refine pm_Wg.callV (m' := 215) (ix := 298) (rr := 295) (pl := 1768) (b := 64) (As := [.int r1]) (S := []) (by decide) rfl (pm_dec tk_X9_handle rfl) rfl rfl (by decide) rfl rfl (by decide) (Nat.le_of_ble_eq_true rfl) rfl (e_X9_checkRequest d (by omega) gx gs q _ _ _ q21) ?_
          injection H with H
          subst H
          exact pm_Wg.vret (pm_dec tk_X9_handle rfl) rfl

def lb_X9_fail_113 (x : mo_S × Int32 × Int32 × Int32 × Int32) : Option ((mo_S × Int32 × Int32 × Int32 × Int32) ⊕ ((mo_S × Int32 × Int32 × Int32) ⊕ (Int32 × mo_S))) := match x with
  | (s, l1, l2, l3, l4) =>
   (match f_X9_ofQueue s l4 0 with
   | none => none
   | some r31 =>
    (if r31 = (-1) then
     some (.inr (.inl (s, l1, l2, (l3 + 1))))
    else
     (match f_X9_removeFirst s l4 with
     | none => none
     | some s36 =>
      (match f_X9_handle s36 r31 with
      | none => none
      | some s38 =>
       some (.inl (s38, l1, (l2 + 1), l3, l4))))))
def lb_X9_fail_95 (x : mo_S × Int32 × Int32 × Int32) : Option ((mo_S × Int32 × Int32 × Int32) ⊕ (Int32 × mo_S)) := match x with
  | (s, l1, l2, l3) =>
   (match pm_inb 6 26 with
   | false => none
   | true =>
   (if (s.2.2.1 0 (Int32.toNatClampNeg 6)) ≤ l3 then
    (match f_X9_startStripes s with
    | none => none
    | some s27 =>
     some (.inr (l2, s27)))
   else
    (match f_X9_queueOf s l1 l3 with
    | none => none
    | some r29 =>
     (pm_loop pm_fu lb_X9_fail_113 (s, l1, l2, l3, r29)))))
def fc_X9_fail_c1 (s : mo_S) (l1 : Int32) (k0 : Int32) (k1 : Int32) : Option (Int32 × mo_S) :=
  (match pm_inb k1 18186 with
  | false => none
  | true =>
  (match f_X9_ofDisk (mo_a s 3 k1 k0) l1 0 with
  | none => none
  | some r18 =>
   (if r18 = (-1) then
    (match f_X9_setDisk (mo_a s 3 k1 k0) l1 0 (-1) with
    | none => none
    | some s21 =>
     (match f_X9_setDisk s21 l1 1 (-1) with
     | none => none
     | some s23 =>
      (pm_loop pm_fu lb_X9_fail_95 (s23, l1, 0, 0))))
   else
    (match f_X9_handle (mo_a s 3 k1 k0) r18 with
    | none => none
    | some s44 =>
     (match f_X9_setDisk s44 l1 0 (-1) with
     | none => none
     | some s46 =>
      (match f_X9_setDisk s46 l1 1 (-1) with
      | none => none
      | some s48 =>
       (pm_loop pm_fu lb_X9_fail_95 (s48, l1, 1, 0))))))))
def f_X9_fail (s : mo_S) (a0 : Int32) : Option (Int32 × mo_S) :=
  (match f_X9_isArray (mo_i s 2 0) with
  | none => none
  | some r1 =>
   (if r1 = 0 then
    (match f_X9_refuse (mo_i s 2 0) 1 with
    | none => none
    | some (r4, s5) =>
     some (r4, s5))
   else
    (match f_X9_disks (mo_i s 2 0) with
    | none => none
    | some r7 =>
     (match f_X9_in (mo_i s 2 0) a0 0 (r7 - 1) with
     | none => none
     | some r9 =>
      (if r9 = 0 then
       (match f_X9_refuse (mo_i s 2 0) 1 with
       | none => none
       | some (r14, s15) =>
        some (r14, s15))
      else
       (match pm_inb 1 18186 with
       | false => none
       | true =>
       (if ((mo_i s 2 0).2.2.1 3 (Int32.toNatClampNeg 1)) = (-1) then
        (fc_X9_fail_c1 (mo_i s 2 0) a0 a0 1)
       else
        (match f_X9_refuse (mo_i s 2 0) 2 with
        | none => none
        | some (r51, s52) =>
         some (r51, s52)))))))))
def tb_X9_fail : List pm_I := [(0, .aload_n 0, 0, 0), (1, .iconst 0, 2, 0), (2, .putfield 45, 161, 0), (5, .aload_n 0, 0, 0), (6, .invokevirtual 51, 254, 0), (9, .ifCond .eq 17, 26, 0), (12, .iload_n 1, 0, 0), (13, .iconst 0, 2, 0), (14, .aload_n 0, 0, 0), (15, .invokevirtual 55, 258, 0), (18, .iconst 1, 3, 0), (19, .isub, 0, 0), (20, .invokestatic 59, 233, 0), (23, .ifCond .ne 9, 32, 0), (26, .aload_n 0, 0, 0), (27, .iconst 1, 3, 0), (28, .invokevirtual 69, 227, 0), (31, .ireturn, 0, 0), (32, .aload_n 0, 0, 0), (33, .getfield 16, 162, 0), (36, .iconst 1, 3, 0), (37, .iaload, 0, 0), (38, .iconst (-1), 1, 0), (39, .if_icmp .eq 9, 48, 0), (42, .aload_n 0, 0, 0), (43, .iconst 2, 4, 0), (44, .invokevirtual 69, 227, 0), (47, .ireturn, 0, 0), (48, .aload_n 0, 0, 0), (49, .getfield 16, 162, 0), (52, .iconst 1, 3, 0), (53, .iload_n 1, 0, 0), (54, .iastore, 0, 0), (55, .iconst 0, 2, 0), (56, .istore_n 2, 0, 0), (57, .aload_n 0, 0, 0), (58, .iload_n 1, 0, 0), (59, .iconst 0, 2, 0), (60, .invokevirtual 353, 298, 0), (63, .iconst (-1), 1, 0), (64, .if_icmp .eq 15, 79, 0), (67, .aload_n 0, 0, 0), (68, .aload_n 0, 0, 0), (69, .iload_n 1, 0, 0), (70, .iconst 0, 2, 0), (71, .invokevirtual 353, 298, 0), (74, .invokevirtual 356, 299, 0), (77, .iconst 1, 3, 0), (78, .istore_n 2, 0, 0), (79, .aload_n 0, 0, 0), (80, .iload_n 1, 0, 0), (81, .iconst 0, 2, 0), (82, .iconst (-1), 1, 0), (83, .invokevirtual 359, 301, 0), (86, .aload_n 0, 0, 0), (87, .iload_n 1, 0, 0), (88, .iconst 1, 3, 0), (89, .iconst (-1), 1, 0), (90, .invokevirtual 359, 301, 0), (93, .iconst 0, 2, 0), (94, .istore_n 3, 0, 0), (95, .iload_n 3, 0, 0), (96, .aload_n 0, 0, 0), (97, .getfield 7, 159, 0), (100, .bipush 6, 8, 0), (102, .iaload, 0, 0), (103, .if_icmp .ge 55, 158, 0), (106, .iload_n 1, 0, 0), (107, .iload_n 3, 0, 0), (108, .invokestatic 251, 284, 0), (111, .istore 4, 0, 0), (113, .aload_n 0, 0, 0), (114, .iload 4, 0, 0), (116, .iconst 0, 2, 0), (117, .invokevirtual 233, 290, 0), (120, .iconst (-1), 1, 0), (121, .if_icmp .eq 31, 152, 0), (124, .aload_n 0, 0, 0), (125, .iload 4, 0, 0), (127, .iconst 0, 2, 0), (128, .invokevirtual 233, 290, 0), (131, .istore 5, 0, 0), (133, .aload_n 0, 0, 0), (134, .iload 4, 0, 0), (136, .invokevirtual 264, 302, 0), (139, .aload_n 0, 0, 0), (140, .iload 5, 0, 0), (142, .invokevirtual 356, 299, 0), (145, .iload_n 2, 0, 0), (146, .iconst 1, 3, 0), (147, .iadd, 0, 0), (148, .istore_n 2, 0, 0), (149, .goto (-36), 113, 0), (152, .iinc 3 1, 3, 0), (155, .goto (-60), 95, 0), (158, .aload_n 0, 0, 0), (159, .invokevirtual 362, 303, 0), (162, .iload_n 2, 0, 0), (163, .ireturn, 0, 0)]
theorem tk_X9_fail : ∀ e ∈ tb_X9_fail, pm_ck 241 e = true := List.all_eq_true.mp (by decide +kernel)
set_option maxRecDepth 20000 in
set_option maxHeartbeats 40000000 in
theorem ll_X9_fail_113 (d : Nat) (hd : 9 ≤ d) (gx : List pm_E) (gs : List (List pm_E)) (q : Nat × Nat × Nat) (r : Int32) (s1 : mo_S) (P : (mo_S × Int32 × Int32 × Int32) ⊕ (Int32 × mo_S) → Prop) (K1 : ∀ (s : mo_S) (l1 : Int32) (l2 : Int32) (l3 : Int32), P (.inl (s, l1, l2, l3)) → pm_Wg 241 d (.inl (some (.int r))) (mo_h gx s1 gs q) (95, [some (.ref 64), some (.int l1), some (.int l2), some (.int l3), none, none], [], mo_h gx s gs q)) (K0 : ∀ e : Int32 × mo_S, P (.inr e) → e = (r, s1)) : ∀ (n : Nat) (s : mo_S) (l1 : Int32) (l2 : Int32) (l3 : Int32) (l4 : Int32) (e : (mo_S × Int32 × Int32 × Int32) ⊕ (Int32 × mo_S)), pm_loop n lb_X9_fail_113 (s, l1, l2, l3, l4) = some e → P e → pm_Wg 241 d (.inl (some (.int r))) (mo_h gx s1 gs q) (113, [some (.ref 64), some (.int l1), some (.int l2), some (.int l3), some (.int l4), none], [], mo_h gx s gs q) := by
  intro n
  induction n with
  | zero => intro s l1 l2 l3 l4 e H; cases H
  | succ n ih =>
    intro s l1 l2 l3 l4 e H hPe
    obtain ⟨d, rfl⟩ : ∃ d', d = d' + 1 := ⟨d - 1, by omega⟩
    have H : pm_lst (pm_loop n lb_X9_fail_113) (lb_X9_fail_113 (s, l1, l2, l3, l4)) = some e := H
    generalize pm_loop n lb_X9_fail_113 = LB at H ih
    unfold lb_X9_fail_113 at H
    try dsimp only at H
    cases q32 : f_X9_ofQueue s l4 0 with
    | none => rw [q32] at H; cases H
    | some r31 =>
     rw [q32] at H
     dsimp only at H
     refine pm_Wg.path (k := 3) (ds := []) (f' := (117, [some (.ref 64), some (.int l1), some (.int l2), some (.int l3), some (.int l4), none], [.int 0, .int l4, .ref 64], mo_h gx s gs q)) tk_X9_fail (by omega) rfl trivial ?_
     refine pm_Wg.callV (m' := 198) (ix := 233) (rr := 290) (pl := 1747) (b := 64) (As := [.int l4, .int 0]) (S := []) (by decide) rfl (pm_dec tk_X9_fail rfl) rfl rfl (by decide) rfl rfl (by decide) (Nat.le_of_ble_eq_true rfl) rfl (e_X9_ofQueue d (by omega) gx gs q _ _ _ _ q32) ?_
     by_cases h33 : r31 = (-1)
     · rw [if_pos h33] at H
       have He := Option.some.inj H
       subst He
       refine pm_Wg.path (k := 4) (ds := [1]) (f' := (95, [some (.ref 64), some (.int l1), some (.int l2), some (.int (l3 + 1)), some (.int l4), none], [], mo_h gx s gs q)) tk_X9_fail (by omega) rfl ⟨h33, trivial⟩ ?_
       refine pm_Wg.weak (L := [some (.ref 64), some (.int l1), some (.int l2), some (.int (l3 + 1)), none, none]) rfl ⟨rfl, rfl, rfl, rfl, trivial⟩ ?_
       exact K1 _ _ _ _ hPe
     · rw [if_neg h33] at H
       refine pm_Wg.path (k := 5) (ds := [0]) (f' := (128, [some (.ref 64), some (.int l1), some (.int l2), some (.int l3), some (.int l4), none], [.int 0, .int l4, .ref 64], mo_h gx s gs q)) tk_X9_fail (by omega) rfl ⟨h33, trivial⟩ ?_
       refine pm_Wg.callV (m' := 198) (ix := 233) (rr := 290) (pl := 1747) (b := 64) (As := [.int l4, .int 0]) (S := []) (by decide) rfl (pm_dec tk_X9_fail rfl) rfl rfl (by decide) rfl rfl (by decide) (Nat.le_of_ble_eq_true rfl) rfl (e_X9_ofQueue d (by omega) gx gs q _ _ _ _ q32) ?_
       cases q37 : f_X9_removeFirst s l4 with
       | none => rw [q37] at H; cases H
       | some s36 =>
        rw [q37] at H
        dsimp only at H
        refine pm_Wg.path (k := 3) (ds := []) (f' := (136, [some (.ref 64), some (.int l1), some (.int l2), some (.int l3), some (.int l4), some (.int r31)], [.int l4, .ref 64], mo_h gx s gs q)) tk_X9_fail (by omega) rfl trivial ?_
        refine pm_Wg.callV (m' := 208) (ix := 264) (rr := 302) (pl := 1796) (b := 64) (As := [.int l4]) (S := []) (by decide) rfl (pm_dec tk_X9_fail rfl) rfl rfl (by decide) rfl rfl (by decide) (Nat.le_of_ble_eq_true rfl) rfl (e_X9_removeFirst d (by omega) gx gs q _ _ _ q37) ?_
        cases q39 : f_X9_handle s36 r31 with
        | none => rw [q39] at H; cases H
        | some s38 =>
         rw [q39] at H
         dsimp only at H
         refine pm_Wg.path (k := 2) (ds := []) (f' := (142, [some (.ref 64), some (.int l1), some (.int l2), some (.int l3), some (.int l4), some (.int r31)], [.int r31, .ref 64], mo_h gx s36 gs q)) tk_X9_fail (by omega) rfl trivial ?_
         refine pm_Wg.callV (m' := 240) (ix := 356) (rr := 299) (pl := 1784) (b := 64) (As := [.int r31]) (S := []) (by decide) rfl (pm_dec tk_X9_fail rfl) rfl rfl (by decide) rfl rfl (by decide) (Nat.le_of_ble_eq_true rfl) rfl (e_X9_handle d (by omega) gx gs q _ _ _ q39) ?_
         refine pm_Wg.path (k := 5) (ds := []) (f' := (113, [some (.ref 64), some (.int l1), some (.int (l2 + 1)), some (.int l3), some (.int l4), some (.int r31)], [], mo_h gx s38 gs q)) tk_X9_fail (by omega) rfl trivial ?_
         refine pm_Wg.weak (L := [some (.ref 64), some (.int l1), some (.int (l2 + 1)), some (.int l3), some (.int l4), none]) rfl ⟨rfl, rfl, rfl, rfl, rfl, trivial⟩ ?_
         exact ih _ _ _ _ _ e H hPe
set_option maxRecDepth 20000 in
set_option maxHeartbeats 40000000 in
theorem ll_X9_fail_95 (d : Nat) (hd : 9 ≤ d) (gx : List pm_E) (gs : List (List pm_E)) (q : Nat × Nat × Nat) (r : Int32) (s1 : mo_S) (P : Int32 × mo_S → Prop) (K0 : ∀ e : Int32 × mo_S, P (e) → e = (r, s1)) : ∀ (n : Nat) (s : mo_S) (l1 : Int32) (l2 : Int32) (l3 : Int32) (e : Int32 × mo_S), pm_loop n lb_X9_fail_95 (s, l1, l2, l3) = some e → P e → pm_Wg 241 d (.inl (some (.int r))) (mo_h gx s1 gs q) (95, [some (.ref 64), some (.int l1), some (.int l2), some (.int l3), none, none], [], mo_h gx s gs q) := by
  intro n
  induction n with
  | zero => intro s l1 l2 l3 e H; cases H
  | succ n ih =>
    intro s l1 l2 l3 e H hPe
    obtain ⟨d, rfl⟩ : ∃ d', d = d' + 1 := ⟨d - 1, by omega⟩
    have H : pm_lst (pm_loop n lb_X9_fail_95) (lb_X9_fail_95 (s, l1, l2, l3)) = some e := H
    generalize pm_loop n lb_X9_fail_95 = LB at H ih
    unfold lb_X9_fail_95 at H
    try dsimp only at H
    cases b25 : pm_inb 6 26 with
    | false => rw [b25] at H; cases H
    | true =>
     rw [b25] at H
     dsimp only at H
     by_cases h26 : (s.2.2.1 0 (Int32.toNatClampNeg 6)) ≤ l3
     · rw [if_pos h26] at H
       cases q28 : f_X9_startStripes s with
       | none => rw [q28] at H; cases H
       | some s27 =>
        rw [q28] at H
        dsimp only at H
        refine pm_Wg.path (k := 7) (ds := [1]) (f' := (159, [some (.ref 64), some (.int l1), some (.int l2), some (.int l3), none, none], [.ref 64], mo_h gx s gs q)) tk_X9_fail (by omega) rfl ⟨h26, pm_inb_vp b25, trivial⟩ ?_
        refine pm_Wg.callV (m' := 232) (ix := 362) (rr := 303) (pl := 1800) (b := 64) (As := []) (S := []) (by decide) rfl (pm_dec tk_X9_fail rfl) rfl rfl (by decide) rfl rfl (by decide) (Nat.le_of_ble_eq_true rfl) rfl (e_X9_startStripes d (by omega) gx gs q _ _ q28) ?_
        have He := Option.some.inj H
        subst He
        have H := K0 _ hPe
        injection H with H1 H2
        subst H1
        subst H2
        refine pm_Wg.path (k := 1) (ds := []) (f' := (163, [some (.ref 64), some (.int l1), some (.int l2), some (.int l3), none, none], [.int l2], mo_h gx s27 gs q)) tk_X9_fail (by omega) rfl trivial ?_
        exact pm_Wg.iret (pm_dec tk_X9_fail rfl) rfl rfl
     · rw [if_neg h26] at H
       cases q30 : f_X9_queueOf s l1 l3 with
       | none => rw [q30] at H; cases H
       | some r29 =>
        rw [q30] at H
        dsimp only at H
        refine pm_Wg.path (k := 8) (ds := [0]) (f' := (108, [some (.ref 64), some (.int l1), some (.int l2), some (.int l3), none, none], [.int l3, .int l1], mo_h gx s gs q)) tk_X9_fail (by omega) rfl ⟨h26, pm_inb_vp b25, trivial⟩ ?_
        refine pm_Wg.callS (m' := 197) (ix := 251) (rr := 284) (pl := 1723) (As := [.int l1, .int l3]) (S := []) (by decide) rfl (pm_dec tk_X9_fail rfl) rfl rfl rfl (Nat.le_of_ble_eq_true rfl) rfl (e_X9_queueOf d (by omega) gx gs q _ _ _ _ q30) ?_
        cases q40 : pm_loop pm_fu lb_X9_fail_113 (s, l1, l2, l3, r29) with
        | none => rw [q40] at H; cases H
        | some e9 =>
         rw [q40] at H
         try dsimp only at H
         refine pm_Wg.path (k := 1) (ds := []) (f' := (113, [some (.ref 64), some (.int l1), some (.int l2), some (.int l3), some (.int r29), none], [], mo_h gx s gs q)) tk_X9_fail (by omega) rfl trivial ?_
         exact ll_X9_fail_113 (d + 1) (by omega) gx gs q r s1 (fun e9 => pm_lst LB (some (e9)) = some e) (fun _ _ _ _ hk => ih _ _ _ _ e hk hPe) (fun e0 hk => K0 e0 (Option.some.inj hk ▸ hPe)) pm_fu _ _ _ _ _ _ q40 H
set_option maxRecDepth 20000 in
set_option maxHeartbeats 20000000 in
theorem ec_X9_fail_c1 (d : Nat) (hd : 9 ≤ d) (gx : List pm_E) (gs : List (List pm_E)) (q : Nat × Nat × Nat) (s : mo_S) (l1 : Int32) (k0 : Int32) (k1 : Int32) (r : Int32) (s1 : mo_S) (H : fc_X9_fail_c1 s l1 k0 k1 = some (r, s1)) : pm_Wg 241 d (.inl (some (.int r))) (mo_h gx s1 gs q) (54, [some (.ref 64), some (.int l1), none, none, none, none], [.int k0, .int k1, .ref 67], mo_h gx s gs q) := by
  obtain ⟨d, rfl⟩ : ∃ d', d = d' + 1 := ⟨d - 1, by omega⟩
  unfold fc_X9_fail_c1 at H
  try dsimp only at H
  cases b17 : pm_inb k1 18186 with
  | false => rw [b17] at H; cases H
  | true =>
   rw [b17] at H
   dsimp only at H
   cases q19 : f_X9_ofDisk (mo_a s 3 k1 k0) l1 0 with
   | none => rw [q19] at H; cases H
   | some r18 =>
    rw [q19] at H
    dsimp only at H
    refine pm_Wg.path (k := 6) (ds := []) (f' := (60, [some (.ref 64), some (.int l1), some (.int 0), none, none, none], [.int 0, .int l1, .ref 64], mo_h gx (mo_a s 3 k1 k0) gs q)) tk_X9_fail (by omega) rfl ⟨pm_inb_vp b17, trivial⟩ ?_
    refine pm_Wg.callV (m' := 195) (ix := 353) (rr := 298) (pl := 1780) (b := 64) (As := [.int l1, .int 0]) (S := []) (by decide) rfl (pm_dec tk_X9_fail rfl) rfl rfl (by decide) rfl rfl (by decide) (Nat.le_of_ble_eq_true rfl) rfl (e_X9_ofDisk d (by omega) gx gs q _ _ _ _ q19) ?_
    by_cases h20 : r18 = (-1)
    · rw [if_pos h20] at H
      cases q22 : f_X9_setDisk (mo_a s 3 k1 k0) l1 0 (-1) with
      | none => rw [q22] at H; cases H
      | some s21 =>
       rw [q22] at H
       dsimp only at H
       refine pm_Wg.path (k := 6) (ds := [1]) (f' := (83, [some (.ref 64), some (.int l1), some (.int 0), none, none, none], [.int (-1), .int 0, .int l1, .ref 64], mo_h gx (mo_a s 3 k1 k0) gs q)) tk_X9_fail (by omega) rfl ⟨h20, trivial⟩ ?_
       refine pm_Wg.callV (m' := 196) (ix := 359) (rr := 301) (pl := 1792) (b := 64) (As := [.int l1, .int 0, .int (-1)]) (S := []) (by decide) rfl (pm_dec tk_X9_fail rfl) rfl rfl (by decide) rfl rfl (by decide) (Nat.le_of_ble_eq_true rfl) rfl (e_X9_setDisk d (by omega) gx gs q _ _ _ _ _ q22) ?_
       cases q24 : f_X9_setDisk s21 l1 1 (-1) with
       | none => rw [q24] at H; cases H
       | some s23 =>
        rw [q24] at H
        dsimp only at H
        refine pm_Wg.path (k := 4) (ds := []) (f' := (90, [some (.ref 64), some (.int l1), some (.int 0), none, none, none], [.int (-1), .int 1, .int l1, .ref 64], mo_h gx s21 gs q)) tk_X9_fail (by omega) rfl trivial ?_
        refine pm_Wg.callV (m' := 196) (ix := 359) (rr := 301) (pl := 1792) (b := 64) (As := [.int l1, .int 1, .int (-1)]) (S := []) (by decide) rfl (pm_dec tk_X9_fail rfl) rfl rfl (by decide) rfl rfl (by decide) (Nat.le_of_ble_eq_true rfl) rfl (e_X9_setDisk d (by omega) gx gs q _ _ _ _ _ q24) ?_
        refine pm_Wg.path (k := 2) (ds := []) (f' := (95, [some (.ref 64), some (.int l1), some (.int 0), some (.int 0), none, none], [], mo_h gx s23 gs q)) tk_X9_fail (by omega) rfl trivial ?_
        exact ll_X9_fail_95 (d + 1) (by omega) gx gs q r s1 (fun e => e = (r, s1)) (fun e he => he) pm_fu _ _ _ _ _ H rfl
    · rw [if_neg h20] at H
      refine pm_Wg.path (k := 6) (ds := [0]) (f' := (71, [some (.ref 64), some (.int l1), some (.int 0), none, none, none], [.int 0, .int l1, .ref 64, .ref 64], mo_h gx (mo_a s 3 k1 k0) gs q)) tk_X9_fail (by omega) rfl ⟨h20, trivial⟩ ?_
      refine pm_Wg.callV (m' := 195) (ix := 353) (rr := 298) (pl := 1780) (b := 64) (As := [.int l1, .int 0]) (S := [.ref 64]) (by decide) rfl (pm_dec tk_X9_fail rfl) rfl rfl (by decide) rfl rfl (by decide) (Nat.le_of_ble_eq_true rfl) rfl (e_X9_ofDisk d (by omega) gx gs q _ _ _ _ q19) ?_
      cases q45 : f_X9_handle (mo_a s 3 k1 k0) r18 with
      | none => rw [q45] at H; cases H
      | some s44 =>
       rw [q45] at H
       dsimp only at H
       refine pm_Wg.callV (m' := 240) (ix := 356) (rr := 299) (pl := 1784) (b := 64) (As := [.int r18]) (S := []) (by decide) rfl (pm_dec tk_X9_fail rfl) rfl rfl (by decide) rfl rfl (by decide) (Nat.le_of_ble_eq_true rfl) rfl (e_X9_handle d (by omega) gx gs q _ _ _ q45) ?_
       cases q47 : f_X9_setDisk s44 l1 0 (-1) with
       | none => rw [q47] at H; cases H
       | some s46 =>
        rw [q47] at H
        dsimp only at H
        refine pm_Wg.path (k := 6) (ds := []) (f' := (83, [some (.ref 64), some (.int l1), some (.int 1), none, none, none], [.int (-1), .int 0, .int l1, .ref 64], mo_h gx s44 gs q)) tk_X9_fail (by omega) rfl trivial ?_
        refine pm_Wg.callV (m' := 196) (ix := 359) (rr := 301) (pl := 1792) (b := 64) (As := [.int l1, .int 0, .int (-1)]) (S := []) (by decide) rfl (pm_dec tk_X9_fail rfl) rfl rfl (by decide) rfl rfl (by decide) (Nat.le_of_ble_eq_true rfl) rfl (e_X9_setDisk d (by omega) gx gs q _ _ _ _ _ q47) ?_
        cases q49 : f_X9_setDisk s46 l1 1 (-1) with
        | none => rw [q49] at H; cases H
        | some s48 =>
         rw [q49] at H
         dsimp only at H
         refine pm_Wg.path (k := 4) (ds := []) (f' := (90, [some (.ref 64), some (.int l1), some (.int 1), none, none, none], [.int (-1), .int 1, .int l1, .ref 64], mo_h gx s46 gs q)) tk_X9_fail (by omega) rfl trivial ?_
         refine pm_Wg.callV (m' := 196) (ix := 359) (rr := 301) (pl := 1792) (b := 64) (As := [.int l1, .int 1, .int (-1)]) (S := []) (by decide) rfl (pm_dec tk_X9_fail rfl) rfl rfl (by decide) rfl rfl (by decide) (Nat.le_of_ble_eq_true rfl) rfl (e_X9_setDisk d (by omega) gx gs q _ _ _ _ _ q49) ?_
         refine pm_Wg.path (k := 2) (ds := []) (f' := (95, [some (.ref 64), some (.int l1), some (.int 1), some (.int 0), none, none], [], mo_h gx s48 gs q)) tk_X9_fail (by omega) rfl trivial ?_
         exact ll_X9_fail_95 (d + 1) (by omega) gx gs q r s1 (fun e => e = (r, s1)) (fun e he => he) pm_fu _ _ _ _ _ H rfl
set_option maxRecDepth 20000 in
set_option maxHeartbeats 20000000 in
theorem e_X9_fail (d : Nat) (hd : 9 ≤ d) (gx : List pm_E) (gs : List (List pm_E)) (q : Nat × Nat × Nat) (s : mo_S) (a0 : Int32) (r : Int32) (s1 : mo_S) (H : f_X9_fail s a0 = some (r, s1)) : pm_Mt 241 d [.ref 64, .int a0] (mo_h gx s gs q) (.inl (some (.int r))) (mo_h gx s1 gs q) := by
  refine pm_Mt.of (by decide) (by decide +kernel) rfl rfl ?_
  obtain ⟨d, rfl⟩ : ∃ d', d = d' + 1 := ⟨d - 1, by omega⟩
  unfold f_X9_fail at H
  cases q2 : f_X9_isArray (mo_i s 2 0) with
  | none => rw [q2] at H; cases H
  | some r1 =>
   rw [q2] at H
   dsimp only at H
   refine pm_Wg.path (k := 4) (ds := []) (f' := (6, [some (.ref 64), some (.int a0), none, none, none, none], [.ref 64], mo_h gx (mo_i s 2 0) gs q)) tk_X9_fail (by omega) rfl trivial ?_
   refine pm_Wg.callV (m' := 149) (ix := 51) (rr := 254) (pl := 1598) (b := 64) (As := []) (S := []) (by decide) rfl (pm_dec tk_X9_fail rfl) rfl rfl (by decide) rfl rfl (by decide) (Nat.le_of_ble_eq_true rfl) rfl (e_X9_isArray d (by omega) gx gs q _ _ q2) ?_
   by_cases h3 : r1 = 0
   · rw [if_pos h3] at H
     cases q6 : f_X9_refuse (mo_i s 2 0) 1 with
     | none => rw [q6] at H; cases H
     | some w =>
      obtain ⟨r4, s5⟩ := w
      rw [q6] at H
      dsimp only at H
      refine pm_Wg.path (k := 3) (ds := [1]) (f' := (28, [some (.ref 64), some (.int a0), none, none, none, none], [.int 1, .ref 64], mo_h gx (mo_i s 2 0) gs q)) tk_X9_fail (by omega) rfl ⟨h3, trivial⟩ ?_
      refine pm_Wg.callV (m' := 145) (ix := 69) (rr := 227) (pl := 1483) (b := 64) (As := [.int 1]) (S := []) (by decide) rfl (pm_dec tk_X9_fail rfl) rfl rfl (by decide) rfl rfl (by decide) (Nat.le_of_ble_eq_true rfl) rfl (e_X9_refuse d (by omega) gx gs q _ _ _ _ q6) ?_
      injection H with H
      injection H with H1 H2
      subst H1
      subst H2
      exact pm_Wg.iret (pm_dec tk_X9_fail rfl) rfl rfl
   · rw [if_neg h3] at H
     cases q8 : f_X9_disks (mo_i s 2 0) with
     | none => rw [q8] at H; cases H
     | some r7 =>
      rw [q8] at H
      dsimp only at H
      refine pm_Wg.path (k := 4) (ds := [0]) (f' := (15, [some (.ref 64), some (.int a0), none, none, none, none], [.ref 64, .int 0, .int a0], mo_h gx (mo_i s 2 0) gs q)) tk_X9_fail (by omega) rfl ⟨h3, trivial⟩ ?_
      refine pm_Wg.callV (m' := 150) (ix := 55) (rr := 258) (pl := 1618) (b := 64) (As := []) (S := [.int 0, .int a0]) (by decide) rfl (pm_dec tk_X9_fail rfl) rfl rfl (by decide) rfl rfl (by decide) (Nat.le_of_ble_eq_true rfl) rfl (e_X9_disks d (by omega) gx gs q _ _ q8) ?_
      cases q10 : f_X9_in (mo_i s 2 0) a0 0 (r7 - 1) with
      | none => rw [q10] at H; cases H
      | some r9 =>
       rw [q10] at H
       dsimp only at H
       refine pm_Wg.path (k := 2) (ds := []) (f' := (20, [some (.ref 64), some (.int a0), none, none, none, none], [.int (r7 - 1), .int 0, .int a0], mo_h gx (mo_i s 2 0) gs q)) tk_X9_fail (by omega) rfl trivial ?_
       refine pm_Wg.callS (m' := 147) (ix := 59) (rr := 233) (pl := 1507) (As := [.int a0, .int 0, .int (r7 - 1)]) (S := []) (by decide) rfl (pm_dec tk_X9_fail rfl) rfl rfl rfl (Nat.le_of_ble_eq_true rfl) rfl (e_X9_in d (by omega) gx gs q _ _ _ _ _ q10) ?_
       by_cases h11 : r9 = 0
       · rw [if_pos h11] at H
         cases q16 : f_X9_refuse (mo_i s 2 0) 1 with
         | none => rw [q16] at H; cases H
         | some w =>
          obtain ⟨r14, s15⟩ := w
          rw [q16] at H
          dsimp only at H
          refine pm_Wg.path (k := 3) (ds := [0]) (f' := (28, [some (.ref 64), some (.int a0), none, none, none, none], [.int 1, .ref 64], mo_h gx (mo_i s 2 0) gs q)) tk_X9_fail (by omega) rfl ⟨h11, trivial⟩ ?_
          refine pm_Wg.callV (m' := 145) (ix := 69) (rr := 227) (pl := 1483) (b := 64) (As := [.int 1]) (S := []) (by decide) rfl (pm_dec tk_X9_fail rfl) rfl rfl (by decide) rfl rfl (by decide) (Nat.le_of_ble_eq_true rfl) rfl (e_X9_refuse d (by omega) gx gs q _ _ _ _ q16) ?_
          injection H with H
          injection H with H1 H2
          subst H1
          subst H2
          exact pm_Wg.iret (pm_dec tk_X9_fail rfl) rfl rfl
       · rw [if_neg h11] at H
         cases b12 : pm_inb 1 18186 with
         | false => rw [b12] at H; cases H
         | true =>
          rw [b12] at H
          dsimp only at H
          by_cases h13 : ((mo_i s 2 0).2.2.1 3 (Int32.toNatClampNeg 1)) = (-1)
          · rw [if_pos h13] at H
            refine pm_Wg.path (k := 11) (ds := [1, 1]) (f' := (54, [some (.ref 64), some (.int a0), none, none, none, none], [.int a0, .int 1, .ref 67], mo_h gx (mo_i s 2 0) gs q)) tk_X9_fail (by omega) rfl ⟨h13, pm_inb_vp b12, h11, trivial⟩ ?_
            exact ec_X9_fail_c1 (d + 1) (by omega) gx gs q _ _ _ _ _ _ H
          · rw [if_neg h13] at H
            cases q53 : f_X9_refuse (mo_i s 2 0) 2 with
            | none => rw [q53] at H; cases H
            | some w =>
             obtain ⟨r51, s52⟩ := w
             rw [q53] at H
             dsimp only at H
             refine pm_Wg.path (k := 9) (ds := [1, 0]) (f' := (44, [some (.ref 64), some (.int a0), none, none, none, none], [.int 2, .ref 64], mo_h gx (mo_i s 2 0) gs q)) tk_X9_fail (by omega) rfl ⟨h13, pm_inb_vp b12, h11, trivial⟩ ?_
             refine pm_Wg.callV (m' := 145) (ix := 69) (rr := 227) (pl := 1483) (b := 64) (As := [.int 2]) (S := []) (by decide) rfl (pm_dec tk_X9_fail rfl) rfl rfl (by decide) rfl rfl (by decide) (Nat.le_of_ble_eq_true rfl) rfl (e_X9_refuse d (by omega) gx gs q _ _ _ _ q53) ?_
             injection H with H
             injection H with H1 H2
             subst H1
             subst H2
             exact pm_Wg.iret (pm_dec tk_X9_fail rfl) rfl rfl

def lb_X9_finishServices_2 (x : mo_S × Int32) : Option ((mo_S × Int32) ⊕ (mo_S)) := match x with
  | (s, l1) =>
   (match f_X9_disks s with
   | none => none
   | some r1 =>
    (if r1 < l1 then
     some (.inr s)
    else
     (match f_X9_ofDisk s l1 0 with
     | none => none
     | some r4 =>
      (if r4 = (-1) then
       some (.inl (s, (l1 + 1)))
      else
       (match f_X9_ofDisk s l1 1 with
       | none => none
       | some r7 =>
        (match pm_inb 0 18186 with
        | false => none
        | true =>
        (if r7 = (s.2.2.1 3 (Int32.toNatClampNeg 0)) then
         (match f_X9_setDisk s l1 0 (-1) with
         | none => none
         | some s11 =>
          (match f_X9_setDisk s11 l1 1 (-1) with
          | none => none
          | some s13 =>
           (match f_X9_finishOperation s13 l1 r4 with
           | none => none
           | some s15 =>
            some (.inl (s15, (l1 + 1))))))
        else
         some (.inl (s, (l1 + 1))))))))))
def f_X9_finishServices (s : mo_S) : Option mo_S :=
  (pm_loop pm_fu lb_X9_finishServices_2 (s, 0))
def tb_X9_finishServices : List pm_I := [(0, .iconst 0, 2, 0), (1, .istore_n 1, 0, 0), (2, .iload_n 1, 0, 0), (3, .aload_n 0, 0, 0), (4, .invokevirtual 55, 258, 0), (7, .if_icmp .gt 56, 63, 0), (10, .aload_n 0, 0, 0), (11, .iload_n 1, 0, 0), (12, .iconst 0, 2, 0), (13, .invokevirtual 353, 298, 0), (16, .istore_n 2, 0, 0), (17, .iload_n 2, 0, 0), (18, .iconst (-1), 1, 0), (19, .if_icmp .eq 38, 57, 0), (22, .aload_n 0, 0, 0), (23, .iload_n 1, 0, 0), (24, .iconst 1, 3, 0), (25, .invokevirtual 353, 298, 0), (28, .aload_n 0, 0, 0), (29, .getfield 16, 162, 0), (32, .iconst 0, 2, 0), (33, .iaload, 0, 0), (34, .if_icmp .ne 23, 57, 0), (37, .aload_n 0, 0, 0), (38, .iload_n 1, 0, 0), (39, .iconst 0, 2, 0), (40, .iconst (-1), 1, 0), (41, .invokevirtual 359, 301, 0), (44, .aload_n 0, 0, 0), (45, .iload_n 1, 0, 0), (46, .iconst 1, 3, 0), (47, .iconst (-1), 1, 0), (48, .invokevirtual 359, 301, 0), (51, .aload_n 0, 0, 0), (52, .iload_n 1, 0, 0), (53, .iload_n 2, 0, 0), (54, .invokevirtual 386, 313, 0), (57, .iinc 1 1, 3, 0), (60, .goto (-58), 2, 0), (63, .return_, 0, 0)]
theorem tk_X9_finishServices : ∀ e ∈ tb_X9_finishServices, pm_ck 249 e = true := List.all_eq_true.mp (by decide +kernel)
set_option maxRecDepth 20000 in
set_option maxHeartbeats 40000000 in
theorem ll_X9_finishServices_2 (d : Nat) (hd : 9 ≤ d) (gx : List pm_E) (gs : List (List pm_E)) (q : Nat × Nat × Nat) (s1 : mo_S) (P : mo_S → Prop) (K0 : ∀ e : mo_S, P (e) → e = s1) : ∀ (n : Nat) (s : mo_S) (l1 : Int32) (e : mo_S), pm_loop n lb_X9_finishServices_2 (s, l1) = some e → P e → pm_Wg 249 d (.inl (none)) (mo_h gx s1 gs q) (2, [some (.ref 64), some (.int l1), none], [], mo_h gx s gs q) := by
  intro n
  induction n with
  | zero => intro s l1 e H; cases H
  | succ n ih =>
    intro s l1 e H hPe
    obtain ⟨d, rfl⟩ : ∃ d', d = d' + 1 := ⟨d - 1, by omega⟩
    have H : pm_lst (pm_loop n lb_X9_finishServices_2) (lb_X9_finishServices_2 (s, l1)) = some e := H
    generalize pm_loop n lb_X9_finishServices_2 = LB at H ih
    unfold lb_X9_finishServices_2 at H
    try dsimp only at H
    cases q2 : f_X9_disks s with
    | none => rw [q2] at H; cases H
    | some r1 =>
     rw [q2] at H
     dsimp only at H
     refine pm_Wg.path (k := 2) (ds := []) (f' := (4, [some (.ref 64), some (.int l1), none], [.ref 64, .int l1], mo_h gx s gs q)) tk_X9_finishServices (by omega) rfl trivial ?_
     refine pm_Wg.callV (m' := 150) (ix := 55) (rr := 258) (pl := 1618) (b := 64) (As := []) (S := [.int l1]) (by decide) rfl (pm_dec tk_X9_finishServices rfl) rfl rfl (by decide) rfl rfl (by decide) (Nat.le_of_ble_eq_true rfl) rfl (e_X9_disks d (by omega) gx gs q _ _ q2) ?_
     by_cases h3 : r1 < l1
     · rw [if_pos h3] at H
       have He := Option.some.inj H
       subst He
       have H := K0 _ hPe
       subst H
       refine pm_Wg.path (k := 1) (ds := [1]) (f' := (63, [some (.ref 64), some (.int l1), none], [], mo_h gx s gs q)) tk_X9_finishServices (by omega) rfl ⟨h3, trivial⟩ ?_
       exact pm_Wg.vret (pm_dec tk_X9_finishServices rfl) rfl
     · rw [if_neg h3] at H
       cases q5 : f_X9_ofDisk s l1 0 with
       | none => rw [q5] at H; cases H
       | some r4 =>
        rw [q5] at H
        dsimp only at H
        refine pm_Wg.path (k := 4) (ds := [0]) (f' := (13, [some (.ref 64), some (.int l1), none], [.int 0, .int l1, .ref 64], mo_h gx s gs q)) tk_X9_finishServices (by omega) rfl ⟨h3, trivial⟩ ?_
        refine pm_Wg.callV (m' := 195) (ix := 353) (rr := 298) (pl := 1780) (b := 64) (As := [.int l1, .int 0]) (S := []) (by decide) rfl (pm_dec tk_X9_finishServices rfl) rfl rfl (by decide) rfl rfl (by decide) (Nat.le_of_ble_eq_true rfl) rfl (e_X9_ofDisk d (by omega) gx gs q _ _ _ _ q5) ?_
        by_cases h6 : r4 = (-1)
        · rw [if_pos h6] at H
          refine pm_Wg.path (k := 6) (ds := [1]) (f' := (2, [some (.ref 64), some (.int (l1 + 1)), some (.int r4)], [], mo_h gx s gs q)) tk_X9_finishServices (by omega) rfl ⟨h6, trivial⟩ ?_
          refine pm_Wg.weak (L := [some (.ref 64), some (.int (l1 + 1)), none]) rfl ⟨rfl, rfl, trivial⟩ ?_
          exact ih _ _ e H hPe
        · rw [if_neg h6] at H
          cases q8 : f_X9_ofDisk s l1 1 with
          | none => rw [q8] at H; cases H
          | some r7 =>
           rw [q8] at H
           dsimp only at H
           refine pm_Wg.path (k := 7) (ds := [0]) (f' := (25, [some (.ref 64), some (.int l1), some (.int r4)], [.int 1, .int l1, .ref 64], mo_h gx s gs q)) tk_X9_finishServices (by omega) rfl ⟨h6, trivial⟩ ?_
           refine pm_Wg.callV (m' := 195) (ix := 353) (rr := 298) (pl := 1780) (b := 64) (As := [.int l1, .int 1]) (S := []) (by decide) rfl (pm_dec tk_X9_finishServices rfl) rfl rfl (by decide) rfl rfl (by decide) (Nat.le_of_ble_eq_true rfl) rfl (e_X9_ofDisk d (by omega) gx gs q _ _ _ _ q8) ?_
           cases b9 : pm_inb 0 18186 with
           | false => rw [b9] at H; cases H
           | true =>
            rw [b9] at H
            dsimp only at H
            by_cases h10 : r7 = (s.2.2.1 3 (Int32.toNatClampNeg 0))
            · rw [if_pos h10] at H
              cases q12 : f_X9_setDisk s l1 0 (-1) with
              | none => rw [q12] at H; cases H
              | some s11 =>
               rw [q12] at H
               dsimp only at H
               refine pm_Wg.path (k := 9) (ds := [0]) (f' := (41, [some (.ref 64), some (.int l1), some (.int r4)], [.int (-1), .int 0, .int l1, .ref 64], mo_h gx s gs q)) tk_X9_finishServices (by omega) rfl ⟨h10, pm_inb_vp b9, trivial⟩ ?_
               refine pm_Wg.callV (m' := 196) (ix := 359) (rr := 301) (pl := 1792) (b := 64) (As := [.int l1, .int 0, .int (-1)]) (S := []) (by decide) rfl (pm_dec tk_X9_finishServices rfl) rfl rfl (by decide) rfl rfl (by decide) (Nat.le_of_ble_eq_true rfl) rfl (e_X9_setDisk d (by omega) gx gs q _ _ _ _ _ q12) ?_
               cases q14 : f_X9_setDisk s11 l1 1 (-1) with
               | none => rw [q14] at H; cases H
               | some s13 =>
                rw [q14] at H
                dsimp only at H
                refine pm_Wg.path (k := 4) (ds := []) (f' := (48, [some (.ref 64), some (.int l1), some (.int r4)], [.int (-1), .int 1, .int l1, .ref 64], mo_h gx s11 gs q)) tk_X9_finishServices (by omega) rfl trivial ?_
                refine pm_Wg.callV (m' := 196) (ix := 359) (rr := 301) (pl := 1792) (b := 64) (As := [.int l1, .int 1, .int (-1)]) (S := []) (by decide) rfl (pm_dec tk_X9_finishServices rfl) rfl rfl (by decide) rfl rfl (by decide) (Nat.le_of_ble_eq_true rfl) rfl (e_X9_setDisk d (by omega) gx gs q _ _ _ _ _ q14) ?_
                cases q16 : f_X9_finishOperation s13 l1 r4 with
                | none => rw [q16] at H; cases H
                | some s15 =>
                 rw [q16] at H
                 dsimp only at H
                 refine pm_Wg.path (k := 3) (ds := []) (f' := (54, [some (.ref 64), some (.int l1), some (.int r4)], [.int r4, .int l1, .ref 64], mo_h gx s13 gs q)) tk_X9_finishServices (by omega) rfl trivial ?_
                 refine pm_Wg.callV (m' := 239) (ix := 386) (rr := 313) (pl := 1840) (b := 64) (As := [.int l1, .int r4]) (S := []) (by decide) rfl (pm_dec tk_X9_finishServices rfl) rfl rfl (by decide) rfl rfl (by decide) (Nat.le_of_ble_eq_true rfl) rfl (e_X9_finishOperation d (by omega) gx gs q _ _ _ _ q16) ?_
                 refine pm_Wg.path (k := 2) (ds := []) (f' := (2, [some (.ref 64), some (.int (l1 + 1)), some (.int r4)], [], mo_h gx s15 gs q)) tk_X9_finishServices (by omega) rfl trivial ?_
                 refine pm_Wg.weak (L := [some (.ref 64), some (.int (l1 + 1)), none]) rfl ⟨rfl, rfl, trivial⟩ ?_
                 exact ih _ _ e H hPe
            · rw [if_neg h10] at H
              refine pm_Wg.path (k := 7) (ds := [1]) (f' := (2, [some (.ref 64), some (.int (l1 + 1)), some (.int r4)], [], mo_h gx s gs q)) tk_X9_finishServices (by omega) rfl ⟨h10, pm_inb_vp b9, trivial⟩ ?_
              refine pm_Wg.weak (L := [some (.ref 64), some (.int (l1 + 1)), none]) rfl ⟨rfl, rfl, trivial⟩ ?_
              exact ih _ _ e H hPe
set_option maxRecDepth 20000 in
set_option maxHeartbeats 20000000 in
theorem e_X9_finishServices (d : Nat) (hd : 9 ≤ d) (gx : List pm_E) (gs : List (List pm_E)) (q : Nat × Nat × Nat) (s : mo_S) (s1 : mo_S) (H : f_X9_finishServices s = some s1) : pm_Mt 249 d [.ref 64] (mo_h gx s gs q) (.inl (none)) (mo_h gx s1 gs q) := by
  refine pm_Mt.of (by decide) (by decide +kernel) rfl rfl ?_
  obtain ⟨d, rfl⟩ : ∃ d', d = d' + 1 := ⟨d - 1, by omega⟩
  unfold f_X9_finishServices at H
  refine pm_Wg.path (k := 2) (ds := []) (f' := (2, [some (.ref 64), some (.int 0), none], [], mo_h gx s gs q)) tk_X9_finishServices (by omega) rfl trivial ?_
  exact ll_X9_finishServices_2 (d + 1) (by omega) gx gs q s1 (fun e => e = s1) (fun e he => he) pm_fu _ _ _ H rfl

def lb_X9_submitLines_0 (x : mo_S) : Option ((mo_S) ⊕ (mo_S)) := match x with
  | s =>
   (match pm_inb 3 18186 with
   | false => none
   | true =>
   (if (s.1 19) ≤ (s.2.2.1 3 (Int32.toNatClampNeg 3)) then
    some (.inr s)
   else
    (match pm_inb (5 * (s.2.2.1 3 (Int32.toNatClampNeg 3))) 500 with
    | false => none
    | true =>
    (match pm_inb 0 18186 with
    | false => none
    | true =>
    (if (s.2.2.1 17 (Int32.toNatClampNeg (5 * (s.2.2.1 3 (Int32.toNatClampNeg 3))))) = (s.2.2.1 3 (Int32.toNatClampNeg 0)) then
     (match pm_inb 2 18186 with
     | false => none
     | true =>
     (if ((mo_a s 3 3 ((s.2.2.1 3 (Int32.toNatClampNeg 3)) + 1)).2.2.1 3 (Int32.toNatClampNeg 2)) = 400 then
      (match pm_inb 4 18186 with
      | false => none
      | true =>
      some (.inl (mo_a (mo_a s 3 3 ((s.2.2.1 3 (Int32.toNatClampNeg 3)) + 1)) 3 4 (((mo_a s 3 3 ((s.2.2.1 3 (Int32.toNatClampNeg 3)) + 1)).2.2.1 3 (Int32.toNatClampNeg 4)) + 1))))
     else
      (match pm_inb ((5 * (s.2.2.1 3 (Int32.toNatClampNeg 3))) + 1) 500 with
      | false => none
      | true =>
      (match pm_inb ((5 * (s.2.2.1 3 (Int32.toNatClampNeg 3))) + 3) 500 with
      | false => none
      | true =>
      (match pm_inb ((5 * (s.2.2.1 3 (Int32.toNatClampNeg 3))) + 2) 500 with
      | false => none
      | true =>
      (match pm_inb ((5 * (s.2.2.1 3 (Int32.toNatClampNeg 3))) + 4) 500 with
      | false => none
      | true =>
      (match f_X9_request (mo_a s 3 3 ((s.2.2.1 3 (Int32.toNatClampNeg 3)) + 1)) ((mo_a s 3 3 ((s.2.2.1 3 (Int32.toNatClampNeg 3)) + 1)).2.2.1 17 (Int32.toNatClampNeg ((5 * (s.2.2.1 3 (Int32.toNatClampNeg 3))) + 1))) ((mo_a s 3 3 ((s.2.2.1 3 (Int32.toNatClampNeg 3)) + 1)).2.2.1 17 (Int32.toNatClampNeg ((5 * (s.2.2.1 3 (Int32.toNatClampNeg 3))) + 3))) ((mo_a s 3 3 ((s.2.2.1 3 (Int32.toNatClampNeg 3)) + 1)).2.2.1 17 (Int32.toNatClampNeg ((5 * (s.2.2.1 3 (Int32.toNatClampNeg 3))) + 2))) ((mo_a s 3 3 ((s.2.2.1 3 (Int32.toNatClampNeg 3)) + 1)).2.2.1 17 (Int32.toNatClampNeg ((5 * (s.2.2.1 3 (Int32.toNatClampNeg 3))) + 4))) with
      | none => none
      | some (r18, s19) =>
       some (.inl s19))))))))
    else
     some (.inr s))))))
def f_X9_submitLines (s : mo_S) : Option mo_S :=
  (pm_loop pm_fu lb_X9_submitLines_0 s)
def tb_X9_submitLines : List pm_I := [(0, .aload_n 0, 0, 0), (1, .getfield 16, 162, 0), (4, .iconst 3, 5, 0), (5, .iaload, 0, 0), (6, .aload_n 0, 0, 0), (7, .getfield 48, 178, 0), (10, .if_icmp .ge 117, 127, 0), (13, .aload_n 0, 0, 0), (14, .getfield 36, 176, 0), (17, .iconst 5, 7, 0), (18, .aload_n 0, 0, 0), (19, .getfield 16, 162, 0), (22, .iconst 3, 5, 0), (23, .iaload, 0, 0), (24, .imul, 0, 0), (25, .iaload, 0, 0), (26, .aload_n 0, 0, 0), (27, .getfield 16, 162, 0), (30, .iconst 0, 2, 0), (31, .iaload, 0, 0), (32, .if_icmp .ne 95, 127, 0), (35, .iconst 5, 7, 0), (36, .aload_n 0, 0, 0), (37, .getfield 16, 162, 0), (40, .iconst 3, 5, 0), (41, .iaload, 0, 0), (42, .imul, 0, 0), (43, .istore_n 1, 0, 0), (44, .aload_n 0, 0, 0), (45, .getfield 16, 162, 0), (48, .iconst 3, 5, 0), (49, .aload_n 0, 0, 0), (50, .getfield 16, 162, 0), (53, .iconst 3, 5, 0), (54, .iaload, 0, 0), (55, .iconst 1, 3, 0), (56, .iadd, 0, 0), (57, .iastore, 0, 0), (58, .aload_n 0, 0, 0), (59, .getfield 16, 162, 0), (62, .iconst 2, 4, 0), (63, .iaload, 0, 0), (64, .sipush 400, 33, 0), (67, .if_icmp .ne 20, 87, 0), (70, .aload_n 0, 0, 0), (71, .getfield 16, 162, 0), (74, .iconst 4, 6, 0), (75, .aload_n 0, 0, 0), (76, .getfield 16, 162, 0), (79, .iconst 4, 6, 0), (80, .iaload, 0, 0), (81, .iconst 1, 3, 0), (82, .iadd, 0, 0), (83, .iastore, 0, 0), (84, .goto 40, 124, 0), (87, .aload_n 0, 0, 0), (88, .aload_n 0, 0, 0), (89, .getfield 36, 176, 0), (92, .iload_n 1, 0, 0), (93, .iconst 1, 3, 0), (94, .iadd, 0, 0), (95, .iaload, 0, 0), (96, .aload_n 0, 0, 0), (97, .getfield 36, 176, 0), (100, .iload_n 1, 0, 0), (101, .iconst 3, 5, 0), (102, .iadd, 0, 0), (103, .iaload, 0, 0), (104, .aload_n 0, 0, 0), (105, .getfield 36, 176, 0), (108, .iload_n 1, 0, 0), (109, .iconst 2, 4, 0), (110, .iadd, 0, 0), (111, .iaload, 0, 0), (112, .aload_n 0, 0, 0), (113, .getfield 36, 176, 0), (116, .iload_n 1, 0, 0), (117, .iconst 4, 6, 0), (118, .iadd, 0, 0), (119, .iaload, 0, 0), (120, .invokevirtual 304, 275, 0), (123, .pop, 0, 0), (124, .goto (-124), 0, 0), (127, .return_, 0, 0)]
theorem tk_X9_submitLines : ∀ e ∈ tb_X9_submitLines, pm_ck 250 e = true := List.all_eq_true.mp (by decide +kernel)
set_option maxRecDepth 20000 in
set_option maxHeartbeats 40000000 in
theorem ll_X9_submitLines_0 (d : Nat) (hd : 9 ≤ d) (gx : List pm_E) (gs : List (List pm_E)) (q : Nat × Nat × Nat) (s1 : mo_S) (P : mo_S → Prop) (K0 : ∀ e : mo_S, P (e) → e = s1) : ∀ (n : Nat) (s : mo_S) (e : mo_S), pm_loop n lb_X9_submitLines_0 s = some e → P e → pm_Wg 250 d (.inl (none)) (mo_h gx s1 gs q) (0, [some (.ref 64), none], [], mo_h gx s gs q) := by
  intro n
  induction n with
  | zero => intro s e H; cases H
  | succ n ih =>
    intro s e H hPe
    obtain ⟨d, rfl⟩ : ∃ d', d = d' + 1 := ⟨d - 1, by omega⟩
    have H : pm_lst (pm_loop n lb_X9_submitLines_0) (lb_X9_submitLines_0 s) = some e := H
    generalize pm_loop n lb_X9_submitLines_0 = LB at H ih
    unfold lb_X9_submitLines_0 at H
    try dsimp only at H
    cases b1 : pm_inb 3 18186 with
    | false => rw [b1] at H; cases H
    | true =>
     rw [b1] at H
     dsimp only at H
     by_cases h2 : (s.1 19) ≤ (s.2.2.1 3 (Int32.toNatClampNeg 3))
     · rw [if_pos h2] at H
       have He := Option.some.inj H
       subst He
       have H := K0 _ hPe
       subst H
       refine pm_Wg.path (k := 7) (ds := [1]) (f' := (127, [some (.ref 64), none], [], mo_h gx s gs q)) tk_X9_submitLines (by omega) rfl ⟨h2, pm_inb_vp b1, trivial⟩ ?_
       exact pm_Wg.vret (pm_dec tk_X9_submitLines rfl) rfl
     · rw [if_neg h2] at H
       cases b4 : pm_inb (5 * (s.2.2.1 3 (Int32.toNatClampNeg 3))) 500 with
       | false => rw [b4] at H; cases H
       | true =>
        rw [b4] at H
        dsimp only at H
        cases b5 : pm_inb 0 18186 with
        | false => rw [b5] at H; cases H
        | true =>
         rw [b5] at H
         dsimp only at H
         by_cases h6 : (s.2.2.1 17 (Int32.toNatClampNeg (5 * (s.2.2.1 3 (Int32.toNatClampNeg 3))))) = (s.2.2.1 3 (Int32.toNatClampNeg 0))
         · rw [if_pos h6] at H
           cases b10 : pm_inb 2 18186 with
           | false => rw [b10] at H; cases H
           | true =>
            rw [b10] at H
            dsimp only at H
            by_cases h11 : ((mo_a s 3 3 ((s.2.2.1 3 (Int32.toNatClampNeg 3)) + 1)).2.2.1 3 (Int32.toNatClampNeg 2)) = 400
            · rw [if_pos h11] at H
              cases b12 : pm_inb 4 18186 with
              | false => rw [b12] at H; cases H
              | true =>
               rw [b12] at H
               dsimp only at H
               refine pm_Wg.path (k := 56) (ds := [0, 0, 0]) (f' := (0, [some (.ref 64), some (.int (5 * (s.2.2.1 3 (Int32.toNatClampNeg 3))))], [], mo_h gx (mo_a (mo_a s 3 3 ((s.2.2.1 3 (Int32.toNatClampNeg 3)) + 1)) 3 4 (((mo_a s 3 3 ((s.2.2.1 3 (Int32.toNatClampNeg 3)) + 1)).2.2.1 3 (Int32.toNatClampNeg 4)) + 1)) gs q)) tk_X9_submitLines (by omega) rfl ⟨pm_inb_vp b12, pm_inb_vp b12, h11, pm_inb_vp b10, pm_inb_vp b1, pm_inb_vp b1, pm_inb_vp b1, h6, pm_inb_vp b5, pm_inb_vp b4, pm_inb_vp b1, h2, pm_inb_vp b1, trivial⟩ ?_
               refine pm_Wg.weak (L := [some (.ref 64), none]) rfl ⟨rfl, trivial⟩ ?_
               exact ih _ e H hPe
            · rw [if_neg h11] at H
              cases b14 : pm_inb ((5 * (s.2.2.1 3 (Int32.toNatClampNeg 3))) + 1) 500 with
              | false => rw [b14] at H; cases H
              | true =>
               rw [b14] at H
               dsimp only at H
               cases b15 : pm_inb ((5 * (s.2.2.1 3 (Int32.toNatClampNeg 3))) + 3) 500 with
               | false => rw [b15] at H; cases H
               | true =>
                rw [b15] at H
                dsimp only at H
                cases b16 : pm_inb ((5 * (s.2.2.1 3 (Int32.toNatClampNeg 3))) + 2) 500 with
                | false => rw [b16] at H; cases H
                | true =>
                 rw [b16] at H
                 dsimp only at H
                 cases b17 : pm_inb ((5 * (s.2.2.1 3 (Int32.toNatClampNeg 3))) + 4) 500 with
                 | false => rw [b17] at H; cases H
                 | true =>
                  rw [b17] at H
                  dsimp only at H
                  cases q20 : f_X9_request (mo_a s 3 3 ((s.2.2.1 3 (Int32.toNatClampNeg 3)) + 1)) ((mo_a s 3 3 ((s.2.2.1 3 (Int32.toNatClampNeg 3)) + 1)).2.2.1 17 (Int32.toNatClampNeg ((5 * (s.2.2.1 3 (Int32.toNatClampNeg 3))) + 1))) ((mo_a s 3 3 ((s.2.2.1 3 (Int32.toNatClampNeg 3)) + 1)).2.2.1 17 (Int32.toNatClampNeg ((5 * (s.2.2.1 3 (Int32.toNatClampNeg 3))) + 3))) ((mo_a s 3 3 ((s.2.2.1 3 (Int32.toNatClampNeg 3)) + 1)).2.2.1 17 (Int32.toNatClampNeg ((5 * (s.2.2.1 3 (Int32.toNatClampNeg 3))) + 2))) ((mo_a s 3 3 ((s.2.2.1 3 (Int32.toNatClampNeg 3)) + 1)).2.2.1 17 (Int32.toNatClampNeg ((5 * (s.2.2.1 3 (Int32.toNatClampNeg 3))) + 4))) with
                  | none => rw [q20] at H; cases H
                  | some w =>
                   obtain ⟨r18, s19⟩ := w
                   rw [q20] at H
                   dsimp only at H
                   refine pm_Wg.path (k := 69) (ds := [0, 0, 1]) (f' := (120, [some (.ref 64), some (.int (5 * (s.2.2.1 3 (Int32.toNatClampNeg 3))))], [.int ((mo_a s 3 3 ((s.2.2.1 3 (Int32.toNatClampNeg 3)) + 1)).2.2.1 17 (Int32.toNatClampNeg ((5 * (s.2.2.1 3 (Int32.toNatClampNeg 3))) + 4))), .int ((mo_a s 3 3 ((s.2.2.1 3 (Int32.toNatClampNeg 3)) + 1)).2.2.1 17 (Int32.toNatClampNeg ((5 * (s.2.2.1 3 (Int32.toNatClampNeg 3))) + 2))), .int ((mo_a s 3 3 ((s.2.2.1 3 (Int32.toNatClampNeg 3)) + 1)).2.2.1 17 (Int32.toNatClampNeg ((5 * (s.2.2.1 3 (Int32.toNatClampNeg 3))) + 3))), .int ((mo_a s 3 3 ((s.2.2.1 3 (Int32.toNatClampNeg 3)) + 1)).2.2.1 17 (Int32.toNatClampNeg ((5 * (s.2.2.1 3 (Int32.toNatClampNeg 3))) + 1))), .ref 64], mo_h gx (mo_a s 3 3 ((s.2.2.1 3 (Int32.toNatClampNeg 3)) + 1)) gs q)) tk_X9_submitLines (by omega) rfl ⟨pm_inb_vp b17, pm_inb_vp b16, pm_inb_vp b15, pm_inb_vp b14, h11, pm_inb_vp b10, pm_inb_vp b1, pm_inb_vp b1, pm_inb_vp b1, h6, pm_inb_vp b5, pm_inb_vp b4, pm_inb_vp b1, h2, pm_inb_vp b1, trivial⟩ ?_
                   refine pm_Wg.callV (m' := 223) (ix := 304) (rr := 275) (pl := 1687) (b := 64) (As := [.int ((mo_a s 3 3 ((s.2.2.1 3 (Int32.toNatClampNeg 3)) + 1)).2.2.1 17 (Int32.toNatClampNeg ((5 * (s.2.2.1 3 (Int32.toNatClampNeg 3))) + 1))), .int ((mo_a s 3 3 ((s.2.2.1 3 (Int32.toNatClampNeg 3)) + 1)).2.2.1 17 (Int32.toNatClampNeg ((5 * (s.2.2.1 3 (Int32.toNatClampNeg 3))) + 3))), .int ((mo_a s 3 3 ((s.2.2.1 3 (Int32.toNatClampNeg 3)) + 1)).2.2.1 17 (Int32.toNatClampNeg ((5 * (s.2.2.1 3 (Int32.toNatClampNeg 3))) + 2))), .int ((mo_a s 3 3 ((s.2.2.1 3 (Int32.toNatClampNeg 3)) + 1)).2.2.1 17 (Int32.toNatClampNeg ((5 * (s.2.2.1 3 (Int32.toNatClampNeg 3))) + 4)))]) (S := []) (by decide) rfl (pm_dec tk_X9_submitLines rfl) rfl rfl (by decide) rfl rfl (by decide) (Nat.le_of_ble_eq_true rfl) rfl (e_X9_request d (by omega) gx gs q _ _ _ _ _ _ _ q20) ?_
                   refine pm_Wg.path (k := 2) (ds := []) (f' := (0, [some (.ref 64), some (.int (5 * (s.2.2.1 3 (Int32.toNatClampNeg 3))))], [], mo_h gx s19 gs q)) tk_X9_submitLines (by omega) rfl trivial ?_
                   refine pm_Wg.weak (L := [some (.ref 64), none]) rfl ⟨rfl, trivial⟩ ?_
                   exact ih _ e H hPe
         · rw [if_neg h6] at H
           have He := Option.some.inj H
           subst He
           have H := K0 _ hPe
           subst H
           refine pm_Wg.path (k := 21) (ds := [0, 1]) (f' := (127, [some (.ref 64), none], [], mo_h gx s gs q)) tk_X9_submitLines (by omega) rfl ⟨h6, pm_inb_vp b5, pm_inb_vp b4, pm_inb_vp b1, h2, pm_inb_vp b1, trivial⟩ ?_
           exact pm_Wg.vret (pm_dec tk_X9_submitLines rfl) rfl
set_option maxRecDepth 20000 in
set_option maxHeartbeats 20000000 in
theorem e_X9_submitLines (d : Nat) (hd : 9 ≤ d) (gx : List pm_E) (gs : List (List pm_E)) (q : Nat × Nat × Nat) (s : mo_S) (s1 : mo_S) (H : f_X9_submitLines s = some s1) : pm_Mt 250 d [.ref 64] (mo_h gx s gs q) (.inl (none)) (mo_h gx s1 gs q) := by
  refine pm_Mt.of (by decide) (by decide +kernel) rfl rfl ?_
  obtain ⟨d, rfl⟩ : ∃ d', d = d' + 1 := ⟨d - 1, by omega⟩
  unfold f_X9_submitLines at H
  exact ll_X9_submitLines_0 (d + 1) (by omega) gx gs q s1 (fun e => e = s1) (fun e he => he) pm_fu _ _ H rfl

def lb_X9_passTick_38 (x : mo_S × Int32) : Option ((mo_S × Int32) ⊕ (mo_S)) := match x with
  | (s, l1) =>
   (match f_X9_disks s with
   | none => none
   | some r9 =>
    (if r9 < l1 then
     some (.inr s)
    else
     (match f_X9_ofDisk s l1 0 with
     | none => none
     | some r12 =>
      (if r12 = (-1) then
       (match pm_inb 1 18186 with
       | false => none
       | true =>
       (if l1 = (s.2.2.1 3 (Int32.toNatClampNeg 1)) then
        some (.inl (s, (l1 + 1)))
       else
        (match f_X9_choose s l1 with
        | none => none
        | some s17 =>
         some (.inl (s17, (l1 + 1))))))
      else
       some (.inl (s, (l1 + 1)))))))
def f_X9_passTick (s : mo_S) : Option mo_S :=
  (match pm_inb 0 18186 with
  | false => none
  | true =>
  (match f_X9_finishServices (mo_a s 3 0 ((s.2.2.1 3 (Int32.toNatClampNeg 0)) + 1)) with
  | none => none
  | some s3 =>
   (match f_X9_submitLines s3 with
   | none => none
   | some s5 =>
    (match pm_inb 1 18186 with
    | false => none
    | true =>
    (if (s5.2.2.1 3 (Int32.toNatClampNeg 1)) = (-1) then
     (pm_loop pm_fu lb_X9_passTick_38 (s5, 0))
    else
     (match f_X9_startStripes s5 with
     | none => none
     | some s20 =>
      (pm_loop pm_fu lb_X9_passTick_38 (s20, 0))))))))
def tb_X9_passTick : List pm_I := [(0, .aload_n 0, 0, 0), (1, .getfield 16, 162, 0), (4, .iconst 0, 2, 0), (5, .aload_n 0, 0, 0), (6, .getfield 16, 162, 0), (9, .iconst 0, 2, 0), (10, .iaload, 0, 0), (11, .iconst 1, 3, 0), (12, .iadd, 0, 0), (13, .iastore, 0, 0), (14, .aload_n 0, 0, 0), (15, .invokevirtual 389, 312, 0), (18, .aload_n 0, 0, 0), (19, .invokevirtual 392, 322, 0), (22, .aload_n 0, 0, 0), (23, .getfield 16, 162, 0), (26, .iconst 1, 3, 0), (27, .iaload, 0, 0), (28, .iconst (-1), 1, 0), (29, .if_icmp .eq 7, 36, 0), (32, .aload_n 0, 0, 0), (33, .invokevirtual 362, 303, 0), (36, .iconst 0, 2, 0), (37, .istore_n 1, 0, 0), (38, .iload_n 1, 0, 0), (39, .aload_n 0, 0, 0), (40, .invokevirtual 55, 258, 0), (43, .if_icmp .gt 34, 77, 0), (46, .aload_n 0, 0, 0), (47, .iload_n 1, 0, 0), (48, .iconst 0, 2, 0), (49, .invokevirtual 353, 298, 0), (52, .iconst (-1), 1, 0), (53, .if_icmp .ne 18, 71, 0), (56, .iload_n 1, 0, 0), (57, .aload_n 0, 0, 0), (58, .getfield 16, 162, 0), (61, .iconst 1, 3, 0), (62, .iaload, 0, 0), (63, .if_icmp .eq 8, 71, 0), (66, .aload_n 0, 0, 0), (67, .iload_n 1, 0, 0), (68, .invokevirtual 395, 323, 0), (71, .iinc 1 1, 3, 0), (74, .goto (-36), 38, 0), (77, .return_, 0, 0)]
theorem tk_X9_passTick : ∀ e ∈ tb_X9_passTick, pm_ck 251 e = true := List.all_eq_true.mp (by decide +kernel)
set_option maxRecDepth 20000 in
set_option maxHeartbeats 40000000 in
theorem ll_X9_passTick_38 (d : Nat) (hd : 10 ≤ d) (gx : List pm_E) (gs : List (List pm_E)) (q : Nat × Nat × Nat) (s1 : mo_S) (P : mo_S → Prop) (K0 : ∀ e : mo_S, P (e) → e = s1) : ∀ (n : Nat) (s : mo_S) (l1 : Int32) (e : mo_S), pm_loop n lb_X9_passTick_38 (s, l1) = some e → P e → pm_Wg 251 d (.inl (none)) (mo_h gx s1 gs q) (38, [some (.ref 64), some (.int l1)], [], mo_h gx s gs q) := by
  intro n
  induction n with
  | zero => intro s l1 e H; cases H
  | succ n ih =>
    intro s l1 e H hPe
    obtain ⟨d, rfl⟩ : ∃ d', d = d' + 1 := ⟨d - 1, by omega⟩
    have H : pm_lst (pm_loop n lb_X9_passTick_38) (lb_X9_passTick_38 (s, l1)) = some e := H
    generalize pm_loop n lb_X9_passTick_38 = LB at H ih
    unfold lb_X9_passTick_38 at H
    try dsimp only at H
    cases q10 : f_X9_disks s with
    | none => rw [q10] at H; cases H
    | some r9 =>
     rw [q10] at H
     dsimp only at H
     refine pm_Wg.path (k := 2) (ds := []) (f' := (40, [some (.ref 64), some (.int l1)], [.ref 64, .int l1], mo_h gx s gs q)) tk_X9_passTick (by omega) rfl trivial ?_
     refine pm_Wg.callV (m' := 150) (ix := 55) (rr := 258) (pl := 1618) (b := 64) (As := []) (S := [.int l1]) (by decide) rfl (pm_dec tk_X9_passTick rfl) rfl rfl (by decide) rfl rfl (by decide) (Nat.le_of_ble_eq_true rfl) rfl (e_X9_disks d (by omega) gx gs q _ _ q10) ?_
     by_cases h11 : r9 < l1
     · rw [if_pos h11] at H
       have He := Option.some.inj H
       subst He
       have H := K0 _ hPe
       subst H
       refine pm_Wg.path (k := 1) (ds := [1]) (f' := (77, [some (.ref 64), some (.int l1)], [], mo_h gx s gs q)) tk_X9_passTick (by omega) rfl ⟨h11, trivial⟩ ?_
       exact pm_Wg.vret (pm_dec tk_X9_passTick rfl) rfl
     · rw [if_neg h11] at H
       cases q13 : f_X9_ofDisk s l1 0 with
       | none => rw [q13] at H; cases H
       | some r12 =>
        rw [q13] at H
        dsimp only at H
        refine pm_Wg.path (k := 4) (ds := [0]) (f' := (49, [some (.ref 64), some (.int l1)], [.int 0, .int l1, .ref 64], mo_h gx s gs q)) tk_X9_passTick (by omega) rfl ⟨h11, trivial⟩ ?_
        refine pm_Wg.callV (m' := 195) (ix := 353) (rr := 298) (pl := 1780) (b := 64) (As := [.int l1, .int 0]) (S := []) (by decide) rfl (pm_dec tk_X9_passTick rfl) rfl rfl (by decide) rfl rfl (by decide) (Nat.le_of_ble_eq_true rfl) rfl (e_X9_ofDisk d (by omega) gx gs q _ _ _ _ q13) ?_
        by_cases h14 : r12 = (-1)
        · rw [if_pos h14] at H
          cases b15 : pm_inb 1 18186 with
          | false => rw [b15] at H; cases H
          | true =>
           rw [b15] at H
           dsimp only at H
           by_cases h16 : l1 = (s.2.2.1 3 (Int32.toNatClampNeg 1))
           · rw [if_pos h16] at H
             refine pm_Wg.path (k := 10) (ds := [0, 1]) (f' := (38, [some (.ref 64), some (.int (l1 + 1))], [], mo_h gx s gs q)) tk_X9_passTick (by omega) rfl ⟨h16, pm_inb_vp b15, h14, trivial⟩ ?_
             exact ih _ _ e H hPe
           · rw [if_neg h16] at H
             cases q18 : f_X9_choose s l1 with
             | none => rw [q18] at H; cases H
             | some s17 =>
              rw [q18] at H
              dsimp only at H
              refine pm_Wg.path (k := 10) (ds := [0, 0]) (f' := (68, [some (.ref 64), some (.int l1)], [.int l1, .ref 64], mo_h gx s gs q)) tk_X9_passTick (by omega) rfl ⟨h16, pm_inb_vp b15, h14, trivial⟩ ?_
              refine pm_Wg.callV (m' := 248) (ix := 395) (rr := 323) (pl := 1880) (b := 64) (As := [.int l1]) (S := []) (by decide) rfl (pm_dec tk_X9_passTick rfl) rfl rfl (by decide) rfl rfl (by decide) (Nat.le_of_ble_eq_true rfl) rfl (e_X9_choose d (by omega) gx gs q _ _ _ q18) ?_
              refine pm_Wg.path (k := 2) (ds := []) (f' := (38, [some (.ref 64), some (.int (l1 + 1))], [], mo_h gx s17 gs q)) tk_X9_passTick (by omega) rfl trivial ?_
              exact ih _ _ e H hPe
        · rw [if_neg h14] at H
          refine pm_Wg.path (k := 4) (ds := [1]) (f' := (38, [some (.ref 64), some (.int (l1 + 1))], [], mo_h gx s gs q)) tk_X9_passTick (by omega) rfl ⟨h14, trivial⟩ ?_
          exact ih _ _ e H hPe
set_option maxRecDepth 20000 in
set_option maxHeartbeats 20000000 in
theorem e_X9_passTick (d : Nat) (hd : 10 ≤ d) (gx : List pm_E) (gs : List (List pm_E)) (q : Nat × Nat × Nat) (s : mo_S) (s1 : mo_S) (H : f_X9_passTick s = some s1) : pm_Mt 251 d [.ref 64] (mo_h gx s gs q) (.inl (none)) (mo_h gx s1 gs q) := by
  refine pm_Mt.of (by decide) (by decide +kernel) rfl rfl ?_
  obtain ⟨d, rfl⟩ : ∃ d', d = d' + 1 := ⟨d - 1, by omega⟩
  unfold f_X9_passTick at H
  cases b1 : pm_inb 0 18186 with
  | false => rw [b1] at H; cases H
  | true =>
   rw [b1] at H
   dsimp only at H
   cases q4 : f_X9_finishServices (mo_a s 3 0 ((s.2.2.1 3 (Int32.toNatClampNeg 0)) + 1)) with
   | none => rw [q4] at H; cases H
   | some s3 =>
    rw [q4] at H
    dsimp only at H
    refine pm_Wg.path (k := 11) (ds := []) (f' := (15, [some (.ref 64), none], [.ref 64], mo_h gx (mo_a s 3 0 ((s.2.2.1 3 (Int32.toNatClampNeg 0)) + 1)) gs q)) tk_X9_passTick (by omega) rfl ⟨pm_inb_vp b1, pm_inb_vp b1, trivial⟩ ?_
    refine pm_Wg.callV (m' := 249) (ix := 389) (rr := 312) (pl := 1836) (b := 64) (As := []) (S := []) (by decide) rfl (pm_dec tk_X9_passTick rfl) rfl rfl (by decide) rfl rfl (by decide) (Nat.le_of_ble_eq_true rfl) rfl (e_X9_finishServices d (by omega) gx gs q _ _ q4) ?_
    cases q6 : f_X9_submitLines s3 with
    | none => rw [q6] at H; cases H
    | some s5 =>
     rw [q6] at H
     dsimp only at H
     refine pm_Wg.path (k := 1) (ds := []) (f' := (19, [some (.ref 64), none], [.ref 64], mo_h gx s3 gs q)) tk_X9_passTick (by omega) rfl trivial ?_
     refine pm_Wg.callV (m' := 250) (ix := 392) (rr := 322) (pl := 1876) (b := 64) (As := []) (S := []) (by decide) rfl (pm_dec tk_X9_passTick rfl) rfl rfl (by decide) rfl rfl (by decide) (Nat.le_of_ble_eq_true rfl) rfl (e_X9_submitLines d (by omega) gx gs q _ _ q6) ?_
     cases b7 : pm_inb 1 18186 with
     | false => rw [b7] at H; cases H
     | true =>
      rw [b7] at H
      dsimp only at H
      by_cases h8 : (s5.2.2.1 3 (Int32.toNatClampNeg 1)) = (-1)
      · rw [if_pos h8] at H
        refine pm_Wg.path (k := 8) (ds := [1]) (f' := (38, [some (.ref 64), some (.int 0)], [], mo_h gx s5 gs q)) tk_X9_passTick (by omega) rfl ⟨h8, pm_inb_vp b7, trivial⟩ ?_
        exact ll_X9_passTick_38 (d + 1) (by omega) gx gs q s1 (fun e => e = s1) (fun e he => he) pm_fu _ _ _ H rfl
      · rw [if_neg h8] at H
        cases q21 : f_X9_startStripes s5 with
        | none => rw [q21] at H; cases H
        | some s20 =>
         rw [q21] at H
         dsimp only at H
         refine pm_Wg.path (k := 7) (ds := [0]) (f' := (33, [some (.ref 64), none], [.ref 64], mo_h gx s5 gs q)) tk_X9_passTick (by omega) rfl ⟨h8, pm_inb_vp b7, trivial⟩ ?_
         refine pm_Wg.callV (m' := 232) (ix := 362) (rr := 303) (pl := 1800) (b := 64) (As := []) (S := []) (by decide) rfl (pm_dec tk_X9_passTick rfl) rfl rfl (by decide) rfl rfl (by decide) (Nat.le_of_ble_eq_true rfl) rfl (e_X9_startStripes d (by omega) gx gs q _ _ q21) ?_
         refine pm_Wg.path (k := 2) (ds := []) (f' := (38, [some (.ref 64), some (.int 0)], [], mo_h gx s20 gs q)) tk_X9_passTick (by omega) rfl trivial ?_
         exact ll_X9_passTick_38 (d + 1) (by omega) gx gs q s1 (fun e => e = s1) (fun e he => he) pm_fu _ _ _ H rfl

def lb_X9_advance_50 (x : mo_S × Int32 × Int32) : Option ((mo_S × Int32 × Int32) ⊕ (Int32 × mo_S)) := match x with
  | (s, l1, l2) =>
   (if l1 ≤ l2 then
    (match pm_inb 0 18186 with
    | false => none
    | true =>
    some (.inr ((s.2.2.1 3 (Int32.toNatClampNeg 0)), s)))
   else
    (match f_X9_passTick s with
    | none => none
    | some s17 =>
     some (.inl (s17, l1, (l2 + 1)))))
def f_X9_advance (s : mo_S) (a0 : Int32) : Option (Int32 × mo_S) :=
  (match f_X9_in (mo_i s 2 0) a0 1 2000 with
  | none => none
  | some r1 =>
   (if r1 = 0 then
    (match f_X9_refuse (mo_i s 2 0) 1 with
    | none => none
    | some (r6, s7) =>
     some (r6, s7))
   else
    (match pm_inb 0 18186 with
    | false => none
    | true =>
    (if (((mo_i s 2 0).2.2.1 3 (Int32.toNatClampNeg 0)) + a0) ≤ 99999 then
     (match f_X9_isArray (mo_i s 2 0) with
     | none => none
     | some r9 =>
      (if r9 = 0 then
       (match f_X9_refuse (mo_i s 2 0) 2 with
       | none => none
       | some (r12, s13) =>
        some (r12, s13))
      else
       (pm_loop pm_fu lb_X9_advance_50 ((mo_i s 2 0), a0, 0))))
    else
     (match f_X9_refuse (mo_i s 2 0) 1 with
     | none => none
     | some (r20, s21) =>
      some (r20, s21))))))
def tb_X9_advance : List pm_I := [(0, .aload_n 0, 0, 0), (1, .iconst 0, 2, 0), (2, .putfield 45, 161, 0), (5, .iload_n 1, 0, 0), (6, .iconst 1, 3, 0), (7, .sipush 2000, 40, 0), (10, .invokestatic 59, 233, 0), (13, .ifCond .eq 16, 29, 0), (16, .aload_n 0, 0, 0), (17, .getfield 16, 162, 0), (20, .iconst 0, 2, 0), (21, .iaload, 0, 0), (22, .iload_n 1, 0, 0), (23, .iadd, 0, 0), (24, .ldc 188, 7, 0), (26, .if_icmp .le 9, 35, 0), (29, .aload_n 0, 0, 0), (30, .iconst 1, 3, 0), (31, .invokevirtual 69, 227, 0), (34, .ireturn, 0, 0), (35, .aload_n 0, 0, 0), (36, .invokevirtual 51, 254, 0), (39, .ifCond .ne 9, 48, 0), (42, .aload_n 0, 0, 0), (43, .iconst 2, 4, 0), (44, .invokevirtual 69, 227, 0), (47, .ireturn, 0, 0), (48, .iconst 0, 2, 0), (49, .istore_n 2, 0, 0), (50, .iload_n 2, 0, 0), (51, .iload_n 1, 0, 0), (52, .if_icmp .ge 13, 65, 0), (55, .aload_n 0, 0, 0), (56, .invokevirtual 398, 311, 0), (59, .iinc 2 1, 3, 0), (62, .goto (-12), 50, 0), (65, .aload_n 0, 0, 0), (66, .getfield 16, 162, 0), (69, .iconst 0, 2, 0), (70, .iaload, 0, 0), (71, .ireturn, 0, 0)]
theorem tk_X9_advance : ∀ e ∈ tb_X9_advance, pm_ck 252 e = true := List.all_eq_true.mp (by decide +kernel)
set_option maxRecDepth 20000 in
set_option maxHeartbeats 40000000 in
theorem ll_X9_advance_50 (d : Nat) (hd : 11 ≤ d) (gx : List pm_E) (gs : List (List pm_E)) (q : Nat × Nat × Nat) (r : Int32) (s1 : mo_S) (P : Int32 × mo_S → Prop) (K0 : ∀ e : Int32 × mo_S, P (e) → e = (r, s1)) : ∀ (n : Nat) (s : mo_S) (l1 : Int32) (l2 : Int32) (e : Int32 × mo_S), pm_loop n lb_X9_advance_50 (s, l1, l2) = some e → P e → pm_Wg 252 d (.inl (some (.int r))) (mo_h gx s1 gs q) (50, [some (.ref 64), some (.int l1), some (.int l2)], [], mo_h gx s gs q) := by
  intro n
  induction n with
  | zero => intro s l1 l2 e H; cases H
  | succ n ih =>
    intro s l1 l2 e H hPe
    obtain ⟨d, rfl⟩ : ∃ d', d = d' + 1 := ⟨d - 1, by omega⟩
    have H : pm_lst (pm_loop n lb_X9_advance_50) (lb_X9_advance_50 (s, l1, l2)) = some e := H
    generalize pm_loop n lb_X9_advance_50 = LB at H ih
    unfold lb_X9_advance_50 at H
    try dsimp only at H
    by_cases h15 : l1 ≤ l2
    · rw [if_pos h15] at H
      cases b16 : pm_inb 0 18186 with
      | false => rw [b16] at H; cases H
      | true =>
       rw [b16] at H
       dsimp only at H
       have He := Option.some.inj H
       subst He
       have H := K0 _ hPe
       injection H with H1 H2
       subst H1
       subst H2
       refine pm_Wg.path (k := 7) (ds := [1]) (f' := (71, [some (.ref 64), some (.int l1), some (.int l2)], [.int (s.2.2.1 3 (Int32.toNatClampNeg 0))], mo_h gx s gs q)) tk_X9_advance (by omega) rfl ⟨pm_inb_vp b16, h15, trivial⟩ ?_
       exact pm_Wg.iret (pm_dec tk_X9_advance rfl) rfl rfl
    · rw [if_neg h15] at H
      cases q18 : f_X9_passTick s with
      | none => rw [q18] at H; cases H
      | some s17 =>
       rw [q18] at H
       dsimp only at H
       refine pm_Wg.path (k := 4) (ds := [0]) (f' := (56, [some (.ref 64), some (.int l1), some (.int l2)], [.ref 64], mo_h gx s gs q)) tk_X9_advance (by omega) rfl ⟨h15, trivial⟩ ?_
       refine pm_Wg.callV (m' := 251) (ix := 398) (rr := 311) (pl := 1832) (b := 64) (As := []) (S := []) (by decide) rfl (pm_dec tk_X9_advance rfl) rfl rfl (by decide) rfl rfl (by decide) (Nat.le_of_ble_eq_true rfl) rfl (e_X9_passTick d (by omega) gx gs q _ _ q18) ?_
       refine pm_Wg.path (k := 2) (ds := []) (f' := (50, [some (.ref 64), some (.int l1), some (.int (l2 + 1))], [], mo_h gx s17 gs q)) tk_X9_advance (by omega) rfl trivial ?_
       exact ih _ _ _ e H hPe
set_option maxRecDepth 20000 in
set_option maxHeartbeats 20000000 in
theorem e_X9_advance (d : Nat) (hd : 11 ≤ d) (gx : List pm_E) (gs : List (List pm_E)) (q : Nat × Nat × Nat) (s : mo_S) (a0 : Int32) (r : Int32) (s1 : mo_S) (H : f_X9_advance s a0 = some (r, s1)) : pm_Mt 252 d [.ref 64, .int a0] (mo_h gx s gs q) (.inl (some (.int r))) (mo_h gx s1 gs q) := by
  refine pm_Mt.of (by decide) (by decide +kernel) rfl rfl ?_
  obtain ⟨d, rfl⟩ : ∃ d', d = d' + 1 := ⟨d - 1, by omega⟩
  unfold f_X9_advance at H
  cases q2 : f_X9_in (mo_i s 2 0) a0 1 2000 with
  | none => rw [q2] at H; cases H
  | some r1 =>
   rw [q2] at H
   dsimp only at H
   refine pm_Wg.path (k := 6) (ds := []) (f' := (10, [some (.ref 64), some (.int a0), none], [.int 2000, .int 1, .int a0], mo_h gx (mo_i s 2 0) gs q)) tk_X9_advance (by omega) rfl trivial ?_
   refine pm_Wg.callS (m' := 147) (ix := 59) (rr := 233) (pl := 1507) (As := [.int a0, .int 1, .int 2000]) (S := []) (by decide) rfl (pm_dec tk_X9_advance rfl) rfl rfl rfl (Nat.le_of_ble_eq_true rfl) rfl (e_X9_in d (by omega) gx gs q _ _ _ _ _ q2) ?_
   by_cases h3 : r1 = 0
   · rw [if_pos h3] at H
     cases q8 : f_X9_refuse (mo_i s 2 0) 1 with
     | none => rw [q8] at H; cases H
     | some w =>
      obtain ⟨r6, s7⟩ := w
      rw [q8] at H
      dsimp only at H
      refine pm_Wg.path (k := 3) (ds := [1]) (f' := (31, [some (.ref 64), some (.int a0), none], [.int 1, .ref 64], mo_h gx (mo_i s 2 0) gs q)) tk_X9_advance (by omega) rfl ⟨h3, trivial⟩ ?_
      refine pm_Wg.callV (m' := 145) (ix := 69) (rr := 227) (pl := 1483) (b := 64) (As := [.int 1]) (S := []) (by decide) rfl (pm_dec tk_X9_advance rfl) rfl rfl (by decide) rfl rfl (by decide) (Nat.le_of_ble_eq_true rfl) rfl (e_X9_refuse d (by omega) gx gs q _ _ _ _ q8) ?_
      injection H with H
      injection H with H1 H2
      subst H1
      subst H2
      exact pm_Wg.iret (pm_dec tk_X9_advance rfl) rfl rfl
   · rw [if_neg h3] at H
     cases b4 : pm_inb 0 18186 with
     | false => rw [b4] at H; cases H
     | true =>
      rw [b4] at H
      dsimp only at H
      by_cases h5 : (((mo_i s 2 0).2.2.1 3 (Int32.toNatClampNeg 0)) + a0) ≤ 99999
      · rw [if_pos h5] at H
        cases q10 : f_X9_isArray (mo_i s 2 0) with
        | none => rw [q10] at H; cases H
        | some r9 =>
         rw [q10] at H
         dsimp only at H
         refine pm_Wg.path (k := 10) (ds := [0, 1]) (f' := (36, [some (.ref 64), some (.int a0), none], [.ref 64], mo_h gx (mo_i s 2 0) gs q)) tk_X9_advance (by omega) rfl ⟨h5, pm_inb_vp b4, h3, trivial⟩ ?_
         refine pm_Wg.callV (m' := 149) (ix := 51) (rr := 254) (pl := 1598) (b := 64) (As := []) (S := []) (by decide) rfl (pm_dec tk_X9_advance rfl) rfl rfl (by decide) rfl rfl (by decide) (Nat.le_of_ble_eq_true rfl) rfl (e_X9_isArray d (by omega) gx gs q _ _ q10) ?_
         by_cases h11 : r9 = 0
         · rw [if_pos h11] at H
           cases q14 : f_X9_refuse (mo_i s 2 0) 2 with
           | none => rw [q14] at H; cases H
           | some w =>
            obtain ⟨r12, s13⟩ := w
            rw [q14] at H
            dsimp only at H
            refine pm_Wg.path (k := 3) (ds := [0]) (f' := (44, [some (.ref 64), some (.int a0), none], [.int 2, .ref 64], mo_h gx (mo_i s 2 0) gs q)) tk_X9_advance (by omega) rfl ⟨h11, trivial⟩ ?_
            refine pm_Wg.callV (m' := 145) (ix := 69) (rr := 227) (pl := 1483) (b := 64) (As := [.int 2]) (S := []) (by decide) rfl (pm_dec tk_X9_advance rfl) rfl rfl (by decide) rfl rfl (by decide) (Nat.le_of_ble_eq_true rfl) rfl (e_X9_refuse d (by omega) gx gs q _ _ _ _ q14) ?_
            injection H with H
            injection H with H1 H2
            subst H1
            subst H2
            exact pm_Wg.iret (pm_dec tk_X9_advance rfl) rfl rfl
         · rw [if_neg h11] at H
           refine pm_Wg.path (k := 3) (ds := [1]) (f' := (50, [some (.ref 64), some (.int a0), some (.int 0)], [], mo_h gx (mo_i s 2 0) gs q)) tk_X9_advance (by omega) rfl ⟨h11, trivial⟩ ?_
           exact ll_X9_advance_50 (d + 1) (by omega) gx gs q r s1 (fun e => e = (r, s1)) (fun e he => he) pm_fu _ _ _ _ H rfl
      · rw [if_neg h5] at H
        cases q22 : f_X9_refuse (mo_i s 2 0) 1 with
        | none => rw [q22] at H; cases H
        | some w =>
         obtain ⟨r20, s21⟩ := w
         rw [q22] at H
         dsimp only at H
         refine pm_Wg.path (k := 11) (ds := [0, 0]) (f' := (31, [some (.ref 64), some (.int a0), none], [.int 1, .ref 64], mo_h gx (mo_i s 2 0) gs q)) tk_X9_advance (by omega) rfl ⟨h5, pm_inb_vp b4, h3, trivial⟩ ?_
         refine pm_Wg.callV (m' := 145) (ix := 69) (rr := 227) (pl := 1483) (b := 64) (As := [.int 1]) (S := []) (by decide) rfl (pm_dec tk_X9_advance rfl) rfl rfl (by decide) rfl rfl (by decide) (Nat.le_of_ble_eq_true rfl) rfl (e_X9_refuse d (by omega) gx gs q _ _ _ _ q22) ?_
         injection H with H
         injection H with H1 H2
         subst H1
         subst H2
         exact pm_Wg.iret (pm_dec tk_X9_advance rfl) rfl rfl

def lb_X9_forecast_166 (x : mo_S × Int32 × Int32) : Option ((mo_S × Int32 × Int32) ⊕ (Int32 × mo_S)) := match x with
  | (s, l1, l2) =>
   (if 6726 ≤ l2 then
    some (.inr (l1, s))
   else
    (match pm_inb l2 6726 with
    | false => none
    | true =>
    some (.inl ((mo_l s 5 l2 (s.2.2.2 6 (Int32.toNatClampNeg l2))), l1, (l2 + 1)))))
def lb_X9_forecast_139 (x : mo_S × Int32 × Int32) : Option ((mo_S × Int32 × Int32) ⊕ (Int32 × mo_S)) := match x with
  | (s, l1, l2) =>
   (if 18186 ≤ l2 then
    (match pm_loop pm_fu lb_X9_forecast_166 (s, l1, 0) with
    | none => none
    | some e => some (.inr e))
   else
    (match pm_inb l2 18186 with
    | false => none
    | true =>
    some (.inl ((mo_a s 3 l2 (s.2.2.1 4 (Int32.toNatClampNeg l2))), l1, (l2 + 1)))))
def lb_X9_forecast_90 (x : mo_S × Int32) : Option ((mo_S × Int32) ⊕ (Int32 × mo_S)) := match x with
  | (s, l1) =>
   (if 20000 ≤ l1 then
    (match pm_inb 7 18186 with
    | false => none
    | true =>
    (match pm_loop pm_fu lb_X9_forecast_139 (s, (s.2.2.1 3 (Int32.toNatClampNeg 7)), 0) with
    | none => none
    | some e => some (.inr e)))
   else
    (match pm_inb 0 18186 with
    | false => none
    | true =>
    (if 99999 ≤ (s.2.2.1 3 (Int32.toNatClampNeg 0)) then
     (match pm_inb 7 18186 with
     | false => none
     | true =>
     (match pm_loop pm_fu lb_X9_forecast_139 (s, (s.2.2.1 3 (Int32.toNatClampNeg 7)), 0) with
     | none => none
     | some e => some (.inr e)))
    else
     (match pm_inb 7 18186 with
     | false => none
     | true =>
     (if (s.2.2.1 3 (Int32.toNatClampNeg 7)) = (-1) then
      (match f_X9_passTick s with
      | none => none
      | some s30 =>
       some (.inl (s30, (l1 + 1))))
     else
      (match pm_loop pm_fu lb_X9_forecast_139 (s, (s.2.2.1 3 (Int32.toNatClampNeg 7)), 0) with
      | none => none
      | some e => some (.inr e)))))))
def lb_X9_forecast_63 (x : mo_S × Int32) : Option ((mo_S × Int32) ⊕ (Int32 × mo_S)) := match x with
  | (s, l1) =>
   (if 6726 ≤ l1 then
    (match pm_loop pm_fu lb_X9_forecast_90 (s, 0) with
    | none => none
    | some e => some (.inr e))
   else
    (match pm_inb l1 6726 with
    | false => none
    | true =>
    some (.inl ((mo_l s 6 l1 (s.2.2.2 5 (Int32.toNatClampNeg l1))), (l1 + 1)))))
def lb_X9_forecast_36 (x : mo_S × Int32) : Option ((mo_S × Int32) ⊕ (Int32 × mo_S)) := match x with
  | (s, l1) =>
   (if 18186 ≤ l1 then
    (match pm_loop pm_fu lb_X9_forecast_63 (s, 0) with
    | none => none
    | some e => some (.inr e))
   else
    (match pm_inb l1 18186 with
    | false => none
    | true =>
    some (.inl ((mo_a s 4 l1 (s.2.2.1 3 (Int32.toNatClampNeg l1))), (l1 + 1)))))
def f_X9_forecast (s : mo_S) : Option (Int32 × mo_S) :=
  (match pm_inb 1 18186 with
  | false => none
  | true =>
  (if ((mo_i s 2 0).2.2.1 3 (Int32.toNatClampNeg 1)) = (-1) then
   (match pm_inb 7 18186 with
   | false => none
   | true =>
   some (((mo_i s 2 0).2.2.1 3 (Int32.toNatClampNeg 7)), (mo_i s 2 0)))
  else
   (match pm_inb 7 18186 with
   | false => none
   | true =>
   (if ((mo_i s 2 0).2.2.1 3 (Int32.toNatClampNeg 7)) = (-1) then
    (pm_loop pm_fu lb_X9_forecast_36 ((mo_i s 2 0), 0))
   else
    some (((mo_i s 2 0).2.2.1 3 (Int32.toNatClampNeg 7)), (mo_i s 2 0))))))
def tb_X9_forecast : List pm_I := [(0, .aload_n 0, 0, 0), (1, .iconst 0, 2, 0), (2, .putfield 45, 161, 0), (5, .aload_n 0, 0, 0), (6, .getfield 16, 162, 0), (9, .iconst 1, 3, 0), (10, .iaload, 0, 0), (11, .iconst (-1), 1, 0), (12, .if_icmp .eq 14, 26, 0), (15, .aload_n 0, 0, 0), (16, .getfield 16, 162, 0), (19, .bipush 7, 9, 0), (21, .iaload, 0, 0), (22, .iconst (-1), 1, 0), (23, .if_icmp .eq 11, 34, 0), (26, .aload_n 0, 0, 0), (27, .getfield 16, 162, 0), (30, .bipush 7, 9, 0), (32, .iaload, 0, 0), (33, .ireturn, 0, 0), (34, .iconst 0, 2, 0), (35, .istore_n 1, 0, 0), (36, .iload_n 1, 0, 0), (37, .sipush 18186, 47, 0), (40, .if_icmp .ge 21, 61, 0), (43, .aload_n 0, 0, 0), (44, .getfield 19, 163, 0), (47, .iload_n 1, 0, 0), (48, .aload_n 0, 0, 0), (49, .getfield 16, 162, 0), (52, .iload_n 1, 0, 0), (53, .iaload, 0, 0), (54, .iastore, 0, 0), (55, .iinc 1 1, 3, 0), (58, .goto (-22), 36, 0), (61, .iconst 0, 2, 0), (62, .istore_n 1, 0, 0), (63, .iload_n 1, 0, 0), (64, .sipush 6726, 46, 0), (67, .if_icmp .ge 21, 88, 0), (70, .aload_n 0, 0, 0), (71, .getfield 26, 165, 0), (74, .iload_n 1, 0, 0), (75, .aload_n 0, 0, 0), (76, .getfield 22, 164, 0), (79, .iload_n 1, 0, 0), (80, .laload, 0, 0), (81, .lastore, 0, 0), (82, .iinc 1 1, 3, 0), (85, .goto (-22), 63, 0), (88, .iconst 0, 2, 0), (89, .istore_n 1, 0, 0), (90, .iload_n 1, 0, 0), (91, .sipush 20000, 48, 0), (94, .if_icmp .ge 35, 129, 0), (97, .aload_n 0, 0, 0), (98, .getfield 16, 162, 0), (101, .iconst 0, 2, 0), (102, .iaload, 0, 0), (103, .ldc 188, 7, 0), (105, .if_icmp .ge 24, 129, 0), (108, .aload_n 0, 0, 0), (109, .getfield 16, 162, 0), (112, .bipush 7, 9, 0), (114, .iaload, 0, 0), (115, .iconst (-1), 1, 0), (116, .if_icmp .ne 13, 129, 0), (119, .aload_n 0, 0, 0), (120, .invokevirtual 398, 311, 0), (123, .iinc 1 1, 3, 0), (126, .goto (-36), 90, 0), (129, .aload_n 0, 0, 0), (130, .getfield 16, 162, 0), (133, .bipush 7, 9, 0), (135, .iaload, 0, 0), (136, .istore_n 1, 0, 0), (137, .iconst 0, 2, 0), (138, .istore_n 2, 0, 0), (139, .iload_n 2, 0, 0), (140, .sipush 18186, 47, 0), (143, .if_icmp .ge 21, 164, 0), (146, .aload_n 0, 0, 0), (147, .getfield 16, 162, 0), (150, .iload_n 2, 0, 0), (151, .aload_n 0, 0, 0), (152, .getfield 19, 163, 0), (155, .iload_n 2, 0, 0), (156, .iaload, 0, 0), (157, .iastore, 0, 0), (158, .iinc 2 1, 3, 0), (161, .goto (-22), 139, 0), (164, .iconst 0, 2, 0), (165, .istore_n 2, 0, 0), (166, .iload_n 2, 0, 0), (167, .sipush 6726, 46, 0), (170, .if_icmp .ge 21, 191, 0), (173, .aload_n 0, 0, 0), (174, .getfield 22, 164, 0), (177, .iload_n 2, 0, 0), (178, .aload_n 0, 0, 0), (179, .getfield 26, 165, 0), (182, .iload_n 2, 0, 0), (183, .laload, 0, 0), (184, .lastore, 0, 0), (185, .iinc 2 1, 3, 0), (188, .goto (-22), 166, 0), (191, .iload_n 1, 0, 0), (192, .ireturn, 0, 0)]
theorem tk_X9_forecast : ∀ e ∈ tb_X9_forecast, pm_ck 287 e = true := List.all_eq_true.mp (by decide +kernel)
set_option maxRecDepth 20000 in
set_option maxHeartbeats 40000000 in
theorem ll_X9_forecast_166 (d : Nat) (hd : 11 ≤ d) (gx : List pm_E) (gs : List (List pm_E)) (q : Nat × Nat × Nat) (r : Int32) (s1 : mo_S) (P : Int32 × mo_S → Prop) (K0 : ∀ e : Int32 × mo_S, P (e) → e = (r, s1)) : ∀ (n : Nat) (s : mo_S) (l1 : Int32) (l2 : Int32) (e : Int32 × mo_S), pm_loop n lb_X9_forecast_166 (s, l1, l2) = some e → P e → pm_Wg 287 d (.inl (some (.int r))) (mo_h gx s1 gs q) (166, [some (.ref 64), some (.int l1), some (.int l2)], [], mo_h gx s gs q) := by
  intro n
  induction n with
  | zero => intro s l1 l2 e H; cases H
  | succ n ih =>
    intro s l1 l2 e H hPe
    obtain ⟨d, rfl⟩ : ∃ d', d = d' + 1 := ⟨d - 1, by omega⟩
    have H : pm_lst (pm_loop n lb_X9_forecast_166) (lb_X9_forecast_166 (s, l1, l2)) = some e := H
    generalize pm_loop n lb_X9_forecast_166 = LB at H ih
    unfold lb_X9_forecast_166 at H
    try dsimp only at H
    by_cases h24 : 6726 ≤ l2
    · rw [if_pos h24] at H
      have He := Option.some.inj H
      subst He
      have H := K0 _ hPe
      injection H with H1 H2
      subst H1
      subst H2
      refine pm_Wg.path (k := 4) (ds := [1]) (f' := (192, [some (.ref 64), some (.int l1), some (.int l2)], [.int l1], mo_h gx s gs q)) tk_X9_forecast (by omega) rfl ⟨h24, trivial⟩ ?_
      exact pm_Wg.iret (pm_dec tk_X9_forecast rfl) rfl rfl
    · rw [if_neg h24] at H
      cases b25 : pm_inb l2 6726 with
      | false => rw [b25] at H; cases H
      | true =>
       rw [b25] at H
       dsimp only at H
       refine pm_Wg.path (k := 13) (ds := [0]) (f' := (166, [some (.ref 64), some (.int l1), some (.int (l2 + 1))], [], mo_h gx (mo_l s 5 l2 (s.2.2.2 6 (Int32.toNatClampNeg l2))) gs q)) tk_X9_forecast (by omega) rfl ⟨pm_inb_vp b25, pm_inb_vp b25, h24, trivial⟩ ?_
       exact ih _ _ _ e H hPe
set_option maxRecDepth 20000 in
set_option maxHeartbeats 40000000 in
theorem ll_X9_forecast_139 (d : Nat) (hd : 11 ≤ d) (gx : List pm_E) (gs : List (List pm_E)) (q : Nat × Nat × Nat) (r : Int32) (s1 : mo_S) (P : Int32 × mo_S → Prop) (K0 : ∀ e : Int32 × mo_S, P (e) → e = (r, s1)) : ∀ (n : Nat) (s : mo_S) (l1 : Int32) (l2 : Int32) (e : Int32 × mo_S), pm_loop n lb_X9_forecast_139 (s, l1, l2) = some e → P e → pm_Wg 287 d (.inl (some (.int r))) (mo_h gx s1 gs q) (139, [some (.ref 64), some (.int l1), some (.int l2)], [], mo_h gx s gs q) := by
  intro n
  induction n with
  | zero => intro s l1 l2 e H; cases H
  | succ n ih =>
    intro s l1 l2 e H hPe
    obtain ⟨d, rfl⟩ : ∃ d', d = d' + 1 := ⟨d - 1, by omega⟩
    have H : pm_lst (pm_loop n lb_X9_forecast_139) (lb_X9_forecast_139 (s, l1, l2)) = some e := H
    generalize pm_loop n lb_X9_forecast_139 = LB at H ih
    unfold lb_X9_forecast_139 at H
    try dsimp only at H
    by_cases h21 : 18186 ≤ l2
    · rw [if_pos h21] at H
      cases q27 : pm_loop pm_fu lb_X9_forecast_166 (s, l1, 0) with
      | none => rw [q27] at H; cases H
      | some e9 =>
       rw [q27] at H
       try dsimp only at H
       refine pm_Wg.path (k := 5) (ds := [1]) (f' := (166, [some (.ref 64), some (.int l1), some (.int 0)], [], mo_h gx s gs q)) tk_X9_forecast (by omega) rfl ⟨h21, trivial⟩ ?_
       exact ll_X9_forecast_166 (d + 1) (by omega) gx gs q r s1 (fun e9 => pm_lst LB (some (.inr e9)) = some e) (fun e0 hk => K0 e0 (Option.some.inj hk ▸ hPe)) pm_fu _ _ _ _ q27 H
    · rw [if_neg h21] at H
      cases b22 : pm_inb l2 18186 with
      | false => rw [b22] at H; cases H
      | true =>
       rw [b22] at H
       dsimp only at H
       refine pm_Wg.path (k := 13) (ds := [0]) (f' := (139, [some (.ref 64), some (.int l1), some (.int (l2 + 1))], [], mo_h gx (mo_a s 3 l2 (s.2.2.1 4 (Int32.toNatClampNeg l2))) gs q)) tk_X9_forecast (by omega) rfl ⟨pm_inb_vp b22, pm_inb_vp b22, h21, trivial⟩ ?_
       exact ih _ _ _ e H hPe
set_option maxRecDepth 20000 in
set_option maxHeartbeats 40000000 in
theorem ll_X9_forecast_90 (d : Nat) (hd : 11 ≤ d) (gx : List pm_E) (gs : List (List pm_E)) (q : Nat × Nat × Nat) (r : Int32) (s1 : mo_S) (P : Int32 × mo_S → Prop) (K0 : ∀ e : Int32 × mo_S, P (e) → e = (r, s1)) : ∀ (n : Nat) (s : mo_S) (l1 : Int32) (e : Int32 × mo_S), pm_loop n lb_X9_forecast_90 (s, l1) = some e → P e → pm_Wg 287 d (.inl (some (.int r))) (mo_h gx s1 gs q) (90, [some (.ref 64), some (.int l1), none], [], mo_h gx s gs q) := by
  intro n
  induction n with
  | zero => intro s l1 e H; cases H
  | succ n ih =>
    intro s l1 e H hPe
    obtain ⟨d, rfl⟩ : ∃ d', d = d' + 1 := ⟨d - 1, by omega⟩
    have H : pm_lst (pm_loop n lb_X9_forecast_90) (lb_X9_forecast_90 (s, l1)) = some e := H
    generalize pm_loop n lb_X9_forecast_90 = LB at H ih
    unfold lb_X9_forecast_90 at H
    try dsimp only at H
    by_cases h13 : 20000 ≤ l1
    · rw [if_pos h13] at H
      cases b14 : pm_inb 7 18186 with
      | false => rw [b14] at H; cases H
      | true =>
       rw [b14] at H
       dsimp only at H
       cases q28 : pm_loop pm_fu lb_X9_forecast_139 (s, (s.2.2.1 3 (Int32.toNatClampNeg 7)), 0) with
       | none => rw [q28] at H; cases H
       | some e9 =>
        rw [q28] at H
        try dsimp only at H
        refine pm_Wg.path (k := 10) (ds := [1]) (f' := (139, [some (.ref 64), some (.int (s.2.2.1 3 (Int32.toNatClampNeg 7))), some (.int 0)], [], mo_h gx s gs q)) tk_X9_forecast (by omega) rfl ⟨pm_inb_vp b14, h13, trivial⟩ ?_
        exact ll_X9_forecast_139 (d + 1) (by omega) gx gs q r s1 (fun e9 => pm_lst LB (some (.inr e9)) = some e) (fun e0 hk => K0 e0 (Option.some.inj hk ▸ hPe)) pm_fu _ _ _ _ q28 H
    · rw [if_neg h13] at H
      cases b15 : pm_inb 0 18186 with
      | false => rw [b15] at H; cases H
      | true =>
       rw [b15] at H
       dsimp only at H
       by_cases h16 : 99999 ≤ (s.2.2.1 3 (Int32.toNatClampNeg 0))
       · rw [if_pos h16] at H
         cases b17 : pm_inb 7 18186 with
         | false => rw [b17] at H; cases H
         | true =>
          rw [b17] at H
          dsimp only at H
          cases q29 : pm_loop pm_fu lb_X9_forecast_139 (s, (s.2.2.1 3 (Int32.toNatClampNeg 7)), 0) with
          | none => rw [q29] at H; cases H
          | some e9 =>
           rw [q29] at H
           try dsimp only at H
           refine pm_Wg.path (k := 16) (ds := [0, 1]) (f' := (139, [some (.ref 64), some (.int (s.2.2.1 3 (Int32.toNatClampNeg 7))), some (.int 0)], [], mo_h gx s gs q)) tk_X9_forecast (by omega) rfl ⟨pm_inb_vp b17, h16, pm_inb_vp b15, h13, trivial⟩ ?_
           exact ll_X9_forecast_139 (d + 1) (by omega) gx gs q r s1 (fun e9 => pm_lst LB (some (.inr e9)) = some e) (fun e0 hk => K0 e0 (Option.some.inj hk ▸ hPe)) pm_fu _ _ _ _ q29 H
       · rw [if_neg h16] at H
         cases b18 : pm_inb 7 18186 with
         | false => rw [b18] at H; cases H
         | true =>
          rw [b18] at H
          dsimp only at H
          by_cases h19 : (s.2.2.1 3 (Int32.toNatClampNeg 7)) = (-1)
          · rw [if_pos h19] at H
            cases q31 : f_X9_passTick s with
            | none => rw [q31] at H; cases H
            | some s30 =>
             rw [q31] at H
             dsimp only at H
             refine pm_Wg.path (k := 16) (ds := [0, 0, 0]) (f' := (120, [some (.ref 64), some (.int l1), none], [.ref 64], mo_h gx s gs q)) tk_X9_forecast (by omega) rfl ⟨h19, pm_inb_vp b18, h16, pm_inb_vp b15, h13, trivial⟩ ?_
             refine pm_Wg.callV (m' := 251) (ix := 398) (rr := 311) (pl := 1832) (b := 64) (As := []) (S := []) (by decide) rfl (pm_dec tk_X9_forecast rfl) rfl rfl (by decide) rfl rfl (by decide) (Nat.le_of_ble_eq_true rfl) rfl (e_X9_passTick d (by omega) gx gs q _ _ q31) ?_
             refine pm_Wg.path (k := 2) (ds := []) (f' := (90, [some (.ref 64), some (.int (l1 + 1)), none], [], mo_h gx s30 gs q)) tk_X9_forecast (by omega) rfl trivial ?_
             exact ih _ _ e H hPe
          · rw [if_neg h19] at H
            cases q32 : pm_loop pm_fu lb_X9_forecast_139 (s, (s.2.2.1 3 (Int32.toNatClampNeg 7)), 0) with
            | none => rw [q32] at H; cases H
            | some e9 =>
             rw [q32] at H
             try dsimp only at H
             refine pm_Wg.path (k := 22) (ds := [0, 0, 1]) (f' := (139, [some (.ref 64), some (.int (s.2.2.1 3 (Int32.toNatClampNeg 7))), some (.int 0)], [], mo_h gx s gs q)) tk_X9_forecast (by omega) rfl ⟨pm_inb_vp b18, h19, pm_inb_vp b18, h16, pm_inb_vp b15, h13, trivial⟩ ?_
             exact ll_X9_forecast_139 (d + 1) (by omega) gx gs q r s1 (fun e9 => pm_lst LB (some (.inr e9)) = some e) (fun e0 hk => K0 e0 (Option.some.inj hk ▸ hPe)) pm_fu _ _ _ _ q32 H
set_option maxRecDepth 20000 in
set_option maxHeartbeats 40000000 in
theorem ll_X9_forecast_63 (d : Nat) (hd : 11 ≤ d) (gx : List pm_E) (gs : List (List pm_E)) (q : Nat × Nat × Nat) (r : Int32) (s1 : mo_S) (P : Int32 × mo_S → Prop) (K0 : ∀ e : Int32 × mo_S, P (e) → e = (r, s1)) : ∀ (n : Nat) (s : mo_S) (l1 : Int32) (e : Int32 × mo_S), pm_loop n lb_X9_forecast_63 (s, l1) = some e → P e → pm_Wg 287 d (.inl (some (.int r))) (mo_h gx s1 gs q) (63, [some (.ref 64), some (.int l1), none], [], mo_h gx s gs q) := by
  intro n
  induction n with
  | zero => intro s l1 e H; cases H
  | succ n ih =>
    intro s l1 e H hPe
    obtain ⟨d, rfl⟩ : ∃ d', d = d' + 1 := ⟨d - 1, by omega⟩
    have H : pm_lst (pm_loop n lb_X9_forecast_63) (lb_X9_forecast_63 (s, l1)) = some e := H
    generalize pm_loop n lb_X9_forecast_63 = LB at H ih
    unfold lb_X9_forecast_63 at H
    try dsimp only at H
    by_cases h10 : 6726 ≤ l1
    · rw [if_pos h10] at H
      cases q33 : pm_loop pm_fu lb_X9_forecast_90 (s, 0) with
      | none => rw [q33] at H; cases H
      | some e9 =>
       rw [q33] at H
       try dsimp only at H
       refine pm_Wg.path (k := 5) (ds := [1]) (f' := (90, [some (.ref 64), some (.int 0), none], [], mo_h gx s gs q)) tk_X9_forecast (by omega) rfl ⟨h10, trivial⟩ ?_
       exact ll_X9_forecast_90 (d + 1) (by omega) gx gs q r s1 (fun e9 => pm_lst LB (some (.inr e9)) = some e) (fun e0 hk => K0 e0 (Option.some.inj hk ▸ hPe)) pm_fu _ _ _ q33 H
    · rw [if_neg h10] at H
      cases b11 : pm_inb l1 6726 with
      | false => rw [b11] at H; cases H
      | true =>
       rw [b11] at H
       dsimp only at H
       refine pm_Wg.path (k := 13) (ds := [0]) (f' := (63, [some (.ref 64), some (.int (l1 + 1)), none], [], mo_h gx (mo_l s 6 l1 (s.2.2.2 5 (Int32.toNatClampNeg l1))) gs q)) tk_X9_forecast (by omega) rfl ⟨pm_inb_vp b11, pm_inb_vp b11, h10, trivial⟩ ?_
       exact ih _ _ e H hPe
set_option maxRecDepth 20000 in
set_option maxHeartbeats 40000000 in
theorem ll_X9_forecast_36 (d : Nat) (hd : 11 ≤ d) (gx : List pm_E) (gs : List (List pm_E)) (q : Nat × Nat × Nat) (r : Int32) (s1 : mo_S) (P : Int32 × mo_S → Prop) (K0 : ∀ e : Int32 × mo_S, P (e) → e = (r, s1)) : ∀ (n : Nat) (s : mo_S) (l1 : Int32) (e : Int32 × mo_S), pm_loop n lb_X9_forecast_36 (s, l1) = some e → P e → pm_Wg 287 d (.inl (some (.int r))) (mo_h gx s1 gs q) (36, [some (.ref 64), some (.int l1), none], [], mo_h gx s gs q) := by
  intro n
  induction n with
  | zero => intro s l1 e H; cases H
  | succ n ih =>
    intro s l1 e H hPe
    obtain ⟨d, rfl⟩ : ∃ d', d = d' + 1 := ⟨d - 1, by omega⟩
    have H : pm_lst (pm_loop n lb_X9_forecast_36) (lb_X9_forecast_36 (s, l1)) = some e := H
    generalize pm_loop n lb_X9_forecast_36 = LB at H ih
    unfold lb_X9_forecast_36 at H
    try dsimp only at H
    by_cases h7 : 18186 ≤ l1
    · rw [if_pos h7] at H
      cases q34 : pm_loop pm_fu lb_X9_forecast_63 (s, 0) with
      | none => rw [q34] at H; cases H
      | some e9 =>
       rw [q34] at H
       try dsimp only at H
       refine pm_Wg.path (k := 5) (ds := [1]) (f' := (63, [some (.ref 64), some (.int 0), none], [], mo_h gx s gs q)) tk_X9_forecast (by omega) rfl ⟨h7, trivial⟩ ?_
       exact ll_X9_forecast_63 (d + 1) (by omega) gx gs q r s1 (fun e9 => pm_lst LB (some (.inr e9)) = some e) (fun e0 hk => K0 e0 (Option.some.inj hk ▸ hPe)) pm_fu _ _ _ q34 H
    · rw [if_neg h7] at H
      cases b8 : pm_inb l1 18186 with
      | false => rw [b8] at H; cases H
      | true =>
       rw [b8] at H
       dsimp only at H
       refine pm_Wg.path (k := 13) (ds := [0]) (f' := (36, [some (.ref 64), some (.int (l1 + 1)), none], [], mo_h gx (mo_a s 4 l1 (s.2.2.1 3 (Int32.toNatClampNeg l1))) gs q)) tk_X9_forecast (by omega) rfl ⟨pm_inb_vp b8, pm_inb_vp b8, h7, trivial⟩ ?_
       exact ih _ _ e H hPe
set_option maxRecDepth 20000 in
set_option maxHeartbeats 20000000 in
theorem e_X9_forecast (d : Nat) (hd : 11 ≤ d) (gx : List pm_E) (gs : List (List pm_E)) (q : Nat × Nat × Nat) (s : mo_S) (r : Int32) (s1 : mo_S) (H : f_X9_forecast s = some (r, s1)) : pm_Mt 287 d [.ref 64] (mo_h gx s gs q) (.inl (some (.int r))) (mo_h gx s1 gs q) := by
  refine pm_Mt.of (by decide) (by decide +kernel) rfl rfl ?_
  obtain ⟨d, rfl⟩ : ∃ d', d = d' + 1 := ⟨d - 1, by omega⟩
  unfold f_X9_forecast at H
  cases b1 : pm_inb 1 18186 with
  | false => rw [b1] at H; cases H
  | true =>
   rw [b1] at H
   dsimp only at H
   by_cases h2 : ((mo_i s 2 0).2.2.1 3 (Int32.toNatClampNeg 1)) = (-1)
   · rw [if_pos h2] at H
     cases b3 : pm_inb 7 18186 with
     | false => rw [b3] at H; cases H
     | true =>
      rw [b3] at H
      dsimp only at H
      injection H with H
      injection H with H1 H2
      subst H1
      subst H2
      refine pm_Wg.path (k := 13) (ds := [1]) (f' := (33, [some (.ref 64), none, none], [.int ((mo_i s 2 0).2.2.1 3 (Int32.toNatClampNeg 7))], mo_h gx (mo_i s 2 0) gs q)) tk_X9_forecast (by omega) rfl ⟨pm_inb_vp b3, h2, pm_inb_vp b1, trivial⟩ ?_
      exact pm_Wg.iret (pm_dec tk_X9_forecast rfl) rfl rfl
   · rw [if_neg h2] at H
     cases b4 : pm_inb 7 18186 with
     | false => rw [b4] at H; cases H
     | true =>
      rw [b4] at H
      dsimp only at H
      by_cases h5 : ((mo_i s 2 0).2.2.1 3 (Int32.toNatClampNeg 7)) = (-1)
      · rw [if_pos h5] at H
        refine pm_Wg.path (k := 17) (ds := [0, 1]) (f' := (36, [some (.ref 64), some (.int 0), none], [], mo_h gx (mo_i s 2 0) gs q)) tk_X9_forecast (by omega) rfl ⟨h5, pm_inb_vp b4, h2, pm_inb_vp b1, trivial⟩ ?_
        exact ll_X9_forecast_36 (d + 1) (by omega) gx gs q r s1 (fun e => e = (r, s1)) (fun e he => he) pm_fu _ _ _ H rfl
      · rw [if_neg h5] at H
        injection H with H
        injection H with H1 H2
        subst H1
        subst H2
        refine pm_Wg.path (k := 19) (ds := [0, 0]) (f' := (33, [some (.ref 64), none, none], [.int ((mo_i s 2 0).2.2.1 3 (Int32.toNatClampNeg 7))], mo_h gx (mo_i s 2 0) gs q)) tk_X9_forecast (by omega) rfl ⟨pm_inb_vp b4, h5, pm_inb_vp b4, h2, pm_inb_vp b1, trivial⟩ ?_
        exact pm_Wg.iret (pm_dec tk_X9_forecast rfl) rfl rfl
