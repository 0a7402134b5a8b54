/-! The reference's methods without loops, continued. -/
def fc_X9_setShare_c3 (s : mo_S) (l1 : Int32) (l2 : Int32) (l3 : Int32) (l4 : Int32) (l5 : Int32) (l6 : Int32) (k0 : Int32) (k1 : Int32) : Option (Int32 × mo_S) :=
  (match pm_inb k1 26 with
  | false => none
  | true =>
  some (l5, (mo_a s 0 k1 k0)))
def fc_X9_setShare_c2 (s : mo_S) (l1 : Int32) (l2 : Int32) (l3 : Int32) (l4 : Int32) (l5 : Int32) (l6 : Int32) (k0 : Int32) (k1 : Int32) : Option (Int32 × mo_S) :=
  (match pm_inb k1 26 with
  | false => none
  | true =>
  (fc_X9_setShare_c3 (mo_a s 0 k1 k0) l1 l2 l3 l4 l5 l6 l4 (l6 + 2)))
def fc_X9_setShare_c1 (s : mo_S) (l1 : Int32) (l2 : Int32) (l3 : Int32) (l4 : Int32) (l5 : Int32) (l6 : Int32) (k0 : Int32) (k1 : Int32) : Option (Int32 × mo_S) :=
  (match pm_inb k1 26 with
  | false => none
  | true =>
  (fc_X9_setShare_c2 (mo_a s 0 k1 k0) l1 l2 l3 l4 l5 l6 l3 (l6 + 1)))
def f_X9_setShare (s : mo_S) (a0 : Int32) (a1 : Int32) (a2 : Int32) (a3 : Int32) : Option (Int32 × mo_S) :=
  (match f_X9_isTenant (mo_i s 2 0) a0 with
  | none => none
  | some r1 =>
   (if r1 = 0 then
    (match f_X9_refuse (mo_i s 2 0) 1 with
    | none => none
    | some (r4, s5) =>
     some (r4, s5))
   else
    (match f_X9_in (mo_i s 2 0) a1 0 1000 with
    | none => none
    | some r7 =>
     (if r7 = 0 then
      (match f_X9_refuse (mo_i s 2 0) 2 with
      | none => none
      | some (r10, s11) =>
       some (r10, s11))
     else
      (match f_X9_in (mo_i s 2 0) a2 1 100 with
      | none => none
      | some r13 =>
       (if r13 = 0 then
        (match f_X9_refuse (mo_i s 2 0) 2 with
        | none => none
        | some (r17, s18) =>
         some (r17, s18))
       else
        (if a3 < 0 then
         (match f_X9_refuse (mo_i s 2 0) 2 with
         | none => none
         | some (r20, s21) =>
          some (r20, s21))
        else
         (match f_X9_isLimit (mo_i s 2 0) a3 a1 with
         | none => none
         | some r23 =>
          (if r23 = 0 then
           (match f_X9_refuse (mo_i s 2 0) 2 with
           | none => none
           | some (r26, s27) =>
            some (r26, s27))
          else
           (match f_X9_shareOf (mo_i s 2 0) a0 0 with
           | none => none
           | some r29 =>
            (fc_X9_setShare_c1 (mo_i s 2 0) a0 a1 a2 a3 r29 (8 + (3 * a0)) a1 ((8 + (3 * a0)) + 0))))))))))))
def tb_X9_setShare : List pm_I := [(0, .aload_n 0, 0, 0), (1, .iconst 0, 2, 0), (2, .putfield 45, 161, 0), (5, .aload_n 0, 0, 0), (6, .iload_n 1, 0, 0), (7, .invokevirtual 218, 271, 0), (10, .ifCond .ne 9, 19, 0), (13, .aload_n 0, 0, 0), (14, .iconst 1, 3, 0), (15, .invokevirtual 69, 227, 0), (18, .ireturn, 0, 0), (19, .iload_n 2, 0, 0), (20, .iconst 0, 2, 0), (21, .sipush 1000, 39, 0), (24, .invokestatic 59, 233, 0), (27, .ifCond .eq 27, 54, 0), (30, .iload_n 3, 0, 0), (31, .iconst 1, 3, 0), (32, .bipush 100, 29, 0), (34, .invokestatic 59, 233, 0), (37, .ifCond .eq 17, 54, 0), (40, .iload 4, 0, 0), (42, .ifCond .lt 12, 54, 0), (45, .iload 4, 0, 0), (47, .iload_n 2, 0, 0), (48, .invokestatic 139, 251, 0), (51, .ifCond .ne 9, 60, 0), (54, .aload_n 0, 0, 0), (55, .iconst 2, 4, 0), (56, .invokevirtual 69, 227, 0), (59, .ireturn, 0, 0), (60, .aload_n 0, 0, 0), (61, .iload_n 1, 0, 0), (62, .iconst 0, 2, 0), (63, .invokevirtual 221, 272, 0), (66, .istore 5, 0, 0), (68, .bipush 8, 10, 0), (70, .iconst 3, 5, 0), (71, .iload_n 1, 0, 0), (72, .imul, 0, 0), (73, .iadd, 0, 0), (74, .istore 6, 0, 0), (76, .aload_n 0, 0, 0), (77, .getfield 7, 159, 0), (80, .iload 6, 0, 0), (82, .iconst 0, 2, 0), (83, .iadd, 0, 0), (84, .iload_n 2, 0, 0), (85, .iastore, 0, 0), (86, .aload_n 0, 0, 0), (87, .getfield 7, 159, 0), (90, .iload 6, 0, 0), (92, .iconst 1, 3, 0), (93, .iadd, 0, 0), (94, .iload_n 3, 0, 0), (95, .iastore, 0, 0), (96, .aload_n 0, 0, 0), (97, .getfield 7, 159, 0), (100, .iload 6, 0, 0), (102, .iconst 2, 4, 0), (103, .iadd, 0, 0), (104, .iload 4, 0, 0), (106, .iastore, 0, 0), (107, .iload 5, 0, 0), (109, .ireturn, 0, 0)]
theorem tk_X9_setShare : ∀ e ∈ tb_X9_setShare, pm_ck 254 e = true := List.all_eq_true.mp (by decide +kernel)
set_option maxRecDepth 20000 in
set_option maxHeartbeats 20000000 in
theorem ec_X9_setShare_c3 (d : Nat) (hd : 3 ≤ d) (gx : List pm_E) (gs : List (List pm_E)) (q : Nat × Nat × Nat) (s : mo_S) (l1 : Int32) (l2 : Int32) (l3 : Int32) (l4 : Int32) (l5 : Int32) (l6 : Int32) (k0 : Int32) (k1 : Int32) (r : Int32) (s1 : mo_S) (H : fc_X9_setShare_c3 s l1 l2 l3 l4 l5 l6 k0 k1 = some (r, s1)) : pm_Wg 254 d (.inl (some (.int r))) (mo_h gx s1 gs q) (106, [some (.ref 64), some (.int l1), some (.int l2), some (.int l3), some (.int l4), some (.int l5), some (.int l6)], [.int k0, .int k1, .ref 65], mo_h gx s gs q) := by
  obtain ⟨d, rfl⟩ : ∃ d', d = d' + 1 := ⟨d - 1, by omega⟩
  unfold fc_X9_setShare_c3 at H
  try dsimp only at H
  cases b33 : pm_inb k1 26 with
  | false => rw [b33] at H; cases H
  | true =>
   rw [b33] at H
   dsimp only at H
   injection H with H
   injection H with H1 H2
   subst H1
   subst H2
   refine pm_Wg.path (k := 2) (ds := []) (f' := (109, [some (.ref 64), some (.int l1), some (.int l2), some (.int l3), some (.int l4), some (.int l5), some (.int l6)], [.int l5], mo_h gx (mo_a s 0 k1 k0) gs q)) tk_X9_setShare (by omega) rfl ⟨pm_inb_vp b33, trivial⟩ ?_
   exact pm_Wg.iret (pm_dec tk_X9_setShare rfl) rfl rfl
set_option maxRecDepth 20000 in
set_option maxHeartbeats 20000000 in
theorem ec_X9_setShare_c2 (d : Nat) (hd : 3 ≤ d) (gx : List pm_E) (gs : List (List pm_E)) (q : Nat × Nat × Nat) (s : mo_S) (l1 : Int32) (l2 : Int32) (l3 : Int32) (l4 : Int32) (l5 : Int32) (l6 : Int32) (k0 : Int32) (k1 : Int32) (r : Int32) (s1 : mo_S) (H : fc_X9_setShare_c2 s l1 l2 l3 l4 l5 l6 k0 k1 = some (r, s1)) : pm_Wg 254 d (.inl (some (.int r))) (mo_h gx s1 gs q) (95, [some (.ref 64), some (.int l1), some (.int l2), some (.int l3), some (.int l4), some (.int l5), some (.int l6)], [.int k0, .int k1, .ref 65], mo_h gx s gs q) := by
  obtain ⟨d, rfl⟩ : ∃ d', d = d' + 1 := ⟨d - 1, by omega⟩
  unfold fc_X9_setShare_c2 at H
  try dsimp only at H
  cases b32 : pm_inb k1 26 with
  | false => rw [b32] at H; cases H
  | true =>
   rw [b32] at H
   dsimp only at H
   refine pm_Wg.path (k := 7) (ds := []) (f' := (106, [some (.ref 64), some (.int l1), some (.int l2), some (.int l3), some (.int l4), some (.int l5), some (.int l6)], [.int l4, .int (l6 + 2), .ref 65], mo_h gx (mo_a s 0 k1 k0) gs q)) tk_X9_setShare (by omega) rfl ⟨pm_inb_vp b32, trivial⟩ ?_
   exact ec_X9_setShare_c3 (d + 1) (by omega) gx gs q _ _ _ _ _ _ _ _ _ _ _ H
set_option maxRecDepth 20000 in
set_option maxHeartbeats 20000000 in
theorem ec_X9_setShare_c1 (d : Nat) (hd : 3 ≤ d) (gx : List pm_E) (gs : List (List pm_E)) (q : Nat × Nat × Nat) (s : mo_S) (l1 : Int32) (l2 : Int32) (l3 : Int32) (l4 : Int32) (l5 : Int32) (l6 : Int32) (k0 : Int32) (k1 : Int32) (r : Int32) (s1 : mo_S) (H : fc_X9_setShare_c1 s l1 l2 l3 l4 l5 l6 k0 k1 = some (r, s1)) : pm_Wg 254 d (.inl (some (.int r))) (mo_h gx s1 gs q) (85, [some (.ref 64), some (.int l1), some (.int l2), some (.int l3), some (.int l4), some (.int l5), some (.int l6)], [.int k0, .int k1, .ref 65], mo_h gx s gs q) := by
  obtain ⟨d, rfl⟩ : ∃ d', d = d' + 1 := ⟨d - 1, by omega⟩
  unfold fc_X9_setShare_c1 at H
  try dsimp only at H
  cases b31 : pm_inb k1 26 with
  | false => rw [b31] at H; cases H
  | true =>
   rw [b31] at H
   dsimp only at H
   refine pm_Wg.path (k := 7) (ds := []) (f' := (95, [some (.ref 64), some (.int l1), some (.int l2), some (.int l3), some (.int l4), some (.int l5), some (.int l6)], [.int l3, .int (l6 + 1), .ref 65], mo_h gx (mo_a s 0 k1 k0) gs q)) tk_X9_setShare (by omega) rfl ⟨pm_inb_vp b31, trivial⟩ ?_
   exact ec_X9_setShare_c2 (d + 1) (by omega) gx gs q _ _ _ _ _ _ _ _ _ _ _ H
set_option maxRecDepth 20000 in
set_option maxHeartbeats 20000000 in
theorem e_X9_setShare (d : Nat) (hd : 3 ≤ d) (gx : List pm_E) (gs : List (List pm_E)) (q : Nat × Nat × Nat) (s : mo_S) (a0 : Int32) (a1 : Int32) (a2 : Int32) (a3 : Int32) (r : Int32) (s1 : mo_S) (H : f_X9_setShare s a0 a1 a2 a3 = some (r, s1)) : pm_Mt 254 d [.ref 64, .int a0, .int a1, .int a2, .int a3] (mo_h gx s gs q) (.inl (some (.int r))) (mo_h gx s1 gs q) := by
  refine pm_Mt.of (by decide) (by decide +kernel) rfl rfl ?_
  obtain ⟨d, rfl⟩ : ∃ d', d = d' + 1 := ⟨d - 1, by omega⟩
  unfold f_X9_setShare at H
  cases q2 : f_X9_isTenant (mo_i s 2 0) a0 with
  | none => rw [q2] at H; cases H
  | some r1 =>
   rw [q2] at H
   dsimp only at H
   refine pm_Wg.path (k := 5) (ds := []) (f' := (7, [some (.ref 64), some (.int a0), some (.int a1), some (.int a2), some (.int a3), none, none], [.int a0, .ref 64], mo_h gx (mo_i s 2 0) gs q)) tk_X9_setShare (by omega) rfl trivial ?_
   refine pm_Wg.callV (m' := 153) (ix := 218) (rr := 271) (pl := 1671) (b := 64) (As := [.int a0]) (S := []) (by decide) rfl (pm_dec tk_X9_setShare rfl) rfl rfl (by decide) rfl rfl (by decide) (Nat.le_of_ble_eq_true rfl) rfl (e_X9_isTenant d (by omega) gx gs q _ _ _ q2) ?_
   by_cases h3 : r1 = 0
   · rw [if_pos h3] at H
     cases q6 : f_X9_refuse (mo_i s 2 0) 1 with
     | none => rw [q6] at H; cases H
     | some w =>
      obtain ⟨r4, s5⟩ := w
      rw [q6] at H
      dsimp only at H
      refine pm_Wg.path (k := 3) (ds := [0]) (f' := (15, [some (.ref 64), some (.int a0), some (.int a1), some (.int a2), some (.int a3), none, none], [.int 1, .ref 64], mo_h gx (mo_i s 2 0) gs q)) tk_X9_setShare (by omega) rfl ⟨h3, trivial⟩ ?_
      refine pm_Wg.callV (m' := 145) (ix := 69) (rr := 227) (pl := 1483) (b := 64) (As := [.int 1]) (S := []) (by decide) rfl (pm_dec tk_X9_setShare rfl) rfl rfl (by decide) rfl rfl (by decide) (Nat.le_of_ble_eq_true rfl) rfl (e_X9_refuse d (by omega) gx gs q _ _ _ _ q6) ?_
      injection H with H
      injection H with H1 H2
      subst H1
      subst H2
      exact pm_Wg.iret (pm_dec tk_X9_setShare rfl) rfl rfl
   · rw [if_neg h3] at H
     cases q8 : f_X9_in (mo_i s 2 0) a1 0 1000 with
     | none => rw [q8] at H; cases H
     | some r7 =>
      rw [q8] at H
      dsimp only at H
      refine pm_Wg.path (k := 4) (ds := [1]) (f' := (24, [some (.ref 64), some (.int a0), some (.int a1), some (.int a2), some (.int a3), none, none], [.int 1000, .int 0, .int a1], mo_h gx (mo_i s 2 0) gs q)) tk_X9_setShare (by omega) rfl ⟨h3, trivial⟩ ?_
      refine pm_Wg.callS (m' := 147) (ix := 59) (rr := 233) (pl := 1507) (As := [.int a1, .int 0, .int 1000]) (S := []) (by decide) rfl (pm_dec tk_X9_setShare rfl) rfl rfl rfl (Nat.le_of_ble_eq_true rfl) rfl (e_X9_in d (by omega) gx gs q _ _ _ _ _ q8) ?_
      by_cases h9 : r7 = 0
      · rw [if_pos h9] at H
        cases q12 : f_X9_refuse (mo_i s 2 0) 2 with
        | none => rw [q12] at H; cases H
        | some w =>
         obtain ⟨r10, s11⟩ := w
         rw [q12] at H
         dsimp only at H
         refine pm_Wg.path (k := 3) (ds := [1]) (f' := (56, [some (.ref 64), some (.int a0), some (.int a1), some (.int a2), some (.int a3), none, none], [.int 2, .ref 64], mo_h gx (mo_i s 2 0) gs q)) tk_X9_setShare (by omega) rfl ⟨h9, trivial⟩ ?_
         refine pm_Wg.callV (m' := 145) (ix := 69) (rr := 227) (pl := 1483) (b := 64) (As := [.int 2]) (S := []) (by decide) rfl (pm_dec tk_X9_setShare rfl) rfl rfl (by decide) rfl rfl (by decide) (Nat.le_of_ble_eq_true rfl) rfl (e_X9_refuse d (by omega) gx gs q _ _ _ _ q12) ?_
         injection H with H
         injection H with H1 H2
         subst H1
         subst H2
         exact pm_Wg.iret (pm_dec tk_X9_setShare rfl) rfl rfl
      · rw [if_neg h9] at H
        cases q14 : f_X9_in (mo_i s 2 0) a2 1 100 with
        | none => rw [q14] at H; cases H
        | some r13 =>
         rw [q14] at H
         dsimp only at H
         refine pm_Wg.path (k := 4) (ds := [0]) (f' := (34, [some (.ref 64), some (.int a0), some (.int a1), some (.int a2), some (.int a3), none, none], [.int 100, .int 1, .int a2], mo_h gx (mo_i s 2 0) gs q)) tk_X9_setShare (by omega) rfl ⟨h9, trivial⟩ ?_
         refine pm_Wg.callS (m' := 147) (ix := 59) (rr := 233) (pl := 1507) (As := [.int a2, .int 1, .int 100]) (S := []) (by decide) rfl (pm_dec tk_X9_setShare rfl) rfl rfl rfl (Nat.le_of_ble_eq_true rfl) rfl (e_X9_in d (by omega) gx gs q _ _ _ _ _ q14) ?_
         by_cases h15 : r13 = 0
         · rw [if_pos h15] at H
           cases q19 : f_X9_refuse (mo_i s 2 0) 2 with
           | none => rw [q19] at H; cases H
           | some w =>
            obtain ⟨r17, s18⟩ := w
            rw [q19] at H
            dsimp only at H
            refine pm_Wg.path (k := 3) (ds := [1]) (f' := (56, [some (.ref 64), some (.int a0), some (.int a1), some (.int a2), some (.int a3), none, none], [.int 2, .ref 64], mo_h gx (mo_i s 2 0) gs q)) tk_X9_setShare (by omega) rfl ⟨h15, trivial⟩ ?_
            refine pm_Wg.callV (m' := 145) (ix := 69) (rr := 227) (pl := 1483) (b := 64) (As := [.int 2]) (S := []) (by decide) rfl (pm_dec tk_X9_setShare rfl) rfl rfl (by decide) rfl rfl (by decide) (Nat.le_of_ble_eq_true rfl) rfl (e_X9_refuse d (by omega) gx gs q _ _ _ _ q19) ?_
            injection H with H
            injection H with H1 H2
            subst H1
            subst H2
            exact pm_Wg.iret (pm_dec tk_X9_setShare rfl) rfl rfl
         · rw [if_neg h15] at H
           by_cases h16 : a3 < 0
           · rw [if_pos h16] at H
             cases q22 : f_X9_refuse (mo_i s 2 0) 2 with
             | none => rw [q22] at H; cases H
             | some w =>
              obtain ⟨r20, s21⟩ := w
              rw [q22] at H
              dsimp only at H
              refine pm_Wg.path (k := 5) (ds := [0, 1]) (f' := (56, [some (.ref 64), some (.int a0), some (.int a1), some (.int a2), some (.int a3), none, none], [.int 2, .ref 64], mo_h gx (mo_i s 2 0) gs q)) tk_X9_setShare (by omega) rfl ⟨h16, h15, trivial⟩ ?_
              refine pm_Wg.callV (m' := 145) (ix := 69) (rr := 227) (pl := 1483) (b := 64) (As := [.int 2]) (S := []) (by decide) rfl (pm_dec tk_X9_setShare rfl) rfl rfl (by decide) rfl rfl (by decide) (Nat.le_of_ble_eq_true rfl) rfl (e_X9_refuse d (by omega) gx gs q _ _ _ _ q22) ?_
              injection H with H
              injection H with H1 H2
              subst H1
              subst H2
              exact pm_Wg.iret (pm_dec tk_X9_setShare rfl) rfl rfl
           · rw [if_neg h16] at H
             cases q24 : f_X9_isLimit (mo_i s 2 0) a3 a1 with
             | none => rw [q24] at H; cases H
             | some r23 =>
              rw [q24] at H
              dsimp only at H
              refine pm_Wg.path (k := 5) (ds := [0, 0]) (f' := (48, [some (.ref 64), some (.int a0), some (.int a1), some (.int a2), some (.int a3), none, none], [.int a1, .int a3], mo_h gx (mo_i s 2 0) gs q)) tk_X9_setShare (by omega) rfl ⟨h16, h15, trivial⟩ ?_
              refine pm_Wg.callS (m' := 174) (ix := 139) (rr := 251) (pl := 1583) (As := [.int a3, .int a1]) (S := []) (by decide) rfl (pm_dec tk_X9_setShare rfl) rfl rfl rfl (Nat.le_of_ble_eq_true rfl) rfl (e_X9_isLimit d (by omega) gx gs q _ _ _ _ q24) ?_
              by_cases h25 : r23 = 0
              · rw [if_pos h25] at H
                cases q28 : f_X9_refuse (mo_i s 2 0) 2 with
                | none => rw [q28] at H; cases H
                | some w =>
                 obtain ⟨r26, s27⟩ := w
                 rw [q28] at H
                 dsimp only at H
                 refine pm_Wg.path (k := 3) (ds := [0]) (f' := (56, [some (.ref 64), some (.int a0), some (.int a1), some (.int a2), some (.int a3), none, none], [.int 2, .ref 64], mo_h gx (mo_i s 2 0) gs q)) tk_X9_setShare (by omega) rfl ⟨h25, trivial⟩ ?_
                 refine pm_Wg.callV (m' := 145) (ix := 69) (rr := 227) (pl := 1483) (b := 64) (As := [.int 2]) (S := []) (by decide) rfl (pm_dec tk_X9_setShare rfl) rfl rfl (by decide) rfl rfl (by decide) (Nat.le_of_ble_eq_true rfl) rfl (e_X9_refuse d (by omega) gx gs q _ _ _ _ q28) ?_
                 injection H with H
                 injection H with H1 H2
                 subst H1
                 subst H2
                 exact pm_Wg.iret (pm_dec tk_X9_setShare rfl) rfl rfl
              · rw [if_neg h25] at H
                cases q30 : f_X9_shareOf (mo_i s 2 0) a0 0 with
                | none => rw [q30] at H; cases H
                | some r29 =>
                 rw [q30] at H
                 dsimp only at H
                 refine pm_Wg.path (k := 4) (ds := [1]) (f' := (63, [some (.ref 64), some (.int a0), some (.int a1), some (.int a2), some (.int a3), none, none], [.int 0, .int a0, .ref 64], mo_h gx (mo_i s 2 0) gs q)) tk_X9_setShare (by omega) rfl ⟨h25, trivial⟩ ?_
                 refine pm_Wg.callV (m' := 157) (ix := 221) (rr := 272) (pl := 1675) (b := 64) (As := [.int a0, .int 0]) (S := []) (by decide) rfl (pm_dec tk_X9_setShare rfl) rfl rfl (by decide) rfl rfl (by decide) (Nat.le_of_ble_eq_true rfl) rfl (e_X9_shareOf d (by omega) gx gs q _ _ _ _ q30) ?_
                 refine pm_Wg.path (k := 13) (ds := []) (f' := (85, [some (.ref 64), some (.int a0), some (.int a1), some (.int a2), some (.int a3), some (.int r29), some (.int (8 + (3 * a0)))], [.int a1, .int ((8 + (3 * a0)) + 0), .ref 65], mo_h gx (mo_i s 2 0) gs q)) tk_X9_setShare (by omega) rfl trivial ?_
                 exact ec_X9_setShare_c1 (d + 1) (by omega) gx gs q _ _ _ _ _ _ _ _ _ _ _ H
def fc_X9_setTags_c1 (s : mo_S) (l1 : Int32) (l2 : Int32) (l3 : Int32) (l4 : Int32) (k0 : Int64) (k1 : Int32) : Option (mo_S) :=
  (match pm_inb k1 6726 with
  | false => none
  | true =>
  some (mo_l s 5 k1 k0))
def fc_X9_setTags_c2 (s : mo_S) (l1 : Int32) (l2 : Int32) (l3 : Int32) (l4 : Int32) (k0 : Int64) (k1 : Int32) : Option (mo_S) :=
  (match pm_inb k1 6726 with
  | false => none
  | true =>
  some (mo_l s 5 k1 k0))
def f_X9_setTags (s : mo_S) (a0 : Int32) (a1 : Int32) (a2 : Int32) : Option mo_S :=
  (match f_X9_shareOf s a2 0 with
  | none => none
  | some r1 =>
   (if r1 ≤ 0 then
    (match f_X9_set s a0 6 0 with
    | none => none
    | some s4 =>
     (match pm_inb ((3 * a0) + 0) 6726 with
     | false => none
     | true =>
     (match f_X9_nextTag (mo_l s4 5 ((3 * a0) + 0) 0) a1 a2 1 with
     | none => none
     | some (r7, s8) =>
      (match pm_inb ((3 * a0) + 1) 6726 with
      | false => none
      | true =>
      (match f_X9_shareOf (mo_l s8 5 ((3 * a0) + 1) r7) a2 2 with
      | none => none
      | some r11 =>
       (if r11 ≤ 0 then
        (fc_X9_setTags_c1 (mo_l s8 5 ((3 * a0) + 1) r7) a0 a1 a2 0 0 ((3 * a0) + 2))
       else
        (match f_X9_nextTag (mo_l s8 5 ((3 * a0) + 1) r7) a1 a2 2 with
        | none => none
        | some (r15, s16) =>
         (match pm_inb ((3 * a0) + 2) 6726 with
         | false => none
         | true =>
         some (mo_l s16 5 ((3 * a0) + 2) r15)))))))))
   else
    (match f_X9_set s a0 6 1 with
    | none => none
    | some s19 =>
     (match f_X9_nextTag s19 a1 a2 0 with
     | none => none
     | some (r21, s22) =>
      (match pm_inb ((3 * a0) + 0) 6726 with
      | false => none
      | true =>
      (match f_X9_nextTag (mo_l s22 5 ((3 * a0) + 0) r21) a1 a2 1 with
      | none => none
      | some (r25, s26) =>
       (match pm_inb ((3 * a0) + 1) 6726 with
       | false => none
       | true =>
       (match f_X9_shareOf (mo_l s26 5 ((3 * a0) + 1) r25) a2 2 with
       | none => none
       | some r29 =>
        (if r29 ≤ 0 then
         (fc_X9_setTags_c2 (mo_l s26 5 ((3 * a0) + 1) r25) a0 a1 a2 1 0 ((3 * a0) + 2))
        else
         (match f_X9_nextTag (mo_l s26 5 ((3 * a0) + 1) r25) a1 a2 2 with
         | none => none
         | some (r33, s34) =>
          (match pm_inb ((3 * a0) + 2) 6726 with
          | false => none
          | true =>
          some (mo_l s34 5 ((3 * a0) + 2) r33))))))))))))
def tb_X9_setTags : List pm_I := [(0, .aload_n 0, 0, 0), (1, .iload_n 3, 0, 0), (2, .iconst 0, 2, 0), (3, .invokevirtual 221, 272, 0), (6, .ifCond .le 7, 13, 0), (9, .iconst 1, 3, 0), (10, .goto 4, 14, 0), (13, .iconst 0, 2, 0), (14, .istore 4, 0, 0), (16, .aload_n 0, 0, 0), (17, .iload_n 1, 0, 0), (18, .bipush 6, 8, 0), (20, .iload 4, 0, 0), (22, .ifCond .eq 7, 29, 0), (25, .iconst 1, 3, 0), (26, .goto 4, 30, 0), (29, .iconst 0, 2, 0), (30, .invokevirtual 244, 286, 0), (33, .aload_n 0, 0, 0), (34, .getfield 22, 164, 0), (37, .iconst 3, 5, 0), (38, .iload_n 1, 0, 0), (39, .imul, 0, 0), (40, .iconst 0, 2, 0), (41, .iadd, 0, 0), (42, .iload 4, 0, 0), (44, .ifCond .eq 13, 57, 0), (47, .aload_n 0, 0, 0), (48, .iload_n 2, 0, 0), (49, .iload_n 3, 0, 0), (50, .iconst 0, 2, 0), (51, .invokevirtual 247, 288, 0), (54, .goto 4, 58, 0), (57, .lconst 0, 0, 0), (58, .lastore, 0, 0), (59, .aload_n 0, 0, 0), (60, .getfield 22, 164, 0), (63, .iconst 3, 5, 0), (64, .iload_n 1, 0, 0), (65, .imul, 0, 0), (66, .iconst 1, 3, 0), (67, .iadd, 0, 0), (68, .aload_n 0, 0, 0), (69, .iload_n 2, 0, 0), (70, .iload_n 3, 0, 0), (71, .iconst 1, 3, 0), (72, .invokevirtual 247, 288, 0), (75, .lastore, 0, 0), (76, .aload_n 0, 0, 0), (77, .getfield 22, 164, 0), (80, .iconst 3, 5, 0), (81, .iload_n 1, 0, 0), (82, .imul, 0, 0), (83, .iconst 2, 4, 0), (84, .iadd, 0, 0), (85, .aload_n 0, 0, 0), (86, .iload_n 3, 0, 0), (87, .iconst 2, 4, 0), (88, .invokevirtual 221, 272, 0), (91, .ifCond .le 13, 104, 0), (94, .aload_n 0, 0, 0), (95, .iload_n 2, 0, 0), (96, .iload_n 3, 0, 0), (97, .iconst 2, 4, 0), (98, .invokevirtual 247, 288, 0), (101, .goto 4, 105, 0), (104, .lconst 0, 0, 0), (105, .lastore, 0, 0), (106, .return_, 0, 0)]
theorem tk_X9_setTags : ∀ e ∈ tb_X9_setTags, pm_ck 206 e = true := List.all_eq_true.mp (by decide +kernel)
set_option maxRecDepth 20000 in
set_option maxHeartbeats 20000000 in
theorem ec_X9_setTags_c1 (d : Nat) (hd : 4 ≤ d) (gx : List pm_E) (gs : List (List pm_E)) (q : Nat × Nat × Nat) (s : mo_S) (l1 : Int32) (l2 : Int32) (l3 : Int32) (l4 : Int32) (k0 : Int64) (k1 : Int32) (s1 : mo_S) (H : fc_X9_setTags_c1 s l1 l2 l3 l4 k0 k1 = some s1) : pm_Wg 206 d (.inl (none)) (mo_h gx s1 gs q) (105, [some (.ref 64), some (.int l1), some (.int l2), some (.int l3), some (.int l4)], [.long k0, .int k1, .ref 69], mo_h gx s gs q) := by
  obtain ⟨d, rfl⟩ : ∃ d', d = d' + 1 := ⟨d - 1, by omega⟩
  unfold fc_X9_setTags_c1 at H
  try dsimp only at H
  cases b14 : pm_inb k1 6726 with
  | false => rw [b14] at H; cases H
  | true =>
   rw [b14] at H
   dsimp only at H
   injection H with H
   subst H
   refine pm_Wg.path (k := 1) (ds := []) (f' := (106, [some (.ref 64), some (.int l1), some (.int l2), some (.int l3), some (.int l4)], [], mo_h gx (mo_l s 5 k1 k0) gs q)) tk_X9_setTags (by omega) rfl ⟨pm_inb_vp b14, trivial⟩ ?_
   exact pm_Wg.vret (pm_dec tk_X9_setTags rfl) rfl
set_option maxRecDepth 20000 in
set_option maxHeartbeats 20000000 in
theorem ec_X9_setTags_c2 (d : Nat) (hd : 4 ≤ d) (gx : List pm_E) (gs : List (List pm_E)) (q : Nat × Nat × Nat) (s : mo_S) (l1 : Int32) (l2 : Int32) (l3 : Int32) (l4 : Int32) (k0 : Int64) (k1 : Int32) (s1 : mo_S) (H : fc_X9_setTags_c2 s l1 l2 l3 l4 k0 k1 = some s1) : pm_Wg 206 d (.inl (none)) (mo_h gx s1 gs q) (105, [some (.ref 64), some (.int l1), some (.int l2), some (.int l3), some (.int l4)], [.long k0, .int k1, .ref 69], mo_h gx s gs q) := by
  obtain ⟨d, rfl⟩ : ∃ d', d = d' + 1 := ⟨d - 1, by omega⟩
  unfold fc_X9_setTags_c2 at H
  try dsimp only at H
  cases b32 : pm_inb k1 6726 with
  | false => rw [b32] at H; cases H
  | true =>
   rw [b32] at H
   dsimp only at H
   injection H with H
   subst H
   refine pm_Wg.path (k := 1) (ds := []) (f' := (106, [some (.ref 64), some (.int l1), some (.int l2), some (.int l3), some (.int l4)], [], mo_h gx (mo_l s 5 k1 k0) gs q)) tk_X9_setTags (by omega) rfl ⟨pm_inb_vp b32, trivial⟩ ?_
   exact pm_Wg.vret (pm_dec tk_X9_setTags rfl) rfl
set_option maxRecDepth 20000 in
set_option maxHeartbeats 20000000 in
theorem e_X9_setTags (d : Nat) (hd : 4 ≤ d) (gx : List pm_E) (gs : List (List pm_E)) (q : Nat × Nat × Nat) (s : mo_S) (a0 : Int32) (a1 : Int32) (a2 : Int32) (s1 : mo_S) (H : f_X9_setTags s a0 a1 a2 = some s1) : pm_Mt 206 d [.ref 64, .int a0, .int a1, .int a2] (mo_h gx s gs q) (.inl (none)) (mo_h gx s1 gs q) := by
  refine pm_Mt.of (by decide) (by decide +kernel) rfl rfl ?_
  obtain ⟨d, rfl⟩ : ∃ d', d = d' + 1 := ⟨d - 1, by omega⟩
  unfold f_X9_setTags at H
  cases q2 : f_X9_shareOf s a2 0 with
  | none => rw [q2] at H; cases H
  | some r1 =>
   rw [q2] at H
   dsimp only at H
   refine pm_Wg.path (k := 3) (ds := []) (f' := (3, [some (.ref 64), some (.int a0), some (.int a1), some (.int a2), none], [.int 0, .int a2, .ref 64], mo_h gx s gs q)) tk_X9_setTags (by omega) rfl trivial ?_
   refine pm_Wg.callV (m' := 157) (ix := 221) (rr := 272) (pl := 1675) (b := 64) (As := [.int a2, .int 0]) (S := []) (by decide) rfl (pm_dec tk_X9_setTags rfl) rfl rfl (by decide) rfl rfl (by decide) (Nat.le_of_ble_eq_true rfl) rfl (e_X9_shareOf d (by omega) gx gs q _ _ _ _ q2) ?_
   by_cases h3 : r1 ≤ 0
   · rw [if_pos h3] at H
     cases q5 : f_X9_set s a0 6 0 with
     | none => rw [q5] at H; cases H
     | some s4 =>
      rw [q5] at H
      dsimp only at H
      refine pm_Wg.path (k := 9) (ds := [1, 1]) (f' := (30, [some (.ref 64), some (.int a0), some (.int a1), some (.int a2), some (.int 0)], [.int 0, .int 6, .int a0, .ref 64], mo_h gx s gs q)) tk_X9_setTags (by omega) rfl ⟨(by decide), h3, trivial⟩ ?_
      refine pm_Wg.callV (m' := 201) (ix := 244) (rr := 286) (pl := 1730) (b := 64) (As := [.int a0, .int 6, .int 0]) (S := []) (by decide) rfl (pm_dec tk_X9_setTags rfl) rfl rfl (by decide) rfl rfl (by decide) (Nat.le_of_ble_eq_true rfl) rfl (e_X9_set d (by omega) gx gs q _ _ _ _ _ q5) ?_
      cases b6 : pm_inb ((3 * a0) + 0) 6726 with
      | false => rw [b6] at H; cases H
      | true =>
       rw [b6] at H
       dsimp only at H
       cases q9 : f_X9_nextTag (mo_l s4 5 ((3 * a0) + 0) 0) a1 a2 1 with
       | none => rw [q9] at H; cases H
       | some w =>
        obtain ⟨r7, s8⟩ := w
        rw [q9] at H
        dsimp only at H
        refine pm_Wg.path (k := 22) (ds := [1]) (f' := (72, [some (.ref 64), some (.int a0), some (.int a1), some (.int a2), some (.int 0)], [.int 1, .int a2, .int a1, .ref 64, .int ((3 * a0) + 1), .ref 69], mo_h gx (mo_l s4 5 ((3 * a0) + 0) 0) gs q)) tk_X9_setTags (by omega) rfl ⟨pm_inb_vp b6, (by decide), trivial⟩ ?_
        refine pm_Wg.callV (m' := 205) (ix := 247) (rr := 288) (pl := 1738) (b := 64) (As := [.int a1, .int a2, .int 1]) (S := [.int ((3 * a0) + 1), .ref 69]) (by decide) rfl (pm_dec tk_X9_setTags rfl) rfl rfl (by decide) rfl rfl (by decide) (Nat.le_of_ble_eq_true rfl) rfl (e_X9_nextTag d (by omega) gx gs q _ _ _ _ _ _ q9) ?_
        cases b10 : pm_inb ((3 * a0) + 1) 6726 with
        | false => rw [b10] at H; cases H
        | true =>
         rw [b10] at H
         dsimp only at H
         cases q12 : f_X9_shareOf (mo_l s8 5 ((3 * a0) + 1) r7) a2 2 with
         | none => rw [q12] at H; cases H
         | some r11 =>
          rw [q12] at H
          dsimp only at H
          refine pm_Wg.path (k := 11) (ds := []) (f' := (88, [some (.ref 64), some (.int a0), some (.int a1), some (.int a2), some (.int 0)], [.int 2, .int a2, .ref 64, .int ((3 * a0) + 2), .ref 69], mo_h gx (mo_l s8 5 ((3 * a0) + 1) r7) gs q)) tk_X9_setTags (by omega) rfl ⟨pm_inb_vp b10, trivial⟩ ?_
          refine pm_Wg.callV (m' := 157) (ix := 221) (rr := 272) (pl := 1675) (b := 64) (As := [.int a2, .int 2]) (S := [.int ((3 * a0) + 2), .ref 69]) (by decide) rfl (pm_dec tk_X9_setTags rfl) rfl rfl (by decide) rfl rfl (by decide) (Nat.le_of_ble_eq_true rfl) rfl (e_X9_shareOf d (by omega) gx gs q _ _ _ _ q12) ?_
          by_cases h13 : r11 ≤ 0
          · rw [if_pos h13] at H
            refine pm_Wg.path (k := 2) (ds := [1]) (f' := (105, [some (.ref 64), some (.int a0), some (.int a1), some (.int a2), some (.int 0)], [.long 0, .int ((3 * a0) + 2), .ref 69], mo_h gx (mo_l s8 5 ((3 * a0) + 1) r7) gs q)) tk_X9_setTags (by omega) rfl ⟨h13, trivial⟩ ?_
            exact ec_X9_setTags_c1 (d + 1) (by omega) gx gs q _ _ _ _ _ _ _ _ H
          · rw [if_neg h13] at H
            cases q17 : f_X9_nextTag (mo_l s8 5 ((3 * a0) + 1) r7) a1 a2 2 with
            | none => rw [q17] at H; cases H
            | some w =>
             obtain ⟨r15, s16⟩ := w
             rw [q17] at H
             dsimp only at H
             refine pm_Wg.path (k := 5) (ds := [0]) (f' := (98, [some (.ref 64), some (.int a0), some (.int a1), some (.int a2), some (.int 0)], [.int 2, .int a2, .int a1, .ref 64, .int ((3 * a0) + 2), .ref 69], mo_h gx (mo_l s8 5 ((3 * a0) + 1) r7) gs q)) tk_X9_setTags (by omega) rfl ⟨h13, trivial⟩ ?_
             refine pm_Wg.callV (m' := 205) (ix := 247) (rr := 288) (pl := 1738) (b := 64) (As := [.int a1, .int a2, .int 2]) (S := [.int ((3 * a0) + 2), .ref 69]) (by decide) rfl (pm_dec tk_X9_setTags rfl) rfl rfl (by decide) rfl rfl (by decide) (Nat.le_of_ble_eq_true rfl) rfl (e_X9_nextTag d (by omega) gx gs q _ _ _ _ _ _ q17) ?_
             cases b18 : pm_inb ((3 * a0) + 2) 6726 with
             | false => rw [b18] at H; cases H
             | true =>
              rw [b18] at H
              dsimp only at H
              injection H with H
              subst H
              refine pm_Wg.path (k := 2) (ds := []) (f' := (106, [some (.ref 64), some (.int a0), some (.int a1), some (.int a2), some (.int 0)], [], mo_h gx (mo_l s16 5 ((3 * a0) + 2) r15) gs q)) tk_X9_setTags (by omega) rfl ⟨pm_inb_vp b18, trivial⟩ ?_
              exact pm_Wg.vret (pm_dec tk_X9_setTags rfl) rfl
   · rw [if_neg h3] at H
     cases q20 : f_X9_set s a0 6 1 with
     | none => rw [q20] at H; cases H
     | some s19 =>
      rw [q20] at H
      dsimp only at H
      refine pm_Wg.path (k := 11) (ds := [0, 0]) (f' := (30, [some (.ref 64), some (.int a0), some (.int a1), some (.int a2), some (.int 1)], [.int 1, .int 6, .int a0, .ref 64], mo_h gx s gs q)) tk_X9_setTags (by omega) rfl ⟨(by decide), h3, trivial⟩ ?_
      refine pm_Wg.callV (m' := 201) (ix := 244) (rr := 286) (pl := 1730) (b := 64) (As := [.int a0, .int 6, .int 1]) (S := []) (by decide) rfl (pm_dec tk_X9_setTags rfl) rfl rfl (by decide) rfl rfl (by decide) (Nat.le_of_ble_eq_true rfl) rfl (e_X9_set d (by omega) gx gs q _ _ _ _ _ q20) ?_
      cases q23 : f_X9_nextTag s19 a1 a2 0 with
      | none => rw [q23] at H; cases H
      | some w =>
       obtain ⟨r21, s22⟩ := w
       rw [q23] at H
       dsimp only at H
       refine pm_Wg.path (k := 13) (ds := [0]) (f' := (51, [some (.ref 64), some (.int a0), some (.int a1), some (.int a2), some (.int 1)], [.int 0, .int a2, .int a1, .ref 64, .int ((3 * a0) + 0), .ref 69], mo_h gx s19 gs q)) tk_X9_setTags (by omega) rfl ⟨(by decide), trivial⟩ ?_
       refine pm_Wg.callV (m' := 205) (ix := 247) (rr := 288) (pl := 1738) (b := 64) (As := [.int a1, .int a2, .int 0]) (S := [.int ((3 * a0) + 0), .ref 69]) (by decide) rfl (pm_dec tk_X9_setTags rfl) rfl rfl (by decide) rfl rfl (by decide) (Nat.le_of_ble_eq_true rfl) rfl (e_X9_nextTag d (by omega) gx gs q _ _ _ _ _ _ q23) ?_
       cases b24 : pm_inb ((3 * a0) + 0) 6726 with
       | false => rw [b24] at H; cases H
       | true =>
        rw [b24] at H
        dsimp only at H
        cases q27 : f_X9_nextTag (mo_l s22 5 ((3 * a0) + 0) r21) a1 a2 1 with
        | none => rw [q27] at H; cases H
        | some w =>
         obtain ⟨r25, s26⟩ := w
         rw [q27] at H
         dsimp only at H
         refine pm_Wg.path (k := 13) (ds := []) (f' := (72, [some (.ref 64), some (.int a0), some (.int a1), some (.int a2), some (.int 1)], [.int 1, .int a2, .int a1, .ref 64, .int ((3 * a0) + 1), .ref 69], mo_h gx (mo_l s22 5 ((3 * a0) + 0) r21) gs q)) tk_X9_setTags (by omega) rfl ⟨pm_inb_vp b24, trivial⟩ ?_
         refine pm_Wg.callV (m' := 205) (ix := 247) (rr := 288) (pl := 1738) (b := 64) (As := [.int a1, .int a2, .int 1]) (S := [.int ((3 * a0) + 1), .ref 69]) (by decide) rfl (pm_dec tk_X9_setTags rfl) rfl rfl (by decide) rfl rfl (by decide) (Nat.le_of_ble_eq_true rfl) rfl (e_X9_nextTag d (by omega) gx gs q _ _ _ _ _ _ q27) ?_
         cases b28 : pm_inb ((3 * a0) + 1) 6726 with
         | false => rw [b28] at H; cases H
         | true =>
          rw [b28] at H
          dsimp only at H
          cases q30 : f_X9_shareOf (mo_l s26 5 ((3 * a0) + 1) r25) a2 2 with
          | none => rw [q30] at H; cases H
          | some r29 =>
           rw [q30] at H
           dsimp only at H
           refine pm_Wg.path (k := 11) (ds := []) (f' := (88, [some (.ref 64), some (.int a0), some (.int a1), some (.int a2), some (.int 1)], [.int 2, .int a2, .ref 64, .int ((3 * a0) + 2), .ref 69], mo_h gx (mo_l s26 5 ((3 * a0) + 1) r25) gs q)) tk_X9_setTags (by omega) rfl ⟨pm_inb_vp b28, trivial⟩ ?_
           refine pm_Wg.callV (m' := 157) (ix := 221) (rr := 272) (pl := 1675) (b := 64) (As := [.int a2, .int 2]) (S := [.int ((3 * a0) + 2), .ref 69]) (by decide) rfl (pm_dec tk_X9_setTags rfl) rfl rfl (by decide) rfl rfl (by decide) (Nat.le_of_ble_eq_true rfl) rfl (e_X9_shareOf d (by omega) gx gs q _ _ _ _ q30) ?_
           by_cases h31 : r29 ≤ 0
           · rw [if_pos h31] at H
             refine pm_Wg.path (k := 2) (ds := [1]) (f' := (105, [some (.ref 64), some (.int a0), some (.int a1), some (.int a2), some (.int 1)], [.long 0, .int ((3 * a0) + 2), .ref 69], mo_h gx (mo_l s26 5 ((3 * a0) + 1) r25) gs q)) tk_X9_setTags (by omega) rfl ⟨h31, trivial⟩ ?_
             exact ec_X9_setTags_c2 (d + 1) (by omega) gx gs q _ _ _ _ _ _ _ _ H
           · rw [if_neg h31] at H
             cases q35 : f_X9_nextTag (mo_l s26 5 ((3 * a0) + 1) r25) a1 a2 2 with
             | none => rw [q35] at H; cases H
             | some w =>
              obtain ⟨r33, s34⟩ := w
              rw [q35] at H
              dsimp only at H
              refine pm_Wg.path (k := 5) (ds := [0]) (f' := (98, [some (.ref 64), some (.int a0), some (.int a1), some (.int a2), some (.int 1)], [.int 2, .int a2, .int a1, .ref 64, .int ((3 * a0) + 2), .ref 69], mo_h gx (mo_l s26 5 ((3 * a0) + 1) r25) gs q)) tk_X9_setTags (by omega) rfl ⟨h31, trivial⟩ ?_
              refine pm_Wg.callV (m' := 205) (ix := 247) (rr := 288) (pl := 1738) (b := 64) (As := [.int a1, .int a2, .int 2]) (S := [.int ((3 * a0) + 2), .ref 69]) (by decide) rfl (pm_dec tk_X9_setTags rfl) rfl rfl (by decide) rfl rfl (by decide) (Nat.le_of_ble_eq_true rfl) rfl (e_X9_nextTag d (by omega) gx gs q _ _ _ _ _ _ q35) ?_
              cases b36 : pm_inb ((3 * a0) + 2) 6726 with
              | false => rw [b36] at H; cases H
              | true =>
               rw [b36] at H
               dsimp only at H
               injection H with H
               subst H
               refine pm_Wg.path (k := 2) (ds := []) (f' := (106, [some (.ref 64), some (.int a0), some (.int a1), some (.int a2), some (.int 1)], [], mo_h gx (mo_l s34 5 ((3 * a0) + 2) r33) gs q)) tk_X9_setTags (by omega) rfl ⟨pm_inb_vp b36, trivial⟩ ?_
               exact pm_Wg.vret (pm_dec tk_X9_setTags rfl) rfl
def f_X9_queue (s : mo_S) (a0 : Int32) (a1 : Int32) (a2 : Int32) (a3 : Int32) (a4 : Int32) (a5 : Int32) : Option mo_S :=
  (match pm_inb 8 18186 with
  | false => none
  | true =>
  (match f_X9_queueOf s a0 a1 with
  | none => none
  | some r2 =>
   (match f_X9_of s (s.2.2.1 3 (Int32.toNatClampNeg 8)) 5 with
   | none => none
   | some r4 =>
    (match f_X9_set (mo_a s 3 8 r4) (s.2.2.1 3 (Int32.toNatClampNeg 8)) 0 a1 with
    | none => none
    | some s7 =>
     (match f_X9_set s7 (s.2.2.1 3 (Int32.toNatClampNeg 8)) 1 a2 with
     | none => none
     | some s9 =>
      (match f_X9_set s9 (s.2.2.1 3 (Int32.toNatClampNeg 8)) 2 a3 with
      | none => none
      | some s11 =>
       (match f_X9_set s11 (s.2.2.1 3 (Int32.toNatClampNeg 8)) 3 a4 with
       | none => none
       | some s13 =>
        (match f_X9_set s13 (s.2.2.1 3 (Int32.toNatClampNeg 8)) 4 a5 with
        | none => none
        | some s15 =>
         (match f_X9_set s15 (s.2.2.1 3 (Int32.toNatClampNeg 8)) 5 (-1) with
         | none => none
         | some s17 =>
          (match f_X9_setTags s17 (s.2.2.1 3 (Int32.toNatClampNeg 8)) r2 a1 with
          | none => none
          | some s19 =>
           (match f_X9_ofQueue s19 r2 0 with
           | none => none
           | some r21 =>
            (if r21 = (-1) then
             (match f_X9_setQueue s19 r2 0 (s.2.2.1 3 (Int32.toNatClampNeg 8)) with
             | none => none
             | some s24 =>
              (match f_X9_setQueue s24 r2 1 (s.2.2.1 3 (Int32.toNatClampNeg 8)) with
              | none => none
              | some s26 =>
               (match f_X9_ofQueue s26 r2 2 with
               | none => none
               | some r28 =>
                (match f_X9_setQueue s26 r2 2 (r28 + 1) with
                | none => none
                | some s30 =>
                 (if a5 = (-1) then
                  some s30
                 else
                  (match f_X9_addPending s30 a5 1 with
                  | none => none
                  | some s33 =>
                   some s33))))))
            else
             (match f_X9_ofQueue s19 r2 1 with
             | none => none
             | some r35 =>
              (match f_X9_set s19 r35 5 (s.2.2.1 3 (Int32.toNatClampNeg 8)) with
              | none => none
              | some s37 =>
               (match f_X9_setQueue s37 r2 1 (s.2.2.1 3 (Int32.toNatClampNeg 8)) with
               | none => none
               | some s39 =>
                (match f_X9_ofQueue s39 r2 2 with
                | none => none
                | some r41 =>
                 (match f_X9_setQueue s39 r2 2 (r41 + 1) with
                 | none => none
                 | some s43 =>
                  (if a5 = (-1) then
                   some s43
                  else
                   (match f_X9_addPending s43 a5 1 with
                   | none => none
                   | some s46 =>
                    some s46)))))))))))))))))))
def tb_X9_queue : List pm_I := [(0, .aload_n 0, 0, 0), (1, .getfield 16, 162, 0), (4, .bipush 8, 10, 0), (6, .iaload, 0, 0), (7, .istore 7, 0, 0), (9, .iload_n 1, 0, 0), (10, .iload_n 2, 0, 0), (11, .invokestatic 251, 284, 0), (14, .istore 8, 0, 0), (16, .aload_n 0, 0, 0), (17, .getfield 16, 162, 0), (20, .bipush 8, 10, 0), (22, .aload_n 0, 0, 0), (23, .iload 7, 0, 0), (25, .iconst 5, 7, 0), (26, .invokevirtual 254, 285, 0), (29, .iastore, 0, 0), (30, .aload_n 0, 0, 0), (31, .iload 7, 0, 0), (33, .iconst 0, 2, 0), (34, .iload_n 2, 0, 0), (35, .invokevirtual 244, 286, 0), (38, .aload_n 0, 0, 0), (39, .iload 7, 0, 0), (41, .iconst 1, 3, 0), (42, .iload_n 3, 0, 0), (43, .invokevirtual 244, 286, 0), (46, .aload_n 0, 0, 0), (47, .iload 7, 0, 0), (49, .iconst 2, 4, 0), (50, .iload 4, 0, 0), (52, .invokevirtual 244, 286, 0), (55, .aload_n 0, 0, 0), (56, .iload 7, 0, 0), (58, .iconst 3, 5, 0), (59, .iload 5, 0, 0), (61, .invokevirtual 244, 286, 0), (64, .aload_n 0, 0, 0), (65, .iload 7, 0, 0), (67, .iconst 4, 6, 0), (68, .iload 6, 0, 0), (70, .invokevirtual 244, 286, 0), (73, .aload_n 0, 0, 0), (74, .iload 7, 0, 0), (76, .iconst 5, 7, 0), (77, .iconst (-1), 1, 0), (78, .invokevirtual 244, 286, 0), (81, .aload_n 0, 0, 0), (82, .iload 7, 0, 0), (84, .iload 8, 0, 0), (86, .iload_n 2, 0, 0), (87, .invokevirtual 257, 287, 0), (90, .aload_n 0, 0, 0), (91, .iload 8, 0, 0), (93, .iconst 0, 2, 0), (94, .invokevirtual 233, 290, 0), (97, .iconst (-1), 1, 0), (98, .if_icmp .ne 15, 113, 0), (101, .aload_n 0, 0, 0), (102, .iload 8, 0, 0), (104, .iconst 0, 2, 0), (105, .iload 7, 0, 0), (107, .invokevirtual 240, 292, 0), (110, .goto 17, 127, 0), (113, .aload_n 0, 0, 0), (114, .aload_n 0, 0, 0), (115, .iload 8, 0, 0), (117, .iconst 1, 3, 0), (118, .invokevirtual 233, 290, 0), (121, .iconst 5, 7, 0), (122, .iload 7, 0, 0), (124, .invokevirtual 244, 286, 0), (127, .aload_n 0, 0, 0), (128, .iload 8, 0, 0), (130, .iconst 1, 3, 0), (131, .iload 7, 0, 0), (133, .invokevirtual 240, 292, 0), (136, .aload_n 0, 0, 0), (137, .iload 8, 0, 0), (139, .iconst 2, 4, 0), (140, .aload_n 0, 0, 0), (141, .iload 8, 0, 0), (143, .iconst 2, 4, 0), (144, .invokevirtual 233, 290, 0), (147, .iconst 1, 3, 0), (148, .iadd, 0, 0), (149, .invokevirtual 240, 292, 0), (152, .iload 6, 0, 0), (154, .iconst (-1), 1, 0), (155, .if_icmp .eq 10, 165, 0), (158, .aload_n 0, 0, 0), (159, .iload 6, 0, 0), (161, .iconst 1, 3, 0), (162, .invokevirtual 260, 293, 0), (165, .return_, 0, 0)]
theorem tk_X9_queue : ∀ e ∈ tb_X9_queue, pm_ck 207 e = true := List.all_eq_true.mp (by decide +kernel)
set_option maxRecDepth 20000 in
set_option maxHeartbeats 20000000 in
theorem e_X9_queue (d : Nat) (hd : 5 ≤ d) (gx : List pm_E) (gs : List (List pm_E)) (q : Nat × Nat × Nat) (s : mo_S) (a0 : Int32) (a1 : Int32) (a2 : Int32) (a3 : Int32) (a4 : Int32) (a5 : Int32) (s1 : mo_S) (H : f_X9_queue s a0 a1 a2 a3 a4 a5 = some s1) : pm_Mt 207 d [.ref 64, .int a0, .int a1, .int a2, .int a3, .int a4, .int a5] (mo_h gx s gs q) (.inl (none)) (mo_h gx s1 gs q) := by
  refine pm_Mt.of (by decide) (by decide +kernel) rfl rfl ?_
  obtain ⟨d, rfl⟩ : ∃ d', d = d' + 1 := ⟨d - 1, by omega⟩
  unfold f_X9_queue at H
  cases b1 : pm_inb 8 18186 with
  | false => rw [b1] at H; cases H
  | true =>
   rw [b1] at H
   dsimp only at H
   cases q3 : f_X9_queueOf s a0 a1 with
   | none => rw [q3] at H; cases H
   | some r2 =>
    rw [q3] at H
    dsimp only at H
    refine pm_Wg.path (k := 7) (ds := []) (f' := (11, [some (.ref 64), some (.int a0), some (.int a1), some (.int a2), some (.int a3), some (.int a4), some (.int a5), some (.int (s.2.2.1 3 (Int32.toNatClampNeg 8))), none], [.int a1, .int a0], mo_h gx s gs q)) tk_X9_queue (by omega) rfl ⟨pm_inb_vp b1, trivial⟩ ?_
    refine pm_Wg.callS (m' := 197) (ix := 251) (rr := 284) (pl := 1723) (As := [.int a0, .int a1]) (S := []) (by decide) rfl (pm_dec tk_X9_queue rfl) rfl rfl rfl (Nat.le_of_ble_eq_true rfl) rfl (e_X9_queueOf d (by omega) gx gs q _ _ _ _ q3) ?_
    cases q5 : f_X9_of s (s.2.2.1 3 (Int32.toNatClampNeg 8)) 5 with
    | none => rw [q5] at H; cases H
    | some r4 =>
     rw [q5] at H
     dsimp only at H
     refine pm_Wg.path (k := 7) (ds := []) (f' := (26, [some (.ref 64), some (.int a0), some (.int a1), some (.int a2), some (.int a3), some (.int a4), some (.int a5), some (.int (s.2.2.1 3 (Int32.toNatClampNeg 8))), some (.int r2)], [.int 5, .int (s.2.2.1 3 (Int32.toNatClampNeg 8)), .ref 64, .int 8, .ref 67], mo_h gx s gs q)) tk_X9_queue (by omega) rfl trivial ?_
     refine pm_Wg.callV (m' := 200) (ix := 254) (rr := 285) (pl := 1726) (b := 64) (As := [.int (s.2.2.1 3 (Int32.toNatClampNeg 8)), .int 5]) (S := [.int 8, .ref 67]) (by decide) rfl (pm_dec tk_X9_queue rfl) rfl rfl (by decide) rfl rfl (by decide) (Nat.le_of_ble_eq_true rfl) rfl (e_X9_of d (by omega) gx gs q _ _ _ _ q5) ?_
     cases q8 : f_X9_set (mo_a s 3 8 r4) (s.2.2.1 3 (Int32.toNatClampNeg 8)) 0 a1 with
     | none => rw [q8] at H; cases H
     | some s7 =>
      rw [q8] at H
      dsimp only at H
      refine pm_Wg.path (k := 5) (ds := []) (f' := (35, [some (.ref 64), some (.int a0), some (.int a1), some (.int a2), some (.int a3), some (.int a4), some (.int a5), some (.int (s.2.2.1 3 (Int32.toNatClampNeg 8))), some (.int r2)], [.int a1, .int 0, .int (s.2.2.1 3 (Int32.toNatClampNeg 8)), .ref 64], mo_h gx (mo_a s 3 8 r4) gs q)) tk_X9_queue (by omega) rfl ⟨pm_inb_vp b1, trivial⟩ ?_
      refine pm_Wg.callV (m' := 201) (ix := 244) (rr := 286) (pl := 1730) (b := 64) (As := [.int (s.2.2.1 3 (Int32.toNatClampNeg 8)), .int 0, .int a1]) (S := []) (by decide) rfl (pm_dec tk_X9_queue rfl) rfl rfl (by decide) rfl rfl (by decide) (Nat.le_of_ble_eq_true rfl) rfl (e_X9_set d (by omega) gx gs q _ _ _ _ _ q8) ?_
      cases q10 : f_X9_set s7 (s.2.2.1 3 (Int32.toNatClampNeg 8)) 1 a2 with
      | none => rw [q10] at H; cases H
      | some s9 =>
       rw [q10] at H
       dsimp only at H
       refine pm_Wg.path (k := 4) (ds := []) (f' := (43, [some (.ref 64), some (.int a0), some (.int a1), some (.int a2), some (.int a3), some (.int a4), some (.int a5), some (.int (s.2.2.1 3 (Int32.toNatClampNeg 8))), some (.int r2)], [.int a2, .int 1, .int (s.2.2.1 3 (Int32.toNatClampNeg 8)), .ref 64], mo_h gx s7 gs q)) tk_X9_queue (by omega) rfl trivial ?_
       refine pm_Wg.callV (m' := 201) (ix := 244) (rr := 286) (pl := 1730) (b := 64) (As := [.int (s.2.2.1 3 (Int32.toNatClampNeg 8)), .int 1, .int a2]) (S := []) (by decide) rfl (pm_dec tk_X9_queue rfl) rfl rfl (by decide) rfl rfl (by decide) (Nat.le_of_ble_eq_true rfl) rfl (e_X9_set d (by omega) gx gs q _ _ _ _ _ q10) ?_
       cases q12 : f_X9_set s9 (s.2.2.1 3 (Int32.toNatClampNeg 8)) 2 a3 with
       | none => rw [q12] at H; cases H
       | some s11 =>
        rw [q12] at H
        dsimp only at H
        refine pm_Wg.path (k := 4) (ds := []) (f' := (52, [some (.ref 64), some (.int a0), some (.int a1), some (.int a2), some (.int a3), some (.int a4), some (.int a5), some (.int (s.2.2.1 3 (Int32.toNatClampNeg 8))), some (.int r2)], [.int a3, .int 2, .int (s.2.2.1 3 (Int32.toNatClampNeg 8)), .ref 64], mo_h gx s9 gs q)) tk_X9_queue (by omega) rfl trivial ?_
        refine pm_Wg.callV (m' := 201) (ix := 244) (rr := 286) (pl := 1730) (b := 64) (As := [.int (s.2.2.1 3 (Int32.toNatClampNeg 8)), .int 2, .int a3]) (S := []) (by decide) rfl (pm_dec tk_X9_queue rfl) rfl rfl (by decide) rfl rfl (by decide) (Nat.le_of_ble_eq_true rfl) rfl (e_X9_set d (by omega) gx gs q _ _ _ _ _ q12) ?_
        cases q14 : f_X9_set s11 (s.2.2.1 3 (Int32.toNatClampNeg 8)) 3 a4 with
        | none => rw [q14] at H; cases H
        | some s13 =>
         rw [q14] at H
         dsimp only at H
         refine pm_Wg.path (k := 4) (ds := []) (f' := (61, [some (.ref 64), some (.int a0), some (.int a1), some (.int a2), some (.int a3), some (.int a4), some (.int a5), some (.int (s.2.2.1 3 (Int32.toNatClampNeg 8))), some (.int r2)], [.int a4, .int 3, .int (s.2.2.1 3 (Int32.toNatClampNeg 8)), .ref 64], mo_h gx s11 gs q)) tk_X9_queue (by omega) rfl trivial ?_
         refine pm_Wg.callV (m' := 201) (ix := 244) (rr := 286) (pl := 1730) (b := 64) (As := [.int (s.2.2.1 3 (Int32.toNatClampNeg 8)), .int 3, .int a4]) (S := []) (by decide) rfl (pm_dec tk_X9_queue rfl) rfl rfl (by decide) rfl rfl (by decide) (Nat.le_of_ble_eq_true rfl) rfl (e_X9_set d (by omega) gx gs q _ _ _ _ _ q14) ?_
         cases q16 : f_X9_set s13 (s.2.2.1 3 (Int32.toNatClampNeg 8)) 4 a5 with
         | none => rw [q16] at H; cases H
         | some s15 =>
          rw [q16] at H
          dsimp only at H
          refine pm_Wg.path (k := 4) (ds := []) (f' := (70, [some (.ref 64), some (.int a0), some (.int a1), some (.int a2), some (.int a3), some (.int a4), some (.int a5), some (.int (s.2.2.1 3 (Int32.toNatClampNeg 8))), some (.int r2)], [.int a5, .int 4, .int (s.2.2.1 3 (Int32.toNatClampNeg 8)), .ref 64], mo_h gx s13 gs q)) tk_X9_queue (by omega) rfl trivial ?_
          refine pm_Wg.callV (m' := 201) (ix := 244) (rr := 286) (pl := 1730) (b := 64) (As := [.int (s.2.2.1 3 (Int32.toNatClampNeg 8)), .int 4, .int a5]) (S := []) (by decide) rfl (pm_dec tk_X9_queue rfl) rfl rfl (by decide) rfl rfl (by decide) (Nat.le_of_ble_eq_true rfl) rfl (e_X9_set d (by omega) gx gs q _ _ _ _ _ q16) ?_
          cases q18 : f_X9_set s15 (s.2.2.1 3 (Int32.toNatClampNeg 8)) 5 (-1) with
          | none => rw [q18] at H; cases H
          | some s17 =>
           rw [q18] at H
           dsimp only at H
           refine pm_Wg.path (k := 4) (ds := []) (f' := (78, [some (.ref 64), some (.int a0), some (.int a1), some (.int a2), some (.int a3), some (.int a4), some (.int a5), some (.int (s.2.2.1 3 (Int32.toNatClampNeg 8))), some (.int r2)], [.int (-1), .int 5, .int (s.2.2.1 3 (Int32.toNatClampNeg 8)), .ref 64], mo_h gx s15 gs q)) tk_X9_queue (by omega) rfl trivial ?_
           refine pm_Wg.callV (m' := 201) (ix := 244) (rr := 286) (pl := 1730) (b := 64) (As := [.int (s.2.2.1 3 (Int32.toNatClampNeg 8)), .int 5, .int (-1)]) (S := []) (by decide) rfl (pm_dec tk_X9_queue rfl) rfl rfl (by decide) rfl rfl (by decide) (Nat.le_of_ble_eq_true rfl) rfl (e_X9_set d (by omega) gx gs q _ _ _ _ _ q18) ?_
           cases q20 : f_X9_setTags s17 (s.2.2.1 3 (Int32.toNatClampNeg 8)) r2 a1 with
           | none => rw [q20] at H; cases H
           | some s19 =>
            rw [q20] at H
            dsimp only at H
            refine pm_Wg.path (k := 4) (ds := []) (f' := (87, [some (.ref 64), some (.int a0), some (.int a1), some (.int a2), some (.int a3), some (.int a4), some (.int a5), some (.int (s.2.2.1 3 (Int32.toNatClampNeg 8))), some (.int r2)], [.int a1, .int r2, .int (s.2.2.1 3 (Int32.toNatClampNeg 8)), .ref 64], mo_h gx s17 gs q)) tk_X9_queue (by omega) rfl trivial ?_
            refine pm_Wg.callV (m' := 206) (ix := 257) (rr := 287) (pl := 1734) (b := 64) (As := [.int (s.2.2.1 3 (Int32.toNatClampNeg 8)), .int r2, .int a1]) (S := []) (by decide) rfl (pm_dec tk_X9_queue rfl) rfl rfl (by decide) rfl rfl (by decide) (Nat.le_of_ble_eq_true rfl) rfl (e_X9_setTags d (by omega) gx gs q _ _ _ _ _ q20) ?_
            cases q22 : f_X9_ofQueue s19 r2 0 with
            | none => rw [q22] at H; cases H
            | some r21 =>
             rw [q22] at H
             dsimp only at H
             refine pm_Wg.path (k := 3) (ds := []) (f' := (94, [some (.ref 64), some (.int a0), some (.int a1), some (.int a2), some (.int a3), some (.int a4), some (.int a5), some (.int (s.2.2.1 3 (Int32.toNatClampNeg 8))), some (.int r2)], [.int 0, .int r2, .ref 64], mo_h gx s19 gs q)) tk_X9_queue (by omega) rfl trivial ?_
             refine pm_Wg.callV (m' := 198) (ix := 233) (rr := 290) (pl := 1747) (b := 64) (As := [.int r2, .int 0]) (S := []) (by decide) rfl (pm_dec tk_X9_queue rfl) rfl rfl (by decide) rfl rfl (by decide) (Nat.le_of_ble_eq_true rfl) rfl (e_X9_ofQueue d (by omega) gx gs q _ _ _ _ q22) ?_
             by_cases h23 : r21 = (-1)
             · rw [if_pos h23] at H
               cases q25 : f_X9_setQueue s19 r2 0 (s.2.2.1 3 (Int32.toNatClampNeg 8)) with
               | none => rw [q25] at H; cases H
               | some s24 =>
                rw [q25] at H
                dsimp only at H
                refine pm_Wg.path (k := 6) (ds := [0]) (f' := (107, [some (.ref 64), some (.int a0), some (.int a1), some (.int a2), some (.int a3), some (.int a4), some (.int a5), some (.int (s.2.2.1 3 (Int32.toNatClampNeg 8))), some (.int r2)], [.int (s.2.2.1 3 (Int32.toNatClampNeg 8)), .int 0, .int r2, .ref 64], mo_h gx s19 gs q)) tk_X9_queue (by omega) rfl ⟨h23, trivial⟩ ?_
                refine pm_Wg.callV (m' := 199) (ix := 240) (rr := 292) (pl := 1756) (b := 64) (As := [.int r2, .int 0, .int (s.2.2.1 3 (Int32.toNatClampNeg 8))]) (S := []) (by decide) rfl (pm_dec tk_X9_queue rfl) rfl rfl (by decide) rfl rfl (by decide) (Nat.le_of_ble_eq_true rfl) rfl (e_X9_setQueue d (by omega) gx gs q _ _ _ _ _ q25) ?_
                cases q27 : f_X9_setQueue s24 r2 1 (s.2.2.1 3 (Int32.toNatClampNeg 8)) with
                | none => rw [q27] at H; cases H
                | some s26 =>
                 rw [q27] at H
                 dsimp only at H
                 refine pm_Wg.path (k := 5) (ds := []) (f' := (133, [some (.ref 64), some (.int a0), some (.int a1), some (.int a2), some (.int a3), some (.int a4), some (.int a5), some (.int (s.2.2.1 3 (Int32.toNatClampNeg 8))), some (.int r2)], [.int (s.2.2.1 3 (Int32.toNatClampNeg 8)), .int 1, .int r2, .ref 64], mo_h gx s24 gs q)) tk_X9_queue (by omega) rfl trivial ?_
                 refine pm_Wg.callV (m' := 199) (ix := 240) (rr := 292) (pl := 1756) (b := 64) (As := [.int r2, .int 1, .int (s.2.2.1 3 (Int32.toNatClampNeg 8))]) (S := []) (by decide) rfl (pm_dec tk_X9_queue rfl) rfl rfl (by decide) rfl rfl (by decide) (Nat.le_of_ble_eq_true rfl) rfl (e_X9_setQueue d (by omega) gx gs q _ _ _ _ _ q27) ?_
                 cases q29 : f_X9_ofQueue s26 r2 2 with
                 | none => rw [q29] at H; cases H
                 | some r28 =>
                  rw [q29] at H
                  dsimp only at H
                  refine pm_Wg.path (k := 6) (ds := []) (f' := (144, [some (.ref 64), some (.int a0), some (.int a1), some (.int a2), some (.int a3), some (.int a4), some (.int a5), some (.int (s.2.2.1 3 (Int32.toNatClampNeg 8))), some (.int r2)], [.int 2, .int r2, .ref 64, .int 2, .int r2, .ref 64], mo_h gx s26 gs q)) tk_X9_queue (by omega) rfl trivial ?_
                  refine pm_Wg.callV (m' := 198) (ix := 233) (rr := 290) (pl := 1747) (b := 64) (As := [.int r2, .int 2]) (S := [.int 2, .int r2, .ref 64]) (by decide) rfl (pm_dec tk_X9_queue rfl) rfl rfl (by decide) rfl rfl (by decide) (Nat.le_of_ble_eq_true rfl) rfl (e_X9_ofQueue d (by omega) gx gs q _ _ _ _ q29) ?_
                  cases q31 : f_X9_setQueue s26 r2 2 (r28 + 1) with
                  | none => rw [q31] at H; cases H
                  | some s30 =>
                   rw [q31] at H
                   dsimp only at H
                   refine pm_Wg.path (k := 2) (ds := []) (f' := (149, [some (.ref 64), some (.int a0), some (.int a1), some (.int a2), some (.int a3), some (.int a4), some (.int a5), some (.int (s.2.2.1 3 (Int32.toNatClampNeg 8))), some (.int r2)], [.int (r28 + 1), .int 2, .int r2, .ref 64], mo_h gx s26 gs q)) tk_X9_queue (by omega) rfl trivial ?_
                   refine pm_Wg.callV (m' := 199) (ix := 240) (rr := 292) (pl := 1756) (b := 64) (As := [.int r2, .int 2, .int (r28 + 1)]) (S := []) (by decide) rfl (pm_dec tk_X9_queue rfl) rfl rfl (by decide) rfl rfl (by decide) (Nat.le_of_ble_eq_true rfl) rfl (e_X9_setQueue d (by omega) gx gs q _ _ _ _ _ q31) ?_
                   by_cases h32 : a5 = (-1)
                   · rw [if_pos h32] at H
                     injection H with H
                     subst H
                     refine pm_Wg.path (k := 3) (ds := [1]) (f' := (165, [some (.ref 64), some (.int a0), some (.int a1), some (.int a2), some (.int a3), some (.int a4), some (.int a5), some (.int (s.2.2.1 3 (Int32.toNatClampNeg 8))), some (.int r2)], [], mo_h gx s30 gs q)) tk_X9_queue (by omega) rfl ⟨h32, trivial⟩ ?_
                     exact pm_Wg.vret (pm_dec tk_X9_queue rfl) rfl
                   · rw [if_neg h32] at H
                     cases q34 : f_X9_addPending s30 a5 1 with
                     | none => rw [q34] at H; cases H
                     | some s33 =>
                      rw [q34] at H
                      dsimp only at H
                      refine pm_Wg.path (k := 6) (ds := [0]) (f' := (162, [some (.ref 64), some (.int a0), some (.int a1), some (.int a2), some (.int a3), some (.int a4), some (.int a5), some (.int (s.2.2.1 3 (Int32.toNatClampNeg 8))), some (.int r2)], [.int 1, .int a5, .ref 64], mo_h gx s30 gs q)) tk_X9_queue (by omega) rfl ⟨h32, trivial⟩ ?_
                      refine pm_Wg.callV (m' := 213) (ix := 260) (rr := 293) (pl := 1760) (b := 64) (As := [.int a5, .int 1]) (S := []) (by decide) rfl (pm_dec tk_X9_queue rfl) rfl rfl (by decide) rfl rfl (by decide) (Nat.le_of_ble_eq_true rfl) rfl (e_X9_addPending d (by omega) gx gs q _ _ _ _ q34) ?_
                      injection H with H
                      subst H
                      exact pm_Wg.vret (pm_dec tk_X9_queue rfl) rfl
             · rw [if_neg h23] at H
               cases q36 : f_X9_ofQueue s19 r2 1 with
               | none => rw [q36] at H; cases H
               | some r35 =>
                rw [q36] at H
                dsimp only at H
                refine pm_Wg.path (k := 6) (ds := [1]) (f' := (118, [some (.ref 64), some (.int a0), some (.int a1), some (.int a2), some (.int a3), some (.int a4), some (.int a5), some (.int (s.2.2.1 3 (Int32.toNatClampNeg 8))), some (.int r2)], [.int 1, .int r2, .ref 64, .ref 64], mo_h gx s19 gs q)) tk_X9_queue (by omega) rfl ⟨h23, trivial⟩ ?_
                refine pm_Wg.callV (m' := 198) (ix := 233) (rr := 290) (pl := 1747) (b := 64) (As := [.int r2, .int 1]) (S := [.ref 64]) (by decide) rfl (pm_dec tk_X9_queue rfl) rfl rfl (by decide) rfl rfl (by decide) (Nat.le_of_ble_eq_true rfl) rfl (e_X9_ofQueue d (by omega) gx gs q _ _ _ _ q36) ?_
                cases q38 : f_X9_set s19 r35 5 (s.2.2.1 3 (Int32.toNatClampNeg 8)) with
                | none => rw [q38] at H; cases H
                | some s37 =>
                 rw [q38] at H
                 dsimp only at H
                 refine pm_Wg.path (k := 2) (ds := []) (f' := (124, [some (.ref 64), some (.int a0), some (.int a1), some (.int a2), some (.int a3), some (.int a4), some (.int a5), some (.int (s.2.2.1 3 (Int32.toNatClampNeg 8))), some (.int r2)], [.int (s.2.2.1 3 (Int32.toNatClampNeg 8)), .int 5, .int r35, .ref 64], mo_h gx s19 gs q)) tk_X9_queue (by omega) rfl trivial ?_
                 refine pm_Wg.callV (m' := 201) (ix := 244) (rr := 286) (pl := 1730) (b := 64) (As := [.int r35, .int 5, .int (s.2.2.1 3 (Int32.toNatClampNeg 8))]) (S := []) (by decide) rfl (pm_dec tk_X9_queue rfl) rfl rfl (by decide) rfl rfl (by decide) (Nat.le_of_ble_eq_true rfl) rfl (e_X9_set d (by omega) gx gs q _ _ _ _ _ q38) ?_
                 cases q40 : f_X9_setQueue s37 r2 1 (s.2.2.1 3 (Int32.toNatClampNeg 8)) with
                 | none => rw [q40] at H; cases H
                 | some s39 =>
                  rw [q40] at H
                  dsimp only at H
                  refine pm_Wg.path (k := 4) (ds := []) (f' := (133, [some (.ref 64), some (.int a0), some (.int a1), some (.int a2), some (.int a3), some (.int a4), some (.int a5), some (.int (s.2.2.1 3 (Int32.toNatClampNeg 8))), some (.int r2)], [.int (s.2.2.1 3 (Int32.toNatClampNeg 8)), .int 1, .int r2, .ref 64], mo_h gx s37 gs q)) tk_X9_queue (by omega) rfl trivial ?_
                  refine pm_Wg.callV (m' := 199) (ix := 240) (rr := 292) (pl := 1756) (b := 64) (As := [.int r2, .int 1, .int (s.2.2.1 3 (Int32.toNatClampNeg 8))]) (S := []) (by decide) rfl (pm_dec tk_X9_queue rfl) rfl rfl (by decide) rfl rfl (by decide) (Nat.le_of_ble_eq_true rfl) rfl (e_X9_setQueue d (by omega) gx gs q _ _ _ _ _ q40) ?_
                  cases q42 : f_X9_ofQueue s39 r2 2 with
                  | none => rw [q42] at H; cases H
                  | some r41 =>
                   rw [q42] at H
                   dsimp only at H
                   refine pm_Wg.path (k := 6) (ds := []) (f' := (144, [some (.ref 64), some (.int a0), some (.int a1), some (.int a2), some (.int a3), some (.int a4), some (.int a5), some (.int (s.2.2.1 3 (Int32.toNatClampNeg 8))), some (.int r2)], [.int 2, .int r2, .ref 64, .int 2, .int r2, .ref 64], mo_h gx s39 gs q)) tk_X9_queue (by omega) rfl trivial ?_
                   refine pm_Wg.callV (m' := 198) (ix := 233) (rr := 290) (pl := 1747) (b := 64) (As := [.int r2, .int 2]) (S := [.int 2, .int r2, .ref 64]) (by decide) rfl (pm_dec tk_X9_queue rfl) rfl rfl (by decide) rfl rfl (by decide) (Nat.le_of_ble_eq_true rfl) rfl (e_X9_ofQueue d (by omega) gx gs q _ _ _ _ q42) ?_
                   cases q44 : f_X9_setQueue s39 r2 2 (r41 + 1) with
                   | none => rw [q44] at H; cases H
                   | some s43 =>
                    rw [q44] at H
                    dsimp only at H
                    refine pm_Wg.path (k := 2) (ds := []) (f' := (149, [some (.ref 64), some (.int a0), some (.int a1), some (.int a2), some (.int a3), some (.int a4), some (.int a5), some (.int (s.2.2.1 3 (Int32.toNatClampNeg 8))), some (.int r2)], [.int (r41 + 1), .int 2, .int r2, .ref 64], mo_h gx s39 gs q)) tk_X9_queue (by omega) rfl trivial ?_
                    refine pm_Wg.callV (m' := 199) (ix := 240) (rr := 292) (pl := 1756) (b := 64) (As := [.int r2, .int 2, .int (r41 + 1)]) (S := []) (by decide) rfl (pm_dec tk_X9_queue rfl) rfl rfl (by decide) rfl rfl (by decide) (Nat.le_of_ble_eq_true rfl) rfl (e_X9_setQueue d (by omega) gx gs q _ _ _ _ _ q44) ?_
                    by_cases h45 : a5 = (-1)
                    · rw [if_pos h45] at H
                      injection H with H
                      subst H
                      refine pm_Wg.path (k := 3) (ds := [1]) (f' := (165, [some (.ref 64), some (.int a0), some (.int a1), some (.int a2), some (.int a3), some (.int a4), some (.int a5), some (.int (s.2.2.1 3 (Int32.toNatClampNeg 8))), some (.int r2)], [], mo_h gx s43 gs q)) tk_X9_queue (by omega) rfl ⟨h45, trivial⟩ ?_
                      exact pm_Wg.vret (pm_dec tk_X9_queue rfl) rfl
                    · rw [if_neg h45] at H
                      cases q47 : f_X9_addPending s43 a5 1 with
                      | none => rw [q47] at H; cases H
                      | some s46 =>
                       rw [q47] at H
                       dsimp only at H
                       refine pm_Wg.path (k := 6) (ds := [0]) (f' := (162, [some (.ref 64), some (.int a0), some (.int a1), some (.int a2), some (.int a3), some (.int a4), some (.int a5), some (.int (s.2.2.1 3 (Int32.toNatClampNeg 8))), some (.int r2)], [.int 1, .int a5, .ref 64], mo_h gx s43 gs q)) tk_X9_queue (by omega) rfl ⟨h45, trivial⟩ ?_
                       refine pm_Wg.callV (m' := 213) (ix := 260) (rr := 293) (pl := 1760) (b := 64) (As := [.int a5, .int 1]) (S := []) (by decide) rfl (pm_dec tk_X9_queue rfl) rfl rfl (by decide) rfl rfl (by decide) (Nat.le_of_ble_eq_true rfl) rfl (e_X9_addPending d (by omega) gx gs q _ _ _ _ q47) ?_
                       injection H with H
                       subst H
                       exact pm_Wg.vret (pm_dec tk_X9_queue rfl) rfl
def f_X9_queueWrite (s : mo_S) (a0 : Int32) (a1 : Int32) (a2 : Int32) : Option mo_S :=
  (match pm_inb 1 18186 with
  | false => none
  | true =>
  (if a1 = (s.2.2.1 3 (Int32.toNatClampNeg 1)) then
   (match f_X9_stateOf s a2 with
   | none => none
   | some r5 =>
    (if r5 = 3 then
     (if a1 = (s.2.2.1 3 (Int32.toNatClampNeg 1)) then
      (match f_X9_disks s with
      | none => none
      | some r10 =>
       (match f_X9_ofRequest s a0 0 with
       | none => none
       | some r12 =>
        (match f_X9_ofRequest s a0 2 with
        | none => none
        | some r14 =>
         (match f_X9_queue s r10 r12 1 a2 r14 a0 with
         | none => none
         | some s16 =>
          some s16))))
     else
      (match f_X9_ofRequest s a0 0 with
      | none => none
      | some r18 =>
       (match f_X9_ofRequest s a0 2 with
       | none => none
       | some r20 =>
        (match f_X9_queue s a1 r18 1 a2 r20 a0 with
        | none => none
        | some s22 =>
         some s22))))
    else
     some s))
  else
   (if a1 = (s.2.2.1 3 (Int32.toNatClampNeg 1)) then
    (match f_X9_disks s with
    | none => none
    | some r24 =>
     (match f_X9_ofRequest s a0 0 with
     | none => none
     | some r26 =>
      (match f_X9_ofRequest s a0 2 with
      | none => none
      | some r28 =>
       (match f_X9_queue s r24 r26 1 a2 r28 a0 with
       | none => none
       | some s30 =>
        some s30))))
   else
    (match f_X9_ofRequest s a0 0 with
    | none => none
    | some r32 =>
     (match f_X9_ofRequest s a0 2 with
     | none => none
     | some r34 =>
      (match f_X9_queue s a1 r32 1 a2 r34 a0 with
      | none => none
      | some s36 =>
       some s36))))))
def tb_X9_queueWrite : List pm_I := [(0, .iload_n 2, 0, 0), (1, .aload_n 0, 0, 0), (2, .getfield 16, 162, 0), (5, .iconst 1, 3, 0), (6, .iaload, 0, 0), (7, .if_icmp .ne 12, 19, 0), (10, .aload_n 0, 0, 0), (11, .iload_n 3, 0, 0), (12, .invokevirtual 286, 278, 0), (15, .iconst 3, 5, 0), (16, .if_icmp .ne 40, 56, 0), (19, .aload_n 0, 0, 0), (20, .iload_n 2, 0, 0), (21, .aload_n 0, 0, 0), (22, .getfield 16, 162, 0), (25, .iconst 1, 3, 0), (26, .iaload, 0, 0), (27, .if_icmp .ne 10, 37, 0), (30, .aload_n 0, 0, 0), (31, .invokevirtual 55, 258, 0), (34, .goto 4, 38, 0), (37, .iload_n 2, 0, 0), (38, .aload_n 0, 0, 0), (39, .iload_n 1, 0, 0), (40, .iconst 0, 2, 0), (41, .invokevirtual 267, 282, 0), (44, .iconst 1, 3, 0), (45, .iload_n 3, 0, 0), (46, .aload_n 0, 0, 0), (47, .iload_n 1, 0, 0), (48, .iconst 2, 4, 0), (49, .invokevirtual 267, 282, 0), (52, .iload_n 1, 0, 0), (53, .invokevirtual 282, 283, 0), (56, .return_, 0, 0)]
theorem tk_X9_queueWrite : ∀ e ∈ tb_X9_queueWrite, pm_ck 222 e = true := List.all_eq_true.mp (by decide +kernel)
set_option maxRecDepth 20000 in
set_option maxHeartbeats 20000000 in
theorem e_X9_queueWrite (d : Nat) (hd : 6 ≤ d) (gx : List pm_E) (gs : List (List pm_E)) (q : Nat × Nat × Nat) (s : mo_S) (a0 : Int32) (a1 : Int32) (a2 : Int32) (s1 : mo_S) (H : f_X9_queueWrite s a0 a1 a2 = some s1) : pm_Mt 222 d [.ref 64, .int a0, .int a1, .int a2] (mo_h gx s gs q) (.inl (none)) (mo_h gx s1 gs q) := by
  refine pm_Mt.of (by decide) (by decide +kernel) rfl rfl ?_
  obtain ⟨d, rfl⟩ : ∃ d', d = d' + 1 := ⟨d - 1, by omega⟩
  unfold f_X9_queueWrite at H
  cases b1 : pm_inb 1 18186 with
  | false => rw [b1] at H; cases H
  | true =>
   rw [b1] at H
   dsimp only at H
   by_cases h2 : a1 = (s.2.2.1 3 (Int32.toNatClampNeg 1))
   · rw [if_pos h2] at H
     cases q6 : f_X9_stateOf s a2 with
     | none => rw [q6] at H; cases H
     | some r5 =>
      rw [q6] at H
      dsimp only at H
      refine pm_Wg.path (k := 8) (ds := [0]) (f' := (12, [some (.ref 64), some (.int a0), some (.int a1), some (.int a2)], [.int a2, .ref 64], mo_h gx s gs q)) tk_X9_queueWrite (by omega) rfl ⟨h2, pm_inb_vp b1, trivial⟩ ?_
      refine pm_Wg.callV (m' := 219) (ix := 286) (rr := 278) (pl := 1699) (b := 64) (As := [.int a2]) (S := []) (by decide) rfl (pm_dec tk_X9_queueWrite rfl) rfl rfl (by decide) rfl rfl (by decide) (Nat.le_of_ble_eq_true rfl) rfl (e_X9_stateOf d (by omega) gx gs q _ _ _ q6) ?_
      by_cases h7 : r5 = 3
      · rw [if_pos h7] at H
        by_cases h9 : a1 = (s.2.2.1 3 (Int32.toNatClampNeg 1))
        · rw [if_pos h9] at H
          cases q11 : f_X9_disks s with
          | none => rw [q11] at H; cases H
          | some r10 =>
           rw [q11] at H
           dsimp only at H
           refine pm_Wg.path (k := 10) (ds := [0, 0]) (f' := (31, [some (.ref 64), some (.int a0), some (.int a1), some (.int a2)], [.ref 64, .ref 64], mo_h gx s gs q)) tk_X9_queueWrite (by omega) rfl ⟨h9, pm_inb_vp b1, h7, trivial⟩ ?_
           refine pm_Wg.callV (m' := 150) (ix := 55) (rr := 258) (pl := 1618) (b := 64) (As := []) (S := [.ref 64]) (by decide) rfl (pm_dec tk_X9_queueWrite rfl) rfl rfl (by decide) rfl rfl (by decide) (Nat.le_of_ble_eq_true rfl) rfl (e_X9_disks d (by omega) gx gs q _ _ q11) ?_
           cases q13 : f_X9_ofRequest s a0 0 with
           | none => rw [q13] at H; cases H
           | some r12 =>
            rw [q13] at H
            dsimp only at H
            refine pm_Wg.path (k := 4) (ds := []) (f' := (41, [some (.ref 64), some (.int a0), some (.int a1), some (.int a2)], [.int 0, .int a0, .ref 64, .int r10, .ref 64], mo_h gx s gs q)) tk_X9_queueWrite (by omega) rfl trivial ?_
            refine pm_Wg.callV (m' := 211) (ix := 267) (rr := 282) (pl := 1715) (b := 64) (As := [.int a0, .int 0]) (S := [.int r10, .ref 64]) (by decide) rfl (pm_dec tk_X9_queueWrite rfl) rfl rfl (by decide) rfl rfl (by decide) (Nat.le_of_ble_eq_true rfl) rfl (e_X9_ofRequest d (by omega) gx gs q _ _ _ _ q13) ?_
            cases q15 : f_X9_ofRequest s a0 2 with
            | none => rw [q15] at H; cases H
            | some r14 =>
             rw [q15] at H
             dsimp only at H
             refine pm_Wg.path (k := 5) (ds := []) (f' := (49, [some (.ref 64), some (.int a0), some (.int a1), some (.int a2)], [.int 2, .int a0, .ref 64, .int a2, .int 1, .int r12, .int r10, .ref 64], mo_h gx s gs q)) tk_X9_queueWrite (by omega) rfl trivial ?_
             refine pm_Wg.callV (m' := 211) (ix := 267) (rr := 282) (pl := 1715) (b := 64) (As := [.int a0, .int 2]) (S := [.int a2, .int 1, .int r12, .int r10, .ref 64]) (by decide) rfl (pm_dec tk_X9_queueWrite rfl) rfl rfl (by decide) rfl rfl (by decide) (Nat.le_of_ble_eq_true rfl) rfl (e_X9_ofRequest d (by omega) gx gs q _ _ _ _ q15) ?_
             cases q17 : f_X9_queue s r10 r12 1 a2 r14 a0 with
             | none => rw [q17] at H; cases H
             | some s16 =>
              rw [q17] at H
              dsimp only at H
              refine pm_Wg.path (k := 1) (ds := []) (f' := (53, [some (.ref 64), some (.int a0), some (.int a1), some (.int a2)], [.int a0, .int r14, .int a2, .int 1, .int r12, .int r10, .ref 64], mo_h gx s gs q)) tk_X9_queueWrite (by omega) rfl trivial ?_
              refine pm_Wg.callV (m' := 207) (ix := 282) (rr := 283) (pl := 1719) (b := 64) (As := [.int r10, .int r12, .int 1, .int a2, .int r14, .int a0]) (S := []) (by decide) rfl (pm_dec tk_X9_queueWrite rfl) rfl rfl (by decide) rfl rfl (by decide) (Nat.le_of_ble_eq_true rfl) rfl (e_X9_queue d (by omega) gx gs q _ _ _ _ _ _ _ _ q17) ?_
              injection H with H
              subst H
              exact pm_Wg.vret (pm_dec tk_X9_queueWrite rfl) rfl
        · rw [if_neg h9] at H
          cases q19 : f_X9_ofRequest s a0 0 with
          | none => rw [q19] at H; cases H
          | some r18 =>
           rw [q19] at H
           dsimp only at H
           refine pm_Wg.path (k := 13) (ds := [0, 1]) (f' := (41, [some (.ref 64), some (.int a0), some (.int a1), some (.int a2)], [.int 0, .int a0, .ref 64, .int a1, .ref 64], mo_h gx s gs q)) tk_X9_queueWrite (by omega) rfl ⟨h9, pm_inb_vp b1, h7, trivial⟩ ?_
           refine pm_Wg.callV (m' := 211) (ix := 267) (rr := 282) (pl := 1715) (b := 64) (As := [.int a0, .int 0]) (S := [.int a1, .ref 64]) (by decide) rfl (pm_dec tk_X9_queueWrite rfl) rfl rfl (by decide) rfl rfl (by decide) (Nat.le_of_ble_eq_true rfl) rfl (e_X9_ofRequest d (by omega) gx gs q _ _ _ _ q19) ?_
           cases q21 : f_X9_ofRequest s a0 2 with
           | none => rw [q21] at H; cases H
           | some r20 =>
            rw [q21] at H
            dsimp only at H
            refine pm_Wg.path (k := 5) (ds := []) (f' := (49, [some (.ref 64), some (.int a0), some (.int a1), some (.int a2)], [.int 2, .int a0, .ref 64, .int a2, .int 1, .int r18, .int a1, .ref 64], mo_h gx s gs q)) tk_X9_queueWrite (by omega) rfl trivial ?_
            refine pm_Wg.callV (m' := 211) (ix := 267) (rr := 282) (pl := 1715) (b := 64) (As := [.int a0, .int 2]) (S := [.int a2, .int 1, .int r18, .int a1, .ref 64]) (by decide) rfl (pm_dec tk_X9_queueWrite rfl) rfl rfl (by decide) rfl rfl (by decide) (Nat.le_of_ble_eq_true rfl) rfl (e_X9_ofRequest d (by omega) gx gs q _ _ _ _ q21) ?_
            cases q23 : f_X9_queue s a1 r18 1 a2 r20 a0 with
            | none => rw [q23] at H; cases H
            | some s22 =>
             rw [q23] at H
             dsimp only at H
             refine pm_Wg.path (k := 1) (ds := []) (f' := (53, [some (.ref 64), some (.int a0), some (.int a1), some (.int a2)], [.int a0, .int r20, .int a2, .int 1, .int r18, .int a1, .ref 64], mo_h gx s gs q)) tk_X9_queueWrite (by omega) rfl trivial ?_
             refine pm_Wg.callV (m' := 207) (ix := 282) (rr := 283) (pl := 1719) (b := 64) (As := [.int a1, .int r18, .int 1, .int a2, .int r20, .int a0]) (S := []) (by decide) rfl (pm_dec tk_X9_queueWrite rfl) rfl rfl (by decide) rfl rfl (by decide) (Nat.le_of_ble_eq_true rfl) rfl (e_X9_queue d (by omega) gx gs q _ _ _ _ _ _ _ _ q23) ?_
             injection H with H
             subst H
             exact pm_Wg.vret (pm_dec tk_X9_queueWrite rfl) rfl
      · rw [if_neg h7] at H
        injection H with H
        subst H
        refine pm_Wg.path (k := 2) (ds := [1]) (f' := (56, [some (.ref 64), some (.int a0), some (.int a1), some (.int a2)], [], mo_h gx s gs q)) tk_X9_queueWrite (by omega) rfl ⟨h7, trivial⟩ ?_
        exact pm_Wg.vret (pm_dec tk_X9_queueWrite rfl) rfl
   · rw [if_neg h2] at H
     by_cases h4 : a1 = (s.2.2.1 3 (Int32.toNatClampNeg 1))
     · rw [if_pos h4] at H
       cases q25 : f_X9_disks s with
       | none => rw [q25] at H; cases H
       | some r24 =>
        rw [q25] at H
        dsimp only at H
        refine pm_Wg.path (k := 14) (ds := [1, 0]) (f' := (31, [some (.ref 64), some (.int a0), some (.int a1), some (.int a2)], [.ref 64, .ref 64], mo_h gx s gs q)) tk_X9_queueWrite (by omega) rfl ⟨h4, pm_inb_vp b1, h2, pm_inb_vp b1, trivial⟩ ?_
        refine pm_Wg.callV (m' := 150) (ix := 55) (rr := 258) (pl := 1618) (b := 64) (As := []) (S := [.ref 64]) (by decide) rfl (pm_dec tk_X9_queueWrite rfl) rfl rfl (by decide) rfl rfl (by decide) (Nat.le_of_ble_eq_true rfl) rfl (e_X9_disks d (by omega) gx gs q _ _ q25) ?_
        cases q27 : f_X9_ofRequest s a0 0 with
        | none => rw [q27] at H; cases H
        | some r26 =>
         rw [q27] at H
         dsimp only at H
         refine pm_Wg.path (k := 4) (ds := []) (f' := (41, [some (.ref 64), some (.int a0), some (.int a1), some (.int a2)], [.int 0, .int a0, .ref 64, .int r24, .ref 64], mo_h gx s gs q)) tk_X9_queueWrite (by omega) rfl trivial ?_
         refine pm_Wg.callV (m' := 211) (ix := 267) (rr := 282) (pl := 1715) (b := 64) (As := [.int a0, .int 0]) (S := [.int r24, .ref 64]) (by decide) rfl (pm_dec tk_X9_queueWrite rfl) rfl rfl (by decide) rfl rfl (by decide) (Nat.le_of_ble_eq_true rfl) rfl (e_X9_ofRequest d (by omega) gx gs q _ _ _ _ q27) ?_
         cases q29 : f_X9_ofRequest s a0 2 with
         | none => rw [q29] at H; cases H
         | some r28 =>
          rw [q29] at H
          dsimp only at H
          refine pm_Wg.path (k := 5) (ds := []) (f' := (49, [some (.ref 64), some (.int a0), some (.int a1), some (.int a2)], [.int 2, .int a0, .ref 64, .int a2, .int 1, .int r26, .int r24, .ref 64], mo_h gx s gs q)) tk_X9_queueWrite (by omega) rfl trivial ?_
          refine pm_Wg.callV (m' := 211) (ix := 267) (rr := 282) (pl := 1715) (b := 64) (As := [.int a0, .int 2]) (S := [.int a2, .int 1, .int r26, .int r24, .ref 64]) (by decide) rfl (pm_dec tk_X9_queueWrite rfl) rfl rfl (by decide) rfl rfl (by decide) (Nat.le_of_ble_eq_true rfl) rfl (e_X9_ofRequest d (by omega) gx gs q _ _ _ _ q29) ?_
          cases q31 : f_X9_queue s r24 r26 1 a2 r28 a0 with
          | none => rw [q31] at H; cases H
          | some s30 =>
           rw [q31] at H
           dsimp only at H
           refine pm_Wg.path (k := 1) (ds := []) (f' := (53, [some (.ref 64), some (.int a0), some (.int a1), some (.int a2)], [.int a0, .int r28, .int a2, .int 1, .int r26, .int r24, .ref 64], mo_h gx s gs q)) tk_X9_queueWrite (by omega) rfl trivial ?_
           refine pm_Wg.callV (m' := 207) (ix := 282) (rr := 283) (pl := 1719) (b := 64) (As := [.int r24, .int r26, .int 1, .int a2, .int r28, .int a0]) (S := []) (by decide) rfl (pm_dec tk_X9_queueWrite rfl) rfl rfl (by decide) rfl rfl (by decide) (Nat.le_of_ble_eq_true rfl) rfl (e_X9_queue d (by omega) gx gs q _ _ _ _ _ _ _ _ q31) ?_
           injection H with H
           subst H
           exact pm_Wg.vret (pm_dec tk_X9_queueWrite rfl) rfl
     · rw [if_neg h4] at H
       cases q33 : f_X9_ofRequest s a0 0 with
       | none => rw [q33] at H; cases H
       | some r32 =>
        rw [q33] at H
        dsimp only at H
        refine pm_Wg.path (k := 17) (ds := [1, 1]) (f' := (41, [some (.ref 64), some (.int a0), some (.int a1), some (.int a2)], [.int 0, .int a0, .ref 64, .int a1, .ref 64], mo_h gx s gs q)) tk_X9_queueWrite (by omega) rfl ⟨h4, pm_inb_vp b1, h2, pm_inb_vp b1, trivial⟩ ?_
        refine pm_Wg.callV (m' := 211) (ix := 267) (rr := 282) (pl := 1715) (b := 64) (As := [.int a0, .int 0]) (S := [.int a1, .ref 64]) (by decide) rfl (pm_dec tk_X9_queueWrite rfl) rfl rfl (by decide) rfl rfl (by decide) (Nat.le_of_ble_eq_true rfl) rfl (e_X9_ofRequest d (by omega) gx gs q _ _ _ _ q33) ?_
        cases q35 : f_X9_ofRequest s a0 2 with
        | none => rw [q35] at H; cases H
        | some r34 =>
         rw [q35] at H
         dsimp only at H
         refine pm_Wg.path (k := 5) (ds := []) (f' := (49, [some (.ref 64), some (.int a0), some (.int a1), some (.int a2)], [.int 2, .int a0, .ref 64, .int a2, .int 1, .int r32, .int a1, .ref 64], mo_h gx s gs q)) tk_X9_queueWrite (by omega) rfl trivial ?_
         refine pm_Wg.callV (m' := 211) (ix := 267) (rr := 282) (pl := 1715) (b := 64) (As := [.int a0, .int 2]) (S := [.int a2, .int 1, .int r32, .int a1, .ref 64]) (by decide) rfl (pm_dec tk_X9_queueWrite rfl) rfl rfl (by decide) rfl rfl (by decide) (Nat.le_of_ble_eq_true rfl) rfl (e_X9_ofRequest d (by omega) gx gs q _ _ _ _ q35) ?_
         cases q37 : f_X9_queue s a1 r32 1 a2 r34 a0 with
         | none => rw [q37] at H; cases H
         | some s36 =>
          rw [q37] at H
          dsimp only at H
          refine pm_Wg.path (k := 1) (ds := []) (f' := (53, [some (.ref 64), some (.int a0), some (.int a1), some (.int a2)], [.int a0, .int r34, .int a2, .int 1, .int r32, .int a1, .ref 64], mo_h gx s gs q)) tk_X9_queueWrite (by omega) rfl trivial ?_
          refine pm_Wg.callV (m' := 207) (ix := 282) (rr := 283) (pl := 1719) (b := 64) (As := [.int a1, .int r32, .int 1, .int a2, .int r34, .int a0]) (S := []) (by decide) rfl (pm_dec tk_X9_queueWrite rfl) rfl rfl (by decide) rfl rfl (by decide) (Nat.le_of_ble_eq_true rfl) rfl (e_X9_queue d (by omega) gx gs q _ _ _ _ _ _ _ _ q37) ?_
          injection H with H
          subst H
          exact pm_Wg.vret (pm_dec tk_X9_queueWrite rfl) rfl
def f_X9_queueRebuildRead (s : mo_S) (a0 : Int32) (a1 : Int32) : Option mo_S :=
  (match f_X9_deadlineOf s a1 with
  | none => none
  | some r1 =>
   (match f_X9_queue s a0 0 0 a1 r1 (-1) with
   | none => none
   | some s3 =>
    some s3))
def tb_X9_queueRebuildRead : List pm_I := [(0, .aload_n 0, 0, 0), (1, .iload_n 1, 0, 0), (2, .iconst 0, 2, 0), (3, .iconst 0, 2, 0), (4, .iload_n 2, 0, 0), (5, .aload_n 0, 0, 0), (6, .iload_n 2, 0, 0), (7, .invokevirtual 311, 307, 0), (10, .iconst (-1), 1, 0), (11, .invokevirtual 282, 283, 0), (14, .return_, 0, 0)]
theorem tk_X9_queueRebuildRead : ∀ e ∈ tb_X9_queueRebuildRead, pm_ck 229 e = true := List.all_eq_true.mp (by decide +kernel)
set_option maxRecDepth 20000 in
set_option maxHeartbeats 20000000 in
theorem e_X9_queueRebuildRead (d : Nat) (hd : 6 ≤ d) (gx : List pm_E) (gs : List (List pm_E)) (q : Nat × Nat × Nat) (s : mo_S) (a0 : Int32) (a1 : Int32) (s1 : mo_S) (H : f_X9_queueRebuildRead s a0 a1 = some s1) : pm_Mt 229 d [.ref 64, .int a0, .int a1] (mo_h gx s gs q) (.inl (none)) (mo_h gx s1 gs q) := by
  refine pm_Mt.of (by decide) (by decide +kernel) rfl rfl ?_
  obtain ⟨d, rfl⟩ : ∃ d', d = d' + 1 := ⟨d - 1, by omega⟩
  unfold f_X9_queueRebuildRead at H
  cases q2 : f_X9_deadlineOf s a1 with
  | none => rw [q2] at H; cases H
  | some r1 =>
   rw [q2] at H
   dsimp only at H
   refine pm_Wg.path (k := 7) (ds := []) (f' := (7, [some (.ref 64), some (.int a0), some (.int a1)], [.int a1, .ref 64, .int a1, .int 0, .int 0, .int a0, .ref 64], mo_h gx s gs q)) tk_X9_queueRebuildRead (by omega) rfl trivial ?_
   refine pm_Wg.callV (m' := 226) (ix := 311) (rr := 307) (pl := 1816) (b := 64) (As := [.int a1]) (S := [.int a1, .int 0, .int 0, .int a0, .ref 64]) (by decide) rfl (pm_dec tk_X9_queueRebuildRead rfl) rfl rfl (by decide) rfl rfl (by decide) (Nat.le_of_ble_eq_true rfl) rfl (e_X9_deadlineOf d (by omega) gx gs q _ _ _ q2) ?_
   cases q4 : f_X9_queue s a0 0 0 a1 r1 (-1) with
   | none => rw [q4] at H; cases H
   | some s3 =>
    rw [q4] at H
    dsimp only at H
    refine pm_Wg.path (k := 1) (ds := []) (f' := (11, [some (.ref 64), some (.int a0), some (.int a1)], [.int (-1), .int r1, .int a1, .int 0, .int 0, .int a0, .ref 64], mo_h gx s gs q)) tk_X9_queueRebuildRead (by omega) rfl trivial ?_
    refine pm_Wg.callV (m' := 207) (ix := 282) (rr := 283) (pl := 1719) (b := 64) (As := [.int a0, .int 0, .int 0, .int a1, .int r1, .int (-1)]) (S := []) (by decide) rfl (pm_dec tk_X9_queueRebuildRead rfl) rfl rfl (by decide) rfl rfl (by decide) (Nat.le_of_ble_eq_true rfl) rfl (e_X9_queue d (by omega) gx gs q _ _ _ _ _ _ _ _ q4) ?_
    injection H with H
    subst H
    exact pm_Wg.vret (pm_dec tk_X9_queueRebuildRead rfl) rfl
