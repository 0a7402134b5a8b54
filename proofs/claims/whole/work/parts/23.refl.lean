/-! The reference's methods with loops, and what stands on them, by program (wip/whole/dec2.py). -/
def lb_X9_begin_163 (x : mo_S × Int32) : Option ((mo_S × Int32) ⊕ (mo_S)) := match x with
  | (s, l1) =>
   (if 2200 ≤ l1 then
    some (.inr (mo_i s 19 0))
   else
    (if 2200 ≤ (l1 + 1) then
     (match pm_inb ((2786 + (7 * l1)) + 5) 18186 with
     | false => none
     | true =>
     some (.inl ((mo_a s 3 ((2786 + (7 * l1)) + 5) (-1)), (l1 + 1))))
    else
     (match pm_inb ((2786 + (7 * l1)) + 5) 18186 with
     | false => none
     | true =>
     some (.inl ((mo_a s 3 ((2786 + (7 * l1)) + 5) (l1 + 1)), (l1 + 1))))))
def lb_X9_begin_133 (x : mo_S × Int32) : Option ((mo_S × Int32) ⊕ (mo_S)) := match x with
  | (s, l1) =>
   (if 6 ≤ l1 then
    (match pm_loop pm_fu lb_X9_begin_163 (s, 0) with
    | none => none
    | some e => some (.inr e))
   else
    (match pm_inb ((2744 + (7 * l1)) + 2) 18186 with
    | false => none
    | true =>
    some (.inl ((mo_a s 3 ((2744 + (7 * l1)) + 2) (-1)), (l1 + 1)))))
def lb_X9_begin_89 (x : mo_S × Int32) : Option ((mo_S × Int32) ⊕ (mo_S)) := match x with
  | (s, l1) =>
   (if 42 ≤ l1 then
    (match pm_loop pm_fu lb_X9_begin_133 (s, 0) with
    | none => none
    | some e => some (.inr e))
   else
    (match pm_inb ((44 + (6 * l1)) + 0) 18186 with
    | false => none
    | true =>
    (match pm_inb ((44 + (6 * l1)) + 1) 18186 with
    | false => none
    | true =>
    some (.inl ((mo_a (mo_a s 3 ((44 + (6 * l1)) + 0) (-1)) 3 ((44 + (6 * l1)) + 1) (-1)), (l1 + 1))))))
def lb_X9_begin_47 (x : mo_S × Int32) : Option ((mo_S × Int32) ⊕ (mo_S)) := match x with
  | (s, l1) =>
   (if 7 ≤ l1 then
    (match pm_loop pm_fu lb_X9_begin_89 (s, 0) with
    | none => none
    | some e => some (.inr e))
   else
    (match pm_inb ((16 + (4 * l1)) + 0) 18186 with
    | false => none
    | true =>
    (match pm_inb ((16 + (4 * l1)) + 1) 18186 with
    | false => none
    | true =>
    some (.inl ((mo_a (mo_a s 3 ((16 + (4 * l1)) + 0) (-1)) 3 ((16 + (4 * l1)) + 1) (-1)), (l1 + 1))))))
def lb_X9_begin_2 (x : mo_S × Int32) : Option ((mo_S × Int32) ⊕ (mo_S)) := match x with
  | (s, l1) =>
   (if 18186 ≤ l1 then
    (match pm_inb 1 18186 with
    | false => none
    | true =>
    (match pm_inb 7 18186 with
    | false => none
    | true =>
    (match pm_inb 10 18186 with
    | false => none
    | true =>
    (match pm_loop pm_fu lb_X9_begin_47 ((mo_a (mo_a (mo_a s 3 1 (-1)) 3 7 (-1)) 3 10 (-1)), 0) with
    | none => none
    | some e => some (.inr e)))))
   else
    (match pm_inb l1 18186 with
    | false => none
    | true =>
    some (.inl ((mo_a s 3 l1 0), (l1 + 1)))))
def f_X9_begin (s : mo_S) : Option mo_S :=
  (pm_loop pm_fu lb_X9_begin_2 (s, 0))
def tb_X9_begin : List pm_I := [(0, .iconst 0, 2, 0), (1, .istore_n 1, 0, 0), (2, .iload_n 1, 0, 0), (3, .sipush 18186, 47, 0), (6, .if_icmp .ge 16, 22, 0), (9, .aload_n 0, 0, 0), (10, .getfield 16, 162, 0), (13, .iload_n 1, 0, 0), (14, .iconst 0, 2, 0), (15, .iastore, 0, 0), (16, .iinc 1 1, 3, 0), (19, .goto (-17), 2, 0), (22, .aload_n 0, 0, 0), (23, .getfield 16, 162, 0), (26, .iconst 1, 3, 0), (27, .iconst (-1), 1, 0), (28, .iastore, 0, 0), (29, .aload_n 0, 0, 0), (30, .getfield 16, 162, 0), (33, .bipush 7, 9, 0), (35, .iconst (-1), 1, 0), (36, .iastore, 0, 0), (37, .aload_n 0, 0, 0), (38, .getfield 16, 162, 0), (41, .bipush 10, 12, 0), (43, .iconst (-1), 1, 0), (44, .iastore, 0, 0), (45, .iconst 0, 2, 0), (46, .istore_n 1, 0, 0), (47, .iload_n 1, 0, 0), (48, .bipush 7, 9, 0), (50, .if_icmp .ge 37, 87, 0), (53, .aload_n 0, 0, 0), (54, .getfield 16, 162, 0), (57, .bipush 16, 13, 0), (59, .iconst 4, 6, 0), (60, .iload_n 1, 0, 0), (61, .imul, 0, 0), (62, .iadd, 0, 0), (63, .iconst 0, 2, 0), (64, .iadd, 0, 0), (65, .iconst (-1), 1, 0), (66, .iastore, 0, 0), (67, .aload_n 0, 0, 0), (68, .getfield 16, 162, 0), (71, .bipush 16, 13, 0), (73, .iconst 4, 6, 0), (74, .iload_n 1, 0, 0), (75, .imul, 0, 0), (76, .iadd, 0, 0), (77, .iconst 1, 3, 0), (78, .iadd, 0, 0), (79, .iconst (-1), 1, 0), (80, .iastore, 0, 0), (81, .iinc 1 1, 3, 0), (84, .goto (-37), 47, 0), (87, .iconst 0, 2, 0), (88, .istore_n 1, 0, 0), (89, .iload_n 1, 0, 0), (90, .bipush 42, 19, 0), (92, .if_icmp .ge 39, 131, 0), (95, .aload_n 0, 0, 0), (96, .getfield 16, 162, 0), (99, .bipush 44, 20, 0), (101, .bipush 6, 8, 0), (103, .iload_n 1, 0, 0), (104, .imul, 0, 0), (105, .iadd, 0, 0), (106, .iconst 0, 2, 0), (107, .iadd, 0, 0), (108, .iconst (-1), 1, 0), (109, .iastore, 0, 0), (110, .aload_n 0, 0, 0), (111, .getfield 16, 162, 0), (114, .bipush 44, 20, 0), (116, .bipush 6, 8, 0), (118, .iload_n 1, 0, 0), (119, .imul, 0, 0), (120, .iadd, 0, 0), (121, .iconst 1, 3, 0), (122, .iadd, 0, 0), (123, .iconst (-1), 1, 0), (124, .iastore, 0, 0), (125, .iinc 1 1, 3, 0), (128, .goto (-39), 89, 0), (131, .iconst 0, 2, 0), (132, .istore_n 1, 0, 0), (133, .iload_n 1, 0, 0), (134, .bipush 6, 8, 0), (136, .if_icmp .ge 25, 161, 0), (139, .aload_n 0, 0, 0), (140, .getfield 16, 162, 0), (143, .sipush 2744, 42, 0), (146, .bipush 7, 9, 0), (148, .iload_n 1, 0, 0), (149, .imul, 0, 0), (150, .iadd, 0, 0), (151, .iconst 2, 4, 0), (152, .iadd, 0, 0), (153, .iconst (-1), 1, 0), (154, .iastore, 0, 0), (155, .iinc 1 1, 3, 0), (158, .goto (-25), 133, 0), (161, .iconst 0, 2, 0), (162, .istore_n 1, 0, 0), (163, .iload_n 1, 0, 0), (164, .sipush 2200, 41, 0), (167, .if_icmp .ge 40, 207, 0), (170, .aload_n 0, 0, 0), (171, .getfield 16, 162, 0), (174, .sipush 2786, 43, 0), (177, .bipush 7, 9, 0), (179, .iload_n 1, 0, 0), (180, .imul, 0, 0), (181, .iadd, 0, 0), (182, .iconst 5, 7, 0), (183, .iadd, 0, 0), (184, .iload_n 1, 0, 0), (185, .iconst 1, 3, 0), (186, .iadd, 0, 0), (187, .sipush 2200, 41, 0), (190, .if_icmp .ge 9, 199, 0), (193, .iload_n 1, 0, 0), (194, .iconst 1, 3, 0), (195, .iadd, 0, 0), (196, .goto 4, 200, 0), (199, .iconst (-1), 1, 0), (200, .iastore, 0, 0), (201, .iinc 1 1, 3, 0), (204, .goto (-41), 163, 0), (207, .aload_n 0, 0, 0), (208, .iconst 0, 2, 0), (209, .putfield 48, 178, 0), (212, .return_, 0, 0)]
theorem tk_X9_begin : ∀ e ∈ tb_X9_begin, pm_ck 148 e = true := List.all_eq_true.mp (by decide +kernel)
set_option maxRecDepth 20000 in
set_option maxHeartbeats 40000000 in
theorem ll_X9_begin_163 (d : Nat) (hd : 1 ≤ d) (gx : List pm_E) (gs : List (List pm_E)) (q : Nat × Nat × Nat) (s1 : mo_S) (P : mo_S → Prop) (K0 : ∀ e : mo_S, P (e) → e = s1) : ∀ (n : Nat) (s : mo_S) (l1 : Int32) (e : mo_S), pm_loop n lb_X9_begin_163 (s, l1) = some e → P e → pm_Wg 148 d (.inl (none)) (mo_h gx s1 gs q) (163, [some (.ref 64), some (.int l1)], [], mo_h gx s gs q) := by
  intro n
  induction n with
  | zero => intro s l1 e H; cases H
  | succ n ih =>
    intro s l1 e H hPe
    have H : pm_lst (pm_loop n lb_X9_begin_163) (lb_X9_begin_163 (s, l1)) = some e := H
    generalize pm_loop n lb_X9_begin_163 = LB at H ih
    unfold lb_X9_begin_163 at H
    try dsimp only at H
    by_cases h14 : 2200 ≤ l1
    · rw [if_pos h14] at H
      have He := Option.some.inj H
      subst He
      have H := K0 _ hPe
      subst H
      refine pm_Wg.path (k := 6) (ds := [1]) (f' := (212, [some (.ref 64), some (.int l1)], [], mo_h gx (mo_i s 19 0) gs q)) tk_X9_begin (by omega) rfl ⟨h14, trivial⟩ ?_
      exact pm_Wg.vret (pm_dec tk_X9_begin rfl) rfl
    · rw [if_neg h14] at H
      by_cases h15 : 2200 ≤ (l1 + 1)
      · rw [if_pos h15] at H
        cases b16 : pm_inb ((2786 + (7 * l1)) + 5) 18186 with
        | false => rw [b16] at H; cases H
        | true =>
         rw [b16] at H
         dsimp only at H
         refine pm_Wg.path (k := 21) (ds := [0, 1]) (f' := (163, [some (.ref 64), some (.int (l1 + 1))], [], mo_h gx (mo_a s 3 ((2786 + (7 * l1)) + 5) (-1)) gs q)) tk_X9_begin (by omega) rfl ⟨pm_inb_vp b16, h15, h14, trivial⟩ ?_
         exact ih _ _ e H hPe
      · rw [if_neg h15] at H
        cases b17 : pm_inb ((2786 + (7 * l1)) + 5) 18186 with
        | false => rw [b17] at H; cases H
        | true =>
         rw [b17] at H
         dsimp only at H
         refine pm_Wg.path (k := 24) (ds := [0, 0]) (f' := (163, [some (.ref 64), some (.int (l1 + 1))], [], mo_h gx (mo_a s 3 ((2786 + (7 * l1)) + 5) (l1 + 1)) gs q)) tk_X9_begin (by omega) rfl ⟨pm_inb_vp b17, h15, h14, trivial⟩ ?_
         exact ih _ _ e H hPe
set_option maxRecDepth 20000 in
set_option maxHeartbeats 40000000 in
theorem ll_X9_begin_133 (d : Nat) (hd : 1 ≤ d) (gx : List pm_E) (gs : List (List pm_E)) (q : Nat × Nat × Nat) (s1 : mo_S) (P : mo_S → Prop) (K0 : ∀ e : mo_S, P (e) → e = s1) : ∀ (n : Nat) (s : mo_S) (l1 : Int32) (e : mo_S), pm_loop n lb_X9_begin_133 (s, l1) = some e → P e → pm_Wg 148 d (.inl (none)) (mo_h gx s1 gs q) (133, [some (.ref 64), some (.int l1)], [], mo_h gx s gs q) := by
  intro n
  induction n with
  | zero => intro s l1 e H; cases H
  | succ n ih =>
    intro s l1 e H hPe
    have H : pm_lst (pm_loop n lb_X9_begin_133) (lb_X9_begin_133 (s, l1)) = some e := H
    generalize pm_loop n lb_X9_begin_133 = LB at H ih
    unfold lb_X9_begin_133 at H
    try dsimp only at H
    by_cases h12 : 6 ≤ l1
    · rw [if_pos h12] at H
      cases q18 : pm_loop pm_fu lb_X9_begin_163 (s, 0) with
      | none => rw [q18] at H; cases H
      | some e9 =>
       rw [q18] at H
       try dsimp only at H
       refine pm_Wg.path (k := 5) (ds := [1]) (f' := (163, [some (.ref 64), some (.int 0)], [], mo_h gx s gs q)) tk_X9_begin (by omega) rfl ⟨h12, trivial⟩ ?_
       exact ll_X9_begin_163 d (by omega) gx gs q s1 (fun e9 => pm_lst LB (some (.inr e9)) = some e) (fun e0 hk => K0 e0 (Option.some.inj hk ▸ hPe)) pm_fu _ _ _ q18 H
    · rw [if_neg h12] at H
      cases b13 : pm_inb ((2744 + (7 * l1)) + 2) 18186 with
      | false => rw [b13] at H; cases H
      | true =>
       rw [b13] at H
       dsimp only at H
       refine pm_Wg.path (k := 16) (ds := [0]) (f' := (133, [some (.ref 64), some (.int (l1 + 1))], [], mo_h gx (mo_a s 3 ((2744 + (7 * l1)) + 2) (-1)) gs q)) tk_X9_begin (by omega) rfl ⟨pm_inb_vp b13, h12, trivial⟩ ?_
       exact ih _ _ e H hPe
set_option maxRecDepth 20000 in
set_option maxHeartbeats 40000000 in
theorem ll_X9_begin_89 (d : Nat) (hd : 1 ≤ d) (gx : List pm_E) (gs : List (List pm_E)) (q : Nat × Nat × Nat) (s1 : mo_S) (P : mo_S → Prop) (K0 : ∀ e : mo_S, P (e) → e = s1) : ∀ (n : Nat) (s : mo_S) (l1 : Int32) (e : mo_S), pm_loop n lb_X9_begin_89 (s, l1) = some e → P e → pm_Wg 148 d (.inl (none)) (mo_h gx s1 gs q) (89, [some (.ref 64), some (.int l1)], [], mo_h gx s gs q) := by
  intro n
  induction n with
  | zero => intro s l1 e H; cases H
  | succ n ih =>
    intro s l1 e H hPe
    have H : pm_lst (pm_loop n lb_X9_begin_89) (lb_X9_begin_89 (s, l1)) = some e := H
    generalize pm_loop n lb_X9_begin_89 = LB at H ih
    unfold lb_X9_begin_89 at H
    try dsimp only at H
    by_cases h9 : 42 ≤ l1
    · rw [if_pos h9] at H
      cases q19 : pm_loop pm_fu lb_X9_begin_133 (s, 0) with
      | none => rw [q19] at H; cases H
      | some e9 =>
       rw [q19] at H
       try dsimp only at H
       refine pm_Wg.path (k := 5) (ds := [1]) (f' := (133, [some (.ref 64), some (.int 0)], [], mo_h gx s gs q)) tk_X9_begin (by omega) rfl ⟨h9, trivial⟩ ?_
       exact ll_X9_begin_133 d (by omega) gx gs q s1 (fun e9 => pm_lst LB (some (.inr e9)) = some e) (fun e0 hk => K0 e0 (Option.some.inj hk ▸ hPe)) pm_fu _ _ _ q19 H
    · rw [if_neg h9] at H
      cases b10 : pm_inb ((44 + (6 * l1)) + 0) 18186 with
      | false => rw [b10] at H; cases H
      | true =>
       rw [b10] at H
       dsimp only at H
       cases b11 : pm_inb ((44 + (6 * l1)) + 1) 18186 with
       | false => rw [b11] at H; cases H
       | true =>
        rw [b11] at H
        dsimp only at H
        refine pm_Wg.path (k := 27) (ds := [0]) (f' := (89, [some (.ref 64), some (.int (l1 + 1))], [], mo_h gx (mo_a (mo_a s 3 ((44 + (6 * l1)) + 0) (-1)) 3 ((44 + (6 * l1)) + 1) (-1)) gs q)) tk_X9_begin (by omega) rfl ⟨pm_inb_vp b11, pm_inb_vp b10, h9, trivial⟩ ?_
        exact ih _ _ e H hPe
set_option maxRecDepth 20000 in
set_option maxHeartbeats 40000000 in
theorem ll_X9_begin_47 (d : Nat) (hd : 1 ≤ d) (gx : List pm_E) (gs : List (List pm_E)) (q : Nat × Nat × Nat) (s1 : mo_S) (P : mo_S → Prop) (K0 : ∀ e : mo_S, P (e) → e = s1) : ∀ (n : Nat) (s : mo_S) (l1 : Int32) (e : mo_S), pm_loop n lb_X9_begin_47 (s, l1) = some e → P e → pm_Wg 148 d (.inl (none)) (mo_h gx s1 gs q) (47, [some (.ref 64), some (.int l1)], [], mo_h gx s gs q) := by
  intro n
  induction n with
  | zero => intro s l1 e H; cases H
  | succ n ih =>
    intro s l1 e H hPe
    have H : pm_lst (pm_loop n lb_X9_begin_47) (lb_X9_begin_47 (s, l1)) = some e := H
    generalize pm_loop n lb_X9_begin_47 = LB at H ih
    unfold lb_X9_begin_47 at H
    try dsimp only at H
    by_cases h6 : 7 ≤ l1
    · rw [if_pos h6] at H
      cases q20 : pm_loop pm_fu lb_X9_begin_89 (s, 0) with
      | none => rw [q20] at H; cases H
      | some e9 =>
       rw [q20] at H
       try dsimp only at H
       refine pm_Wg.path (k := 5) (ds := [1]) (f' := (89, [some (.ref 64), some (.int 0)], [], mo_h gx s gs q)) tk_X9_begin (by omega) rfl ⟨h6, trivial⟩ ?_
       exact ll_X9_begin_89 d (by omega) gx gs q s1 (fun e9 => pm_lst LB (some (.inr e9)) = some e) (fun e0 hk => K0 e0 (Option.some.inj hk ▸ hPe)) pm_fu _ _ _ q20 H
    · rw [if_neg h6] at H
      cases b7 : pm_inb ((16 + (4 * l1)) + 0) 18186 with
      | false => rw [b7] at H; cases H
      | true =>
       rw [b7] at H
       dsimp only at H
       cases b8 : pm_inb ((16 + (4 * l1)) + 1) 18186 with
       | false => rw [b8] at H; cases H
       | true =>
        rw [b8] at H
        dsimp only at H
        refine pm_Wg.path (k := 27) (ds := [0]) (f' := (47, [some (.ref 64), some (.int (l1 + 1))], [], mo_h gx (mo_a (mo_a s 3 ((16 + (4 * l1)) + 0) (-1)) 3 ((16 + (4 * l1)) + 1) (-1)) gs q)) tk_X9_begin (by omega) rfl ⟨pm_inb_vp b8, pm_inb_vp b7, h6, trivial⟩ ?_
        exact ih _ _ e H hPe
set_option maxRecDepth 20000 in
set_option maxHeartbeats 40000000 in
theorem ll_X9_begin_2 (d : Nat) (hd : 1 ≤ d) (gx : List pm_E) (gs : List (List pm_E)) (q : Nat × Nat × Nat) (s1 : mo_S) (P : mo_S → Prop) (K0 : ∀ e : mo_S, P (e) → e = s1) : ∀ (n : Nat) (s : mo_S) (l1 : Int32) (e : mo_S), pm_loop n lb_X9_begin_2 (s, l1) = some e → P e → pm_Wg 148 d (.inl (none)) (mo_h gx s1 gs q) (2, [some (.ref 64), some (.int l1)], [], mo_h gx s gs q) := by
  intro n
  induction n with
  | zero => intro s l1 e H; cases H
  | succ n ih =>
    intro s l1 e H hPe
    have H : pm_lst (pm_loop n lb_X9_begin_2) (lb_X9_begin_2 (s, l1)) = some e := H
    generalize pm_loop n lb_X9_begin_2 = LB at H ih
    unfold lb_X9_begin_2 at H
    try dsimp only at H
    by_cases h1 : 18186 ≤ l1
    · rw [if_pos h1] at H
      cases b2 : pm_inb 1 18186 with
      | false => rw [b2] at H; cases H
      | true =>
       rw [b2] at H
       dsimp only at H
       cases b3 : pm_inb 7 18186 with
       | false => rw [b3] at H; cases H
       | true =>
        rw [b3] at H
        dsimp only at H
        cases b4 : pm_inb 10 18186 with
        | false => rw [b4] at H; cases H
        | true =>
         rw [b4] at H
         dsimp only at H
         cases q21 : pm_loop pm_fu lb_X9_begin_47 ((mo_a (mo_a (mo_a s 3 1 (-1)) 3 7 (-1)) 3 10 (-1)), 0) with
         | none => rw [q21] at H; cases H
         | some e9 =>
          rw [q21] at H
          try dsimp only at H
          refine pm_Wg.path (k := 20) (ds := [1]) (f' := (47, [some (.ref 64), some (.int 0)], [], mo_h gx (mo_a (mo_a (mo_a s 3 1 (-1)) 3 7 (-1)) 3 10 (-1)) gs q)) tk_X9_begin (by omega) rfl ⟨pm_inb_vp b4, pm_inb_vp b3, pm_inb_vp b2, h1, trivial⟩ ?_
          exact ll_X9_begin_47 d (by omega) gx gs q s1 (fun e9 => pm_lst LB (some (.inr e9)) = some e) (fun e0 hk => K0 e0 (Option.some.inj hk ▸ hPe)) pm_fu _ _ _ q21 H
    · rw [if_neg h1] at H
      cases b5 : pm_inb l1 18186 with
      | false => rw [b5] at H; cases H
      | true =>
       rw [b5] at H
       dsimp only at H
       refine pm_Wg.path (k := 10) (ds := [0]) (f' := (2, [some (.ref 64), some (.int (l1 + 1))], [], mo_h gx (mo_a s 3 l1 0) gs q)) tk_X9_begin (by omega) rfl ⟨pm_inb_vp b5, h1, trivial⟩ ?_
       exact ih _ _ e H hPe
set_option maxRecDepth 20000 in
set_option maxHeartbeats 20000000 in
theorem e_X9_begin (d : Nat) (hd : 1 ≤ d) (gx : List pm_E) (gs : List (List pm_E)) (q : Nat × Nat × Nat) (s : mo_S) (s1 : mo_S) (H : f_X9_begin s = some s1) : pm_Mt 148 d [.ref 64] (mo_h gx s gs q) (.inl (none)) (mo_h gx s1 gs q) := by
  refine pm_Mt.of (by decide) (by decide +kernel) rfl rfl ?_
  unfold f_X9_begin at H
  refine pm_Wg.path (k := 2) (ds := []) (f' := (2, [some (.ref 64), some (.int 0)], [], mo_h gx s gs q)) tk_X9_begin (by omega) rfl trivial ?_
  exact ll_X9_begin_2 d (by omega) gx gs q s1 (fun e => e = s1) (fun e he => he) pm_fu _ _ _ H rfl

def lb_X9_append_3 (x : mo_S × Int32 × Int32) : Option ((mo_S × Int32 × Int32) ⊕ (mo_S)) := match x with
  | (s, l1, l2) =>
   (if l2 < 0 then
    some (.inr s)
   else
    (match pm_inb (s.1 8) 800 with
    | false => none
    | true =>
    some (.inl ((mo_i (mo_a s 7 (s.1 8) ((l1 >>> (l2 &&& 31)) &&& 255)) 8 (((mo_a s 7 (s.1 8) ((l1 >>> (l2 &&& 31)) &&& 255)).1 8) + 1)), l1, (l2 - 8)))))
def f_X9_append (s : mo_S) (a0 : Int32) : Option mo_S :=
  (pm_loop pm_fu lb_X9_append_3 (s, a0, 24))
def tb_X9_append : List pm_I := [(0, .bipush 24, 16, 0), (2, .istore_n 2, 0, 0), (3, .iload_n 2, 0, 0), (4, .ifCond .lt 37, 41, 0), (7, .aload_n 0, 0, 0), (8, .getfield 29, 166, 0), (11, .aload_n 0, 0, 0), (12, .getfield 66, 167, 0), (15, .iload_n 1, 0, 0), (16, .iload_n 2, 0, 0), (17, .ishr, 0, 0), (18, .sipush 255, 31, 0), (21, .iand, 0, 0), (22, .iastore, 0, 0), (23, .aload_n 0, 0, 0), (24, .aload_n 0, 0, 0), (25, .getfield 66, 167, 0), (28, .iconst 1, 3, 0), (29, .iadd, 0, 0), (30, .putfield 66, 167, 0), (33, .iload_n 2, 0, 0), (34, .bipush 8, 10, 0), (36, .isub, 0, 0), (37, .istore_n 2, 0, 0), (38, .goto (-35), 3, 0), (41, .return_, 0, 0)]
theorem tk_X9_append : ∀ e ∈ tb_X9_append, pm_ck 159 e = true := List.all_eq_true.mp (by decide +kernel)
set_option maxRecDepth 20000 in
set_option maxHeartbeats 40000000 in
theorem ll_X9_append_3 (d : Nat) (hd : 1 ≤ d) (gx : List pm_E) (gs : List (List pm_E)) (q : Nat × Nat × Nat) (s1 : mo_S) (P : mo_S → Prop) (K0 : ∀ e : mo_S, P (e) → e = s1) : ∀ (n : Nat) (s : mo_S) (l1 : Int32) (l2 : Int32) (e : mo_S), pm_loop n lb_X9_append_3 (s, l1, l2) = some e → P e → pm_Wg 159 d (.inl (none)) (mo_h gx s1 gs q) (3, [some (.ref 64), some (.int l1), some (.int l2)], [], mo_h gx s gs q) := by
  intro n
  induction n with
  | zero => intro s l1 l2 e H; cases H
  | succ n ih =>
    intro s l1 l2 e H hPe
    have H : pm_lst (pm_loop n lb_X9_append_3) (lb_X9_append_3 (s, l1, l2)) = some e := H
    generalize pm_loop n lb_X9_append_3 = LB at H ih
    unfold lb_X9_append_3 at H
    try dsimp only at H
    by_cases h1 : l2 < 0
    · rw [if_pos h1] at H
      have He := Option.some.inj H
      subst He
      have H := K0 _ hPe
      subst H
      refine pm_Wg.path (k := 2) (ds := [1]) (f' := (41, [some (.ref 64), some (.int l1), some (.int l2)], [], mo_h gx s gs q)) tk_X9_append (by omega) rfl ⟨h1, trivial⟩ ?_
      exact pm_Wg.vret (pm_dec tk_X9_append rfl) rfl
    · rw [if_neg h1] at H
      cases b2 : pm_inb (s.1 8) 800 with
      | false => rw [b2] at H; cases H
      | true =>
       rw [b2] at H
       dsimp only at H
       refine pm_Wg.path (k := 23) (ds := [0]) (f' := (3, [some (.ref 64), some (.int l1), some (.int (l2 - 8))], [], mo_h gx (mo_i (mo_a s 7 (s.1 8) ((l1 >>> (l2 &&& 31)) &&& 255)) 8 (((mo_a s 7 (s.1 8) ((l1 >>> (l2 &&& 31)) &&& 255)).1 8) + 1)) gs q)) tk_X9_append (by omega) rfl ⟨pm_inb_vp b2, h1, trivial⟩ ?_
       exact ih _ _ _ e H hPe
set_option maxRecDepth 20000 in
set_option maxHeartbeats 20000000 in
theorem e_X9_append (d : Nat) (hd : 1 ≤ d) (gx : List pm_E) (gs : List (List pm_E)) (q : Nat × Nat × Nat) (s : mo_S) (a0 : Int32) (s1 : mo_S) (H : f_X9_append s a0 = some s1) : pm_Mt 159 d [.ref 64, .int a0] (mo_h gx s gs q) (.inl (none)) (mo_h gx s1 gs q) := by
  refine pm_Mt.of (by decide) (by decide +kernel) rfl rfl ?_
  unfold f_X9_append at H
  refine pm_Wg.path (k := 2) (ds := []) (f' := (3, [some (.ref 64), some (.int a0), some (.int 24)], [], mo_h gx s gs q)) tk_X9_append (by omega) rfl trivial ?_
  exact ll_X9_append_3 d (by omega) gx gs q s1 (fun e => e = s1) (fun e he => he) pm_fu _ _ _ _ H rfl

def lb_X9_peek_0 (x : mo_S) : Option ((mo_S) ⊕ (Int32 × mo_S)) := match x with
  | s =>
   (match f_X9_byteAt s (s.1 9) with
   | none => none
   | some r1 =>
    (if r1 = 32 then
     some (.inl (mo_i s 9 ((s.1 9) + 1)))
    else
     (if r1 = 10 then
      some (.inl (mo_i s 9 ((s.1 9) + 1)))
     else
      (match f_X9_byteAt (mo_i s 12 (s.1 9)) ((mo_i s 12 (s.1 9)).1 9) with
      | none => none
      | some r7 =>
       some (.inr (r7, (mo_i s 12 (s.1 9))))))))
def f_X9_peek (s : mo_S) : Option (Int32 × mo_S) :=
  (pm_loop pm_fu lb_X9_peek_0 s)
def tb_X9_peek : List pm_I := [(0, .aload_n 0, 0, 0), (1, .aload_n 0, 0, 0), (2, .getfield 86, 168, 0), (5, .invokevirtual 89, 241, 0), (8, .bipush 32, 18, 0), (10, .if_icmp .eq 16, 26, 0), (13, .aload_n 0, 0, 0), (14, .aload_n 0, 0, 0), (15, .getfield 86, 168, 0), (18, .invokevirtual 89, 241, 0), (21, .bipush 10, 12, 0), (23, .if_icmp .ne 16, 39, 0), (26, .aload_n 0, 0, 0), (27, .aload_n 0, 0, 0), (28, .getfield 86, 168, 0), (31, .iconst 1, 3, 0), (32, .iadd, 0, 0), (33, .putfield 86, 168, 0), (36, .goto (-36), 0, 0), (39, .aload_n 0, 0, 0), (40, .aload_n 0, 0, 0), (41, .getfield 86, 168, 0), (44, .putfield 92, 171, 0), (47, .aload_n 0, 0, 0), (48, .aload_n 0, 0, 0), (49, .getfield 86, 168, 0), (52, .invokevirtual 89, 241, 0), (55, .ireturn, 0, 0)]
theorem tk_X9_peek : ∀ e ∈ tb_X9_peek, pm_ck 165 e = true := List.all_eq_true.mp (by decide +kernel)
set_option maxRecDepth 20000 in
set_option maxHeartbeats 40000000 in
theorem ll_X9_peek_0 (d : Nat) (hd : 2 ≤ d) (gx : List pm_E) (gs : List (List pm_E)) (q : Nat × Nat × Nat) (r : Int32) (s1 : mo_S) (P : Int32 × mo_S → Prop) (K0 : ∀ e : Int32 × mo_S, P (e) → e = (r, s1)) : ∀ (n : Nat) (s : mo_S) (e : Int32 × mo_S), pm_loop n lb_X9_peek_0 s = some e → P e → pm_Wg 165 d (.inl (some (.int r))) (mo_h gx s1 gs q) (0, [some (.ref 64)], [], mo_h gx s gs q) := by
  intro n
  induction n with
  | zero => intro s e H; cases H
  | succ n ih =>
    intro s e H hPe
    obtain ⟨d, rfl⟩ : ∃ d', d = d' + 1 := ⟨d - 1, by omega⟩
    have H : pm_lst (pm_loop n lb_X9_peek_0) (lb_X9_peek_0 s) = some e := H
    generalize pm_loop n lb_X9_peek_0 = LB at H ih
    unfold lb_X9_peek_0 at H
    try dsimp only at H
    cases q2 : f_X9_byteAt s (s.1 9) with
    | none => rw [q2] at H; cases H
    | some r1 =>
     rw [q2] at H
     dsimp only at H
     refine pm_Wg.path (k := 3) (ds := []) (f' := (5, [some (.ref 64)], [.int (s.1 9), .ref 64], mo_h gx s gs q)) tk_X9_peek (by omega) rfl trivial ?_
     refine pm_Wg.callV (m' := 162) (ix := 89) (rr := 241) (pl := 1539) (b := 64) (As := [.int (s.1 9)]) (S := []) (by decide) rfl (pm_dec tk_X9_peek rfl) rfl rfl (by decide) rfl rfl (by decide) (Nat.le_of_ble_eq_true rfl) rfl (e_X9_byteAt d (by omega) gx gs q _ _ _ q2) ?_
     by_cases h3 : r1 = 32
     · rw [if_pos h3] at H
       refine pm_Wg.path (k := 9) (ds := [1]) (f' := (0, [some (.ref 64)], [], mo_h gx (mo_i s 9 ((s.1 9) + 1)) gs q)) tk_X9_peek (by omega) rfl ⟨h3, trivial⟩ ?_
       exact ih _ e H hPe
     · rw [if_neg h3] at H
       refine pm_Wg.path (k := 5) (ds := [0]) (f' := (18, [some (.ref 64)], [.int (s.1 9), .ref 64], mo_h gx s gs q)) tk_X9_peek (by omega) rfl ⟨h3, trivial⟩ ?_
       refine pm_Wg.callV (m' := 162) (ix := 89) (rr := 241) (pl := 1539) (b := 64) (As := [.int (s.1 9)]) (S := []) (by decide) rfl (pm_dec tk_X9_peek rfl) rfl rfl (by decide) rfl rfl (by decide) (Nat.le_of_ble_eq_true rfl) rfl (e_X9_byteAt d (by omega) gx gs q _ _ _ q2) ?_
       by_cases h6 : r1 = 10
       · rw [if_pos h6] at H
         refine pm_Wg.path (k := 9) (ds := [0]) (f' := (0, [some (.ref 64)], [], mo_h gx (mo_i s 9 ((s.1 9) + 1)) gs q)) tk_X9_peek (by omega) rfl ⟨h6, trivial⟩ ?_
         exact ih _ e H hPe
       · rw [if_neg h6] at H
         cases q8 : f_X9_byteAt (mo_i s 12 (s.1 9)) ((mo_i s 12 (s.1 9)).1 9) with
         | none => rw [q8] at H; cases H
         | some r7 =>
          rw [q8] at H
          dsimp only at H
          refine pm_Wg.path (k := 9) (ds := [1]) (f' := (52, [some (.ref 64)], [.int ((mo_i s 12 (s.1 9)).1 9), .ref 64], mo_h gx (mo_i s 12 (s.1 9)) gs q)) tk_X9_peek (by omega) rfl ⟨h6, trivial⟩ ?_
          refine pm_Wg.callV (m' := 162) (ix := 89) (rr := 241) (pl := 1539) (b := 64) (As := [.int ((mo_i s 12 (s.1 9)).1 9)]) (S := []) (by decide) rfl (pm_dec tk_X9_peek rfl) rfl rfl (by decide) rfl rfl (by decide) (Nat.le_of_ble_eq_true rfl) rfl (e_X9_byteAt d (by omega) gx gs q _ _ _ q8) ?_
          have He := Option.some.inj H
          subst He
          have H := K0 _ hPe
          injection H with H1 H2
          subst H1
          subst H2
          exact pm_Wg.iret (pm_dec tk_X9_peek rfl) rfl rfl
set_option maxRecDepth 20000 in
set_option maxHeartbeats 20000000 in
theorem e_X9_peek (d : Nat) (hd : 2 ≤ d) (gx : List pm_E) (gs : List (List pm_E)) (q : Nat × Nat × Nat) (s : mo_S) (r : Int32) (s1 : mo_S) (H : f_X9_peek s = some (r, s1)) : pm_Mt 165 d [.ref 64] (mo_h gx s gs q) (.inl (some (.int r))) (mo_h gx s1 gs q) := by
  refine pm_Mt.of (by decide) (by decide +kernel) rfl rfl ?_
  obtain ⟨d, rfl⟩ : ∃ d', d = d' + 1 := ⟨d - 1, by omega⟩
  unfold f_X9_peek at H
  exact ll_X9_peek_0 (d + 1) (by omega) gx gs q r s1 (fun e => e = (r, s1)) (fun e he => he) pm_fu _ _ H rfl

def lb_X9_seesWord_38 (x : mo_S × Int32) : Option ((mo_S × Int32) ⊕ (Int32 × mo_S)) := match x with
  | (s, l1) =>
   (match f_X9_byteAt s ((s.1 12) + l1) with
   | none => none
   | some r16 =>
    (match f_X9_isLetter s r16 with
    | none => none
    | some r18 =>
     (if r18 = 0 then
      some (.inr (1, s))
     else
      (if 7 ≤ l1 then
       some (.inl ((mo_w s 0), (l1 + 1)))
      else
       some (.inl ((mo_w s (((32 * s.2.1) + (Int32.toInt64 r16)) - 96)), (l1 + 1)))))))
def f_X9_seesWord (s : mo_S) : Option (Int32 × mo_S) :=
  (match f_X9_peek s with
  | none => none
  | some (r1, s2) =>
   (match f_X9_isLetter s2 r1 with
   | none => none
   | some r4 =>
    (if r4 = 0 then
     (match f_X9_fails s2 1 (s2.1 12) with
     | none => none
     | some (r8, s9) =>
      (if r8 &&& 1 = r8 then some (r8, s9) else none))
    else
     (if (s2.1 12) = (s2.1 11) then
      (match f_X9_fails s2 1 (s2.1 12) with
      | none => none
      | some (r12, s13) =>
       (if r12 &&& 1 = r12 then some (r12, s13) else none))
     else
      (pm_loop pm_fu lb_X9_seesWord_38 ((mo_w s2 0), 0))))))
def tb_X9_seesWord : List pm_I := [(0, .aload_n 0, 0, 0), (1, .invokevirtual 95, 240, 0), (4, .invokestatic 98, 242, 0), (7, .ifCond .eq 14, 21, 0), (10, .aload_n 0, 0, 0), (11, .getfield 92, 171, 0), (14, .aload_n 0, 0, 0), (15, .getfield 102, 170, 0), (18, .if_icmp .ne 13, 31, 0), (21, .aload_n 0, 0, 0), (22, .iconst 1, 3, 0), (23, .aload_n 0, 0, 0), (24, .getfield 92, 171, 0), (27, .invokevirtual 105, 243, 0), (30, .ireturn, 0, 0), (31, .aload_n 0, 0, 0), (32, .lconst 0, 0, 0), (33, .putfield 109, 175, 0), (36, .iconst 0, 2, 0), (37, .istore_n 1, 0, 0), (38, .aload_n 0, 0, 0), (39, .aload_n 0, 0, 0), (40, .getfield 92, 171, 0), (43, .iload_n 1, 0, 0), (44, .iadd, 0, 0), (45, .invokevirtual 89, 241, 0), (48, .invokestatic 98, 242, 0), (51, .ifCond .eq 48, 99, 0), (54, .aload_n 0, 0, 0), (55, .iload_n 1, 0, 0), (56, .bipush 7, 9, 0), (58, .if_icmp .ge 30, 88, 0), (61, .ldc2_w 113, 6, 0), (64, .aload_n 0, 0, 0), (65, .getfield 109, 175, 0), (68, .lmul, 0, 0), (69, .aload_n 0, 0, 0), (70, .aload_n 0, 0, 0), (71, .getfield 92, 171, 0), (74, .iload_n 1, 0, 0), (75, .iadd, 0, 0), (76, .invokevirtual 89, 241, 0), (79, .i2l, 0, 0), (80, .ladd, 0, 0), (81, .ldc2_w 115, 7, 0), (84, .lsub, 0, 0), (85, .goto 4, 89, 0), (88, .lconst 0, 0, 0), (89, .putfield 109, 175, 0), (92, .iload_n 1, 0, 0), (93, .iconst 1, 3, 0), (94, .iadd, 0, 0), (95, .istore_n 1, 0, 0), (96, .goto (-58), 38, 0), (99, .iconst 1, 3, 0), (100, .ireturn, 0, 0)]
theorem tk_X9_seesWord : ∀ e ∈ tb_X9_seesWord, pm_ck 167 e = true := List.all_eq_true.mp (by decide +kernel)
set_option maxRecDepth 20000 in
set_option maxHeartbeats 40000000 in
theorem ll_X9_seesWord_38 (d : Nat) (hd : 3 ≤ d) (gx : List pm_E) (gs : List (List pm_E)) (q : Nat × Nat × Nat) (r : Int32) (s1 : mo_S) (P : Int32 × mo_S → Prop) (K0 : ∀ e : Int32 × mo_S, P (e) → e = (r, s1)) : ∀ (n : Nat) (s : mo_S) (l1 : Int32) (e : Int32 × mo_S), pm_loop n lb_X9_seesWord_38 (s, l1) = some e → P e → pm_Wg 167 d (.inl (some (.int r))) (mo_h gx s1 gs q) (38, [some (.ref 64), some (.int l1)], [], mo_h gx s gs q) := by
  intro n
  induction n with
  | zero => intro s l1 e H; cases H
  | succ n ih =>
    intro s l1 e H hPe
    obtain ⟨d, rfl⟩ : ∃ d', d = d' + 1 := ⟨d - 1, by omega⟩
    have H : pm_lst (pm_loop n lb_X9_seesWord_38) (lb_X9_seesWord_38 (s, l1)) = some e := H
    generalize pm_loop n lb_X9_seesWord_38 = LB at H ih
    unfold lb_X9_seesWord_38 at H
    try dsimp only at H
    cases q17 : f_X9_byteAt s ((s.1 12) + l1) with
    | none => rw [q17] at H; cases H
    | some r16 =>
     rw [q17] at H
     dsimp only at H
     refine pm_Wg.path (k := 5) (ds := []) (f' := (45, [some (.ref 64), some (.int l1)], [.int ((s.1 12) + l1), .ref 64], mo_h gx s gs q)) tk_X9_seesWord (by omega) rfl trivial ?_
     refine pm_Wg.callV (m' := 162) (ix := 89) (rr := 241) (pl := 1539) (b := 64) (As := [.int ((s.1 12) + l1)]) (S := []) (by decide) rfl (pm_dec tk_X9_seesWord rfl) rfl rfl (by decide) rfl rfl (by decide) (Nat.le_of_ble_eq_true rfl) rfl (e_X9_byteAt d (by omega) gx gs q _ _ _ q17) ?_
     cases q19 : f_X9_isLetter s r16 with
     | none => rw [q19] at H; cases H
     | some r18 =>
      rw [q19] at H
      dsimp only at H
      refine pm_Wg.callS (m' := 163) (ix := 98) (rr := 242) (pl := 1543) (As := [.int r16]) (S := []) (by decide) rfl (pm_dec tk_X9_seesWord rfl) rfl rfl rfl (Nat.le_of_ble_eq_true rfl) rfl (e_X9_isLetter d (by omega) gx gs q _ _ _ q19) ?_
      by_cases h20 : r18 = 0
      · rw [if_pos h20] at H
        have He := Option.some.inj H
        subst He
        have H := K0 _ hPe
        injection H with H1 H2
        subst H1
        subst H2
        refine pm_Wg.path (k := 2) (ds := [1]) (f' := (100, [some (.ref 64), some (.int l1)], [.int 1], mo_h gx s gs q)) tk_X9_seesWord (by omega) rfl ⟨h20, trivial⟩ ?_
        exact pm_Wg.iret (pm_dec tk_X9_seesWord rfl) rfl rfl
      · rw [if_neg h20] at H
        by_cases h21 : 7 ≤ l1
        · rw [if_pos h21] at H
          refine pm_Wg.path (k := 12) (ds := [0, 1]) (f' := (38, [some (.ref 64), some (.int (l1 + 1))], [], mo_h gx (mo_w s 0) gs q)) tk_X9_seesWord (by omega) rfl ⟨h21, h20, trivial⟩ ?_
          exact ih _ _ e H hPe
        · rw [if_neg h21] at H
          refine pm_Wg.path (k := 14) (ds := [0, 0]) (f' := (76, [some (.ref 64), some (.int l1)], [.int ((s.1 12) + l1), .ref 64, .long (32 * s.2.1), .ref 64], mo_h gx s gs q)) tk_X9_seesWord (by omega) rfl ⟨h21, h20, trivial⟩ ?_
          refine pm_Wg.callV (m' := 162) (ix := 89) (rr := 241) (pl := 1539) (b := 64) (As := [.int ((s.1 12) + l1)]) (S := [.long (32 * s.2.1), .ref 64]) (by decide) rfl (pm_dec tk_X9_seesWord rfl) rfl rfl (by decide) rfl rfl (by decide) (Nat.le_of_ble_eq_true rfl) rfl (e_X9_byteAt d (by omega) gx gs q _ _ _ q17) ?_
          refine pm_Wg.path (k := 11) (ds := []) (f' := (38, [some (.ref 64), some (.int (l1 + 1))], [], mo_h gx (mo_w s (((32 * s.2.1) + (Int32.toInt64 r16)) - 96)) gs q)) tk_X9_seesWord (by omega) rfl trivial ?_
          exact ih _ _ e H hPe
set_option maxRecDepth 20000 in
set_option maxHeartbeats 20000000 in
theorem e_X9_seesWord (d : Nat) (hd : 3 ≤ d) (gx : List pm_E) (gs : List (List pm_E)) (q : Nat × Nat × Nat) (s : mo_S) (r : Int32) (s1 : mo_S) (H : f_X9_seesWord s = some (r, s1)) : pm_Mt 167 d [.ref 64] (mo_h gx s gs q) (.inl (some (.int r))) (mo_h gx s1 gs q) := by
  refine pm_Mt.of (by decide) (by decide +kernel) rfl rfl ?_
  obtain ⟨d, rfl⟩ : ∃ d', d = d' + 1 := ⟨d - 1, by omega⟩
  unfold f_X9_seesWord at H
  cases q3 : f_X9_peek s with
  | none => rw [q3] at H; cases H
  | some w =>
   obtain ⟨r1, s2⟩ := w
   rw [q3] at H
   dsimp only at H
   refine pm_Wg.path (k := 1) (ds := []) (f' := (1, [some (.ref 64), none], [.ref 64], mo_h gx s gs q)) tk_X9_seesWord (by omega) rfl trivial ?_
   refine pm_Wg.callV (m' := 165) (ix := 95) (rr := 240) (pl := 1535) (b := 64) (As := []) (S := []) (by decide) rfl (pm_dec tk_X9_seesWord rfl) rfl rfl (by decide) rfl rfl (by decide) (Nat.le_of_ble_eq_true rfl) rfl (e_X9_peek d (by omega) gx gs q _ _ _ q3) ?_
   cases q5 : f_X9_isLetter s2 r1 with
   | none => rw [q5] at H; cases H
   | some r4 =>
    rw [q5] at H
    dsimp only at H
    refine pm_Wg.callS (m' := 163) (ix := 98) (rr := 242) (pl := 1543) (As := [.int r1]) (S := []) (by decide) rfl (pm_dec tk_X9_seesWord rfl) rfl rfl rfl (Nat.le_of_ble_eq_true rfl) rfl (e_X9_isLetter d (by omega) gx gs q _ _ _ q5) ?_
    by_cases h6 : r4 = 0
    · rw [if_pos h6] at H
      cases q10 : f_X9_fails s2 1 (s2.1 12) with
      | none => rw [q10] at H; cases H
      | some w =>
       obtain ⟨r8, s9⟩ := w
       rw [q10] at H
       dsimp only at H
       refine pm_Wg.path (k := 5) (ds := [1]) (f' := (27, [some (.ref 64), none], [.int (s2.1 12), .int 1, .ref 64], mo_h gx s2 gs q)) tk_X9_seesWord (by omega) rfl ⟨h6, trivial⟩ ?_
       refine pm_Wg.callV (m' := 166) (ix := 105) (rr := 243) (pl := 1546) (b := 64) (As := [.int 1, .int (s2.1 12)]) (S := []) (by decide) rfl (pm_dec tk_X9_seesWord rfl) rfl rfl (by decide) rfl rfl (by decide) (Nat.le_of_ble_eq_true rfl) rfl (e_X9_fails d (by omega) gx gs q _ _ _ _ _ q10) ?_
       by_cases z11 : r8 &&& 1 = r8
       case neg => rw [if_neg z11] at H; cases H
       rw [if_pos z11] at H
       injection H with H
       injection H with H1 H2
       subst H1
       subst H2
       exact pm_Wg.iret (pm_dec tk_X9_seesWord rfl) rfl (pm_nb1 z11)
    · rw [if_neg h6] at H
      by_cases h7 : (s2.1 12) = (s2.1 11)
      · rw [if_pos h7] at H
        cases q14 : f_X9_fails s2 1 (s2.1 12) with
        | none => rw [q14] at H; cases H
        | some w =>
         obtain ⟨r12, s13⟩ := w
         rw [q14] at H
         dsimp only at H
         refine pm_Wg.path (k := 10) (ds := [0, 0]) (f' := (27, [some (.ref 64), none], [.int (s2.1 12), .int 1, .ref 64], mo_h gx s2 gs q)) tk_X9_seesWord (by omega) rfl ⟨h7, h6, trivial⟩ ?_
         refine pm_Wg.callV (m' := 166) (ix := 105) (rr := 243) (pl := 1546) (b := 64) (As := [.int 1, .int (s2.1 12)]) (S := []) (by decide) rfl (pm_dec tk_X9_seesWord rfl) rfl rfl (by decide) rfl rfl (by decide) (Nat.le_of_ble_eq_true rfl) rfl (e_X9_fails d (by omega) gx gs q _ _ _ _ _ q14) ?_
         by_cases z15 : r12 &&& 1 = r12
         case neg => rw [if_neg z15] at H; cases H
         rw [if_pos z15] at H
         injection H with H
         injection H with H1 H2
         subst H1
         subst H2
         exact pm_Wg.iret (pm_dec tk_X9_seesWord rfl) rfl (pm_nb1 z15)
      · rw [if_neg h7] at H
        refine pm_Wg.path (k := 11) (ds := [0, 1]) (f' := (38, [some (.ref 64), some (.int 0)], [], mo_h gx (mo_w s2 0) gs q)) tk_X9_seesWord (by omega) rfl ⟨h7, h6, trivial⟩ ?_
        exact ll_X9_seesWord_38 (d + 1) (by omega) gx gs q r s1 (fun e => e = (r, s1)) (fun e he => he) pm_fu _ _ _ H rfl

def lb_X9_passWord_0 (x : mo_S) : Option ((mo_S) ⊕ (mo_S)) := match x with
  | s =>
   (match f_X9_byteAt s (s.1 9) with
   | none => none
   | some r1 =>
    (match f_X9_isLetter s r1 with
    | none => none
    | some r3 =>
     (if r3 = 0 then
      some (.inr (mo_i s 11 (s.1 9)))
     else
      some (.inl (mo_i s 9 ((s.1 9) + 1))))))
def f_X9_passWord (s : mo_S) : Option mo_S :=
  (pm_loop pm_fu lb_X9_passWord_0 s)
def tb_X9_passWord : List pm_I := [(0, .aload_n 0, 0, 0), (1, .aload_n 0, 0, 0), (2, .getfield 86, 168, 0), (5, .invokevirtual 89, 241, 0), (8, .invokestatic 98, 242, 0), (11, .ifCond .eq 16, 27, 0), (14, .aload_n 0, 0, 0), (15, .aload_n 0, 0, 0), (16, .getfield 86, 168, 0), (19, .iconst 1, 3, 0), (20, .iadd, 0, 0), (21, .putfield 86, 168, 0), (24, .goto (-24), 0, 0), (27, .aload_n 0, 0, 0), (28, .aload_n 0, 0, 0), (29, .getfield 86, 168, 0), (32, .putfield 102, 170, 0), (35, .return_, 0, 0)]
theorem tk_X9_passWord : ∀ e ∈ tb_X9_passWord, pm_ck 168 e = true := List.all_eq_true.mp (by decide +kernel)
set_option maxRecDepth 20000 in
set_option maxHeartbeats 40000000 in
theorem ll_X9_passWord_0 (d : Nat) (hd : 3 ≤ d) (gx : List pm_E) (gs : List (List pm_E)) (q : Nat × Nat × Nat) (s1 : mo_S) (P : mo_S → Prop) (K0 : ∀ e : mo_S, P (e) → e = s1) : ∀ (n : Nat) (s : mo_S) (e : mo_S), pm_loop n lb_X9_passWord_0 s = some e → P e → pm_Wg 168 d (.inl (none)) (mo_h gx s1 gs q) (0, [some (.ref 64)], [], mo_h gx s gs q) := by
  intro n
  induction n with
  | zero => intro s e H; cases H
  | succ n ih =>
    intro s e H hPe
    obtain ⟨d, rfl⟩ : ∃ d', d = d' + 1 := ⟨d - 1, by omega⟩
    have H : pm_lst (pm_loop n lb_X9_passWord_0) (lb_X9_passWord_0 s) = some e := H
    generalize pm_loop n lb_X9_passWord_0 = LB at H ih
    unfold lb_X9_passWord_0 at H
    try dsimp only at H
    cases q2 : f_X9_byteAt s (s.1 9) with
    | none => rw [q2] at H; cases H
    | some r1 =>
     rw [q2] at H
     dsimp only at H
     refine pm_Wg.path (k := 3) (ds := []) (f' := (5, [some (.ref 64)], [.int (s.1 9), .ref 64], mo_h gx s gs q)) tk_X9_passWord (by omega) rfl trivial ?_
     refine pm_Wg.callV (m' := 162) (ix := 89) (rr := 241) (pl := 1539) (b := 64) (As := [.int (s.1 9)]) (S := []) (by decide) rfl (pm_dec tk_X9_passWord rfl) rfl rfl (by decide) rfl rfl (by decide) (Nat.le_of_ble_eq_true rfl) rfl (e_X9_byteAt d (by omega) gx gs q _ _ _ q2) ?_
     cases q4 : f_X9_isLetter s r1 with
     | none => rw [q4] at H; cases H
     | some r3 =>
      rw [q4] at H
      dsimp only at H
      refine pm_Wg.callS (m' := 163) (ix := 98) (rr := 242) (pl := 1543) (As := [.int r1]) (S := []) (by decide) rfl (pm_dec tk_X9_passWord rfl) rfl rfl rfl (Nat.le_of_ble_eq_true rfl) rfl (e_X9_isLetter d (by omega) gx gs q _ _ _ q4) ?_
      by_cases h5 : r3 = 0
      · rw [if_pos h5] at H
        have He := Option.some.inj H
        subst He
        have H := K0 _ hPe
        subst H
        refine pm_Wg.path (k := 5) (ds := [1]) (f' := (35, [some (.ref 64)], [], mo_h gx (mo_i s 11 (s.1 9)) gs q)) tk_X9_passWord (by omega) rfl ⟨h5, trivial⟩ ?_
        exact pm_Wg.vret (pm_dec tk_X9_passWord rfl) rfl
      · rw [if_neg h5] at H
        refine pm_Wg.path (k := 8) (ds := [0]) (f' := (0, [some (.ref 64)], [], mo_h gx (mo_i s 9 ((s.1 9) + 1)) gs q)) tk_X9_passWord (by omega) rfl ⟨h5, trivial⟩ ?_
        exact ih _ e H hPe
set_option maxRecDepth 20000 in
set_option maxHeartbeats 20000000 in
theorem e_X9_passWord (d : Nat) (hd : 3 ≤ d) (gx : List pm_E) (gs : List (List pm_E)) (q : Nat × Nat × Nat) (s : mo_S) (s1 : mo_S) (H : f_X9_passWord s = some s1) : pm_Mt 168 d [.ref 64] (mo_h gx s gs q) (.inl (none)) (mo_h gx s1 gs q) := by
  refine pm_Mt.of (by decide) (by decide +kernel) rfl rfl ?_
  obtain ⟨d, rfl⟩ : ∃ d', d = d' + 1 := ⟨d - 1, by omega⟩
  unfold f_X9_passWord at H
  exact ll_X9_passWord_0 (d + 1) (by omega) gx gs q s1 (fun e => e = s1) (fun e he => he) pm_fu _ _ H rfl

def f_X9_takesWord (s : mo_S) (a0 : Int64) : Option (Int32 × mo_S) :=
  (match f_X9_seesWord s with
  | none => none
  | some (r1, s2) =>
   (if r1 = 0 then
    some (0, s2)
   else
    (if (lg_cmp s2.2.1 a0) = 0 then
     (match f_X9_passWord s2 with
     | none => none
     | some s6 =>
      some (1, s6))
    else
     (match f_X9_fails s2 1 (s2.1 12) with
     | none => none
     | some (r8, s9) =>
      (if r8 &&& 1 = r8 then some (r8, s9) else none)))))
def tb_X9_takesWord : List pm_I := [(0, .aload_n 0, 0, 0), (1, .invokevirtual 117, 239, 0), (4, .ifCond .ne 5, 9, 0), (7, .iconst 0, 2, 0), (8, .ireturn, 0, 0), (9, .aload_n 0, 0, 0), (10, .getfield 109, 175, 0), (13, .lload_n 1, 0, 0), (14, .lcmp, 0, 0), (15, .ifCond .eq 13, 28, 0), (18, .aload_n 0, 0, 0), (19, .iconst 1, 3, 0), (20, .aload_n 0, 0, 0), (21, .getfield 92, 171, 0), (24, .invokevirtual 105, 243, 0), (27, .ireturn, 0, 0), (28, .aload_n 0, 0, 0), (29, .invokevirtual 120, 244, 0), (32, .iconst 1, 3, 0), (33, .ireturn, 0, 0)]
theorem tk_X9_takesWord : ∀ e ∈ tb_X9_takesWord, pm_ck 169 e = true := List.all_eq_true.mp (by decide +kernel)
set_option maxRecDepth 20000 in
set_option maxHeartbeats 20000000 in
theorem e_X9_takesWord (d : Nat) (hd : 4 ≤ d) (gx : List pm_E) (gs : List (List pm_E)) (q : Nat × Nat × Nat) (s : mo_S) (a0 : Int64) (r : Int32) (s1 : mo_S) (H : f_X9_takesWord s a0 = some (r, s1)) : pm_Mt 169 d [.ref 64, .long a0] (mo_h gx s gs q) (.inl (some (.int r))) (mo_h gx s1 gs q) := by
  refine pm_Mt.of (by decide) (by decide +kernel) rfl rfl ?_
  obtain ⟨d, rfl⟩ : ∃ d', d = d' + 1 := ⟨d - 1, by omega⟩
  unfold f_X9_takesWord at H
  cases q3 : f_X9_seesWord s with
  | none => rw [q3] at H; cases H
  | some w =>
   obtain ⟨r1, s2⟩ := w
   rw [q3] at H
   dsimp only at H
   refine pm_Wg.path (k := 1) (ds := []) (f' := (1, [some (.ref 64), some (.long a0), none], [.ref 64], mo_h gx s gs q)) tk_X9_takesWord (by omega) rfl trivial ?_
   refine pm_Wg.callV (m' := 167) (ix := 117) (rr := 239) (pl := 1531) (b := 64) (As := []) (S := []) (by decide) rfl (pm_dec tk_X9_takesWord rfl) rfl rfl (by decide) rfl rfl (by decide) (Nat.le_of_ble_eq_true rfl) rfl (e_X9_seesWord d (by omega) gx gs q _ _ _ q3) ?_
   by_cases h4 : r1 = 0
   · rw [if_pos h4] at H
     injection H with H
     injection H with H1 H2
     subst H1
     subst H2
     refine pm_Wg.path (k := 2) (ds := [0]) (f' := (8, [some (.ref 64), some (.long a0), none], [.int 0], mo_h gx s2 gs q)) tk_X9_takesWord (by omega) rfl ⟨h4, trivial⟩ ?_
     exact pm_Wg.iret (pm_dec tk_X9_takesWord rfl) rfl rfl
   · rw [if_neg h4] at H
     by_cases h5 : (lg_cmp s2.2.1 a0) = 0
     · rw [if_pos h5] at H
       cases q7 : f_X9_passWord s2 with
       | none => rw [q7] at H; cases H
       | some s6 =>
        rw [q7] at H
        dsimp only at H
        refine pm_Wg.path (k := 7) (ds := [1, 1]) (f' := (29, [some (.ref 64), some (.long a0), none], [.ref 64], mo_h gx s2 gs q)) tk_X9_takesWord (by omega) rfl ⟨h5, h4, trivial⟩ ?_
        refine pm_Wg.callV (m' := 168) (ix := 120) (rr := 244) (pl := 1552) (b := 64) (As := []) (S := []) (by decide) rfl (pm_dec tk_X9_takesWord rfl) rfl rfl (by decide) rfl rfl (by decide) (Nat.le_of_ble_eq_true rfl) rfl (e_X9_passWord d (by omega) gx gs q _ _ q7) ?_
        injection H with H
        injection H with H1 H2
        subst H1
        subst H2
        refine pm_Wg.path (k := 1) (ds := []) (f' := (33, [some (.ref 64), some (.long a0), none], [.int 1], mo_h gx s6 gs q)) tk_X9_takesWord (by omega) rfl trivial ?_
        exact pm_Wg.iret (pm_dec tk_X9_takesWord rfl) rfl rfl
     · rw [if_neg h5] at H
       cases q10 : f_X9_fails s2 1 (s2.1 12) with
       | none => rw [q10] at H; cases H
       | some w =>
        obtain ⟨r8, s9⟩ := w
        rw [q10] at H
        dsimp only at H
        refine pm_Wg.path (k := 10) (ds := [1, 0]) (f' := (24, [some (.ref 64), some (.long a0), none], [.int (s2.1 12), .int 1, .ref 64], mo_h gx s2 gs q)) tk_X9_takesWord (by omega) rfl ⟨h5, h4, trivial⟩ ?_
        refine pm_Wg.callV (m' := 166) (ix := 105) (rr := 243) (pl := 1546) (b := 64) (As := [.int 1, .int (s2.1 12)]) (S := []) (by decide) rfl (pm_dec tk_X9_takesWord rfl) rfl rfl (by decide) rfl rfl (by decide) (Nat.le_of_ble_eq_true rfl) rfl (e_X9_fails d (by omega) gx gs q _ _ _ _ _ q10) ?_
        by_cases z11 : r8 &&& 1 = r8
        case neg => rw [if_neg z11] at H; cases H
        rw [if_pos z11] at H
        injection H with H
        injection H with H1 H2
        subst H1
        subst H2
        exact pm_Wg.iret (pm_dec tk_X9_takesWord rfl) rfl (pm_nb1 z11)

def lb_X9_readNumber_38 (x : mo_S × Int32 × Int32 × Int32) : Option ((mo_S × Int32 × Int32 × Int32) ⊕ (Int32 × mo_S)) := match x with
  | (s, l1, l2, l3) =>
   (match f_X9_byteAt s ((s.1 12) + l3) with
   | none => none
   | some r16 =>
    (match f_X9_isDigit s r16 with
    | none => none
    | some r18 =>
     (if r18 = 0 then
      (if l3 ≤ 5 then
       (match f_X9_in s (s.1 13) l1 l2 with
       | none => none
       | some r23 =>
        (if r23 = 0 then
         (match f_X9_fails s 2 (s.1 12) with
         | none => none
         | some (r26, s27) =>
          (if r26 &&& 1 = r26 then some (.inr (r26, s27)) else none))
        else
         some (.inr (1, (mo_i (mo_i s 9 ((s.1 12) + l3)) 11 ((mo_i s 9 ((s.1 12) + l3)).1 9))))))
      else
       (match f_X9_fails s 1 (s.1 12) with
       | none => none
       | some (r30, s31) =>
        (if r30 &&& 1 = r30 then some (.inr (r30, s31)) else none)))
     else
      (if 5 ≤ l3 then
       some (.inl ((mo_i s 13 (s.1 13)), l1, l2, (l3 + 1)))
      else
       some (.inl ((mo_i s 13 (((10 * (s.1 13)) + r16) - 48)), l1, l2, (l3 + 1)))))))
def f_X9_readNumber (s : mo_S) (a0 : Int32) (a1 : Int32) : Option (Int32 × mo_S) :=
  (match f_X9_peek s with
  | none => none
  | some (r1, s2) =>
   (match f_X9_isDigit s2 r1 with
   | none => none
   | some r4 =>
    (if r4 = 0 then
     (match f_X9_fails s2 1 (s2.1 12) with
     | none => none
     | some (r8, s9) =>
      (if r8 &&& 1 = r8 then some (r8, s9) else none))
    else
     (if (s2.1 12) = (s2.1 11) then
      (match f_X9_fails s2 1 (s2.1 12) with
      | none => none
      | some (r12, s13) =>
       (if r12 &&& 1 = r12 then some (r12, s13) else none))
     else
      (pm_loop pm_fu lb_X9_readNumber_38 ((mo_i s2 13 0), a0, a1, 0))))))
def tb_X9_readNumber : List pm_I := [(0, .aload_n 0, 0, 0), (1, .invokevirtual 95, 240, 0), (4, .invokestatic 123, 247, 0), (7, .ifCond .eq 14, 21, 0), (10, .aload_n 0, 0, 0), (11, .getfield 92, 171, 0), (14, .aload_n 0, 0, 0), (15, .getfield 102, 170, 0), (18, .if_icmp .ne 13, 31, 0), (21, .aload_n 0, 0, 0), (22, .iconst 1, 3, 0), (23, .aload_n 0, 0, 0), (24, .getfield 92, 171, 0), (27, .invokevirtual 105, 243, 0), (30, .ireturn, 0, 0), (31, .aload_n 0, 0, 0), (32, .iconst 0, 2, 0), (33, .putfield 126, 172, 0), (36, .iconst 0, 2, 0), (37, .istore_n 3, 0, 0), (38, .aload_n 0, 0, 0), (39, .aload_n 0, 0, 0), (40, .getfield 92, 171, 0), (43, .iload_n 3, 0, 0), (44, .iadd, 0, 0), (45, .invokevirtual 89, 241, 0), (48, .invokestatic 123, 247, 0), (51, .ifCond .eq 47, 98, 0), (54, .aload_n 0, 0, 0), (55, .iload_n 3, 0, 0), (56, .iconst 5, 7, 0), (57, .if_icmp .ge 27, 84, 0), (60, .bipush 10, 12, 0), (62, .aload_n 0, 0, 0), (63, .getfield 126, 172, 0), (66, .imul, 0, 0), (67, .aload_n 0, 0, 0), (68, .aload_n 0, 0, 0), (69, .getfield 92, 171, 0), (72, .iload_n 3, 0, 0), (73, .iadd, 0, 0), (74, .invokevirtual 89, 241, 0), (77, .iadd, 0, 0), (78, .bipush 48, 21, 0), (80, .isub, 0, 0), (81, .goto 7, 88, 0), (84, .aload_n 0, 0, 0), (85, .getfield 126, 172, 0), (88, .putfield 126, 172, 0), (91, .iload_n 3, 0, 0), (92, .iconst 1, 3, 0), (93, .iadd, 0, 0), (94, .istore_n 3, 0, 0), (95, .goto (-57), 38, 0), (98, .iload_n 3, 0, 0), (99, .iconst 5, 7, 0), (100, .if_icmp .le 13, 113, 0), (103, .aload_n 0, 0, 0), (104, .iconst 1, 3, 0), (105, .aload_n 0, 0, 0), (106, .getfield 92, 171, 0), (109, .invokevirtual 105, 243, 0), (112, .ireturn, 0, 0), (113, .aload_n 0, 0, 0), (114, .getfield 126, 172, 0), (117, .iload_n 1, 0, 0), (118, .iload_n 2, 0, 0), (119, .invokestatic 59, 233, 0), (122, .ifCond .ne 13, 135, 0), (125, .aload_n 0, 0, 0), (126, .iconst 2, 4, 0), (127, .aload_n 0, 0, 0), (128, .getfield 92, 171, 0), (131, .invokevirtual 105, 243, 0), (134, .ireturn, 0, 0), (135, .aload_n 0, 0, 0), (136, .aload_n 0, 0, 0), (137, .getfield 92, 171, 0), (140, .iload_n 3, 0, 0), (141, .iadd, 0, 0), (142, .putfield 86, 168, 0), (145, .aload_n 0, 0, 0), (146, .aload_n 0, 0, 0), (147, .getfield 86, 168, 0), (150, .putfield 102, 170, 0), (153, .iconst 1, 3, 0), (154, .ireturn, 0, 0)]
theorem tk_X9_readNumber : ∀ e ∈ tb_X9_readNumber, pm_ck 170 e = true := List.all_eq_true.mp (by decide +kernel)
set_option maxRecDepth 20000 in
set_option maxHeartbeats 40000000 in
theorem ll_X9_readNumber_38 (d : Nat) (hd : 3 ≤ d) (gx : List pm_E) (gs : List (List pm_E)) (q : Nat × Nat × Nat) (r : Int32) (s1 : mo_S) (P : Int32 × mo_S → Prop) (K0 : ∀ e : Int32 × mo_S, P (e) → e = (r, s1)) : ∀ (n : Nat) (s : mo_S) (l1 : Int32) (l2 : Int32) (l3 : Int32) (e : Int32 × mo_S), pm_loop n lb_X9_readNumber_38 (s, l1, l2, l3) = some e → P e → pm_Wg 170 d (.inl (some (.int r))) (mo_h gx s1 gs q) (38, [some (.ref 64), some (.int l1), some (.int l2), some (.int l3)], [], mo_h gx s gs q) := by
  intro n
  induction n with
  | zero => intro s l1 l2 l3 e H; cases H
  | succ n ih =>
    intro s l1 l2 l3 e H hPe
    obtain ⟨d, rfl⟩ : ∃ d', d = d' + 1 := ⟨d - 1, by omega⟩
    have H : pm_lst (pm_loop n lb_X9_readNumber_38) (lb_X9_readNumber_38 (s, l1, l2, l3)) = some e := H
    generalize pm_loop n lb_X9_readNumber_38 = LB at H ih
    unfold lb_X9_readNumber_38 at H
    try dsimp only at H
    cases q17 : f_X9_byteAt s ((s.1 12) + l3) with
    | none => rw [q17] at H; cases H
    | some r16 =>
     rw [q17] at H
     dsimp only at H
     refine pm_Wg.path (k := 5) (ds := []) (f' := (45, [some (.ref 64), some (.int l1), some (.int l2), some (.int l3)], [.int ((s.1 12) + l3), .ref 64], mo_h gx s gs q)) tk_X9_readNumber (by omega) rfl trivial ?_
     refine pm_Wg.callV (m' := 162) (ix := 89) (rr := 241) (pl := 1539) (b := 64) (As := [.int ((s.1 12) + l3)]) (S := []) (by decide) rfl (pm_dec tk_X9_readNumber rfl) rfl rfl (by decide) rfl rfl (by decide) (Nat.le_of_ble_eq_true rfl) rfl (e_X9_byteAt d (by omega) gx gs q _ _ _ q17) ?_
     cases q19 : f_X9_isDigit s r16 with
     | none => rw [q19] at H; cases H
     | some r18 =>
      rw [q19] at H
      dsimp only at H
      refine pm_Wg.callS (m' := 164) (ix := 123) (rr := 247) (pl := 1564) (As := [.int r16]) (S := []) (by decide) rfl (pm_dec tk_X9_readNumber rfl) rfl rfl rfl (Nat.le_of_ble_eq_true rfl) rfl (e_X9_isDigit d (by omega) gx gs q _ _ _ q19) ?_
      by_cases h20 : r18 = 0
      · rw [if_pos h20] at H
        by_cases h21 : l3 ≤ 5
        · rw [if_pos h21] at H
          cases q24 : f_X9_in s (s.1 13) l1 l2 with
          | none => rw [q24] at H; cases H
          | some r23 =>
           rw [q24] at H
           dsimp only at H
           refine pm_Wg.path (k := 8) (ds := [1, 1]) (f' := (119, [some (.ref 64), some (.int l1), some (.int l2), some (.int l3)], [.int l2, .int l1, .int (s.1 13)], mo_h gx s gs q)) tk_X9_readNumber (by omega) rfl ⟨h21, h20, trivial⟩ ?_
           refine pm_Wg.callS (m' := 147) (ix := 59) (rr := 233) (pl := 1507) (As := [.int (s.1 13), .int l1, .int l2]) (S := []) (by decide) rfl (pm_dec tk_X9_readNumber rfl) rfl rfl rfl (Nat.le_of_ble_eq_true rfl) rfl (e_X9_in d (by omega) gx gs q _ _ _ _ _ q24) ?_
           by_cases h25 : r23 = 0
           · rw [if_pos h25] at H
             cases q28 : f_X9_fails s 2 (s.1 12) with
             | none => rw [q28] at H; cases H
             | some w =>
              obtain ⟨r26, s27⟩ := w
              rw [q28] at H
              dsimp only at H
              refine pm_Wg.path (k := 5) (ds := [0]) (f' := (131, [some (.ref 64), some (.int l1), some (.int l2), some (.int l3)], [.int (s.1 12), .int 2, .ref 64], mo_h gx s gs q)) tk_X9_readNumber (by omega) rfl ⟨h25, trivial⟩ ?_
              refine pm_Wg.callV (m' := 166) (ix := 105) (rr := 243) (pl := 1546) (b := 64) (As := [.int 2, .int (s.1 12)]) (S := []) (by decide) rfl (pm_dec tk_X9_readNumber rfl) rfl rfl (by decide) rfl rfl (by decide) (Nat.le_of_ble_eq_true rfl) rfl (e_X9_fails d (by omega) gx gs q _ _ _ _ _ q28) ?_
              by_cases z29 : r26 &&& 1 = r26
              case neg => rw [if_neg z29] at H; cases H
              rw [if_pos z29] at H
              have He := Option.some.inj H
              subst He
              have H := K0 _ hPe
              injection H with H1 H2
              subst H1
              subst H2
              exact pm_Wg.iret (pm_dec tk_X9_readNumber rfl) rfl (pm_nb1 z29)
           · rw [if_neg h25] at H
             have He := Option.some.inj H
             subst He
             have H := K0 _ hPe
             injection H with H1 H2
             subst H1
             subst H2
             refine pm_Wg.path (k := 12) (ds := [1]) (f' := (154, [some (.ref 64), some (.int l1), some (.int l2), some (.int l3)], [.int 1], mo_h gx (mo_i (mo_i s 9 ((s.1 12) + l3)) 11 ((mo_i s 9 ((s.1 12) + l3)).1 9)) gs q)) tk_X9_readNumber (by omega) rfl ⟨h25, trivial⟩ ?_
             exact pm_Wg.iret (pm_dec tk_X9_readNumber rfl) rfl rfl
        · rw [if_neg h21] at H
          cases q32 : f_X9_fails s 1 (s.1 12) with
          | none => rw [q32] at H; cases H
          | some w =>
           obtain ⟨r30, s31⟩ := w
           rw [q32] at H
           dsimp only at H
           refine pm_Wg.path (k := 8) (ds := [1, 0]) (f' := (109, [some (.ref 64), some (.int l1), some (.int l2), some (.int l3)], [.int (s.1 12), .int 1, .ref 64], mo_h gx s gs q)) tk_X9_readNumber (by omega) rfl ⟨h21, h20, trivial⟩ ?_
           refine pm_Wg.callV (m' := 166) (ix := 105) (rr := 243) (pl := 1546) (b := 64) (As := [.int 1, .int (s.1 12)]) (S := []) (by decide) rfl (pm_dec tk_X9_readNumber rfl) rfl rfl (by decide) rfl rfl (by decide) (Nat.le_of_ble_eq_true rfl) rfl (e_X9_fails d (by omega) gx gs q _ _ _ _ _ q32) ?_
           by_cases z33 : r30 &&& 1 = r30
           case neg => rw [if_neg z33] at H; cases H
           rw [if_pos z33] at H
           have He := Option.some.inj H
           subst He
           have H := K0 _ hPe
           injection H with H1 H2
           subst H1
           subst H2
           exact pm_Wg.iret (pm_dec tk_X9_readNumber rfl) rfl (pm_nb1 z33)
      · rw [if_neg h20] at H
        by_cases h22 : 5 ≤ l3
        · rw [if_pos h22] at H
          refine pm_Wg.path (k := 13) (ds := [0, 1]) (f' := (38, [some (.ref 64), some (.int l1), some (.int l2), some (.int (l3 + 1))], [], mo_h gx (mo_i s 13 (s.1 13)) gs q)) tk_X9_readNumber (by omega) rfl ⟨h22, h20, trivial⟩ ?_
          exact ih _ _ _ _ e H hPe
        · rw [if_neg h22] at H
          refine pm_Wg.path (k := 14) (ds := [0, 0]) (f' := (74, [some (.ref 64), some (.int l1), some (.int l2), some (.int l3)], [.int ((s.1 12) + l3), .ref 64, .int (10 * (s.1 13)), .ref 64], mo_h gx s gs q)) tk_X9_readNumber (by omega) rfl ⟨h22, h20, trivial⟩ ?_
          refine pm_Wg.callV (m' := 162) (ix := 89) (rr := 241) (pl := 1539) (b := 64) (As := [.int ((s.1 12) + l3)]) (S := [.int (10 * (s.1 13)), .ref 64]) (by decide) rfl (pm_dec tk_X9_readNumber rfl) rfl rfl (by decide) rfl rfl (by decide) (Nat.le_of_ble_eq_true rfl) rfl (e_X9_byteAt d (by omega) gx gs q _ _ _ q17) ?_
          refine pm_Wg.path (k := 10) (ds := []) (f' := (38, [some (.ref 64), some (.int l1), some (.int l2), some (.int (l3 + 1))], [], mo_h gx (mo_i s 13 (((10 * (s.1 13)) + r16) - 48)) gs q)) tk_X9_readNumber (by omega) rfl trivial ?_
          exact ih _ _ _ _ e H hPe
set_option maxRecDepth 20000 in
set_option maxHeartbeats 20000000 in
theorem e_X9_readNumber (d : Nat) (hd : 3 ≤ d) (gx : List pm_E) (gs : List (List pm_E)) (q : Nat × Nat × Nat) (s : mo_S) (a0 : Int32) (a1 : Int32) (r : Int32) (s1 : mo_S) (H : f_X9_readNumber s a0 a1 = some (r, s1)) : pm_Mt 170 d [.ref 64, .int a0, .int a1] (mo_h gx s gs q) (.inl (some (.int r))) (mo_h gx s1 gs q) := by
  refine pm_Mt.of (by decide) (by decide +kernel) rfl rfl ?_
  obtain ⟨d, rfl⟩ : ∃ d', d = d' + 1 := ⟨d - 1, by omega⟩
  unfold f_X9_readNumber at H
  cases q3 : f_X9_peek s with
  | none => rw [q3] at H; cases H
  | some w =>
   obtain ⟨r1, s2⟩ := w
   rw [q3] at H
   dsimp only at H
   refine pm_Wg.path (k := 1) (ds := []) (f' := (1, [some (.ref 64), some (.int a0), some (.int a1), none], [.ref 64], mo_h gx s gs q)) tk_X9_readNumber (by omega) rfl trivial ?_
   refine pm_Wg.callV (m' := 165) (ix := 95) (rr := 240) (pl := 1535) (b := 64) (As := []) (S := []) (by decide) rfl (pm_dec tk_X9_readNumber rfl) rfl rfl (by decide) rfl rfl (by decide) (Nat.le_of_ble_eq_true rfl) rfl (e_X9_peek d (by omega) gx gs q _ _ _ q3) ?_
   cases q5 : f_X9_isDigit s2 r1 with
   | none => rw [q5] at H; cases H
   | some r4 =>
    rw [q5] at H
    dsimp only at H
    refine pm_Wg.callS (m' := 164) (ix := 123) (rr := 247) (pl := 1564) (As := [.int r1]) (S := []) (by decide) rfl (pm_dec tk_X9_readNumber rfl) rfl rfl rfl (Nat.le_of_ble_eq_true rfl) rfl (e_X9_isDigit d (by omega) gx gs q _ _ _ q5) ?_
    by_cases h6 : r4 = 0
    · rw [if_pos h6] at H
      cases q10 : f_X9_fails s2 1 (s2.1 12) with
      | none => rw [q10] at H; cases H
      | some w =>
       obtain ⟨r8, s9⟩ := w
       rw [q10] at H
       dsimp only at H
       refine pm_Wg.path (k := 5) (ds := [1]) (f' := (27, [some (.ref 64), some (.int a0), some (.int a1), none], [.int (s2.1 12), .int 1, .ref 64], mo_h gx s2 gs q)) tk_X9_readNumber (by omega) rfl ⟨h6, trivial⟩ ?_
       refine pm_Wg.callV (m' := 166) (ix := 105) (rr := 243) (pl := 1546) (b := 64) (As := [.int 1, .int (s2.1 12)]) (S := []) (by decide) rfl (pm_dec tk_X9_readNumber rfl) rfl rfl (by decide) rfl rfl (by decide) (Nat.le_of_ble_eq_true rfl) rfl (e_X9_fails d (by omega) gx gs q _ _ _ _ _ q10) ?_
       by_cases z11 : r8 &&& 1 = r8
       case neg => rw [if_neg z11] at H; cases H
       rw [if_pos z11] at H
       injection H with H
       injection H with H1 H2
       subst H1
       subst H2
       exact pm_Wg.iret (pm_dec tk_X9_readNumber rfl) rfl (pm_nb1 z11)
    · rw [if_neg h6] at H
      by_cases h7 : (s2.1 12) = (s2.1 11)
      · rw [if_pos h7] at H
        cases q14 : f_X9_fails s2 1 (s2.1 12) with
        | none => rw [q14] at H; cases H
        | some w =>
         obtain ⟨r12, s13⟩ := w
         rw [q14] at H
         dsimp only at H
         refine pm_Wg.path (k := 10) (ds := [0, 0]) (f' := (27, [some (.ref 64), some (.int a0), some (.int a1), none], [.int (s2.1 12), .int 1, .ref 64], mo_h gx s2 gs q)) tk_X9_readNumber (by omega) rfl ⟨h7, h6, trivial⟩ ?_
         refine pm_Wg.callV (m' := 166) (ix := 105) (rr := 243) (pl := 1546) (b := 64) (As := [.int 1, .int (s2.1 12)]) (S := []) (by decide) rfl (pm_dec tk_X9_readNumber rfl) rfl rfl (by decide) rfl rfl (by decide) (Nat.le_of_ble_eq_true rfl) rfl (e_X9_fails d (by omega) gx gs q _ _ _ _ _ q14) ?_
         by_cases z15 : r12 &&& 1 = r12
         case neg => rw [if_neg z15] at H; cases H
         rw [if_pos z15] at H
         injection H with H
         injection H with H1 H2
         subst H1
         subst H2
         exact pm_Wg.iret (pm_dec tk_X9_readNumber rfl) rfl (pm_nb1 z15)
      · rw [if_neg h7] at H
        refine pm_Wg.path (k := 11) (ds := [0, 1]) (f' := (38, [some (.ref 64), some (.int a0), some (.int a1), some (.int 0)], [], mo_h gx (mo_i s2 13 0) gs q)) tk_X9_readNumber (by omega) rfl ⟨h7, h6, trivial⟩ ?_
        exact ll_X9_readNumber_38 (d + 1) (by omega) gx gs q r s1 (fun e => e = (r, s1)) (fun e he => he) pm_fu _ _ _ _ _ H rfl

def f_X9_readTo (s : mo_S) (a0 : Int32) (a1 : Int32) (a2 : Int32) : Option (Int32 × mo_S) :=
  (match f_X9_readNumber s a1 a2 with
  | none => none
  | some (r1, s2) =>
   (if r1 = 0 then
    some (0, s2)
   else
    (match pm_inb a0 26 with
    | false => none
    | true =>
    some (1, (mo_a s2 1 a0 (s2.1 13))))))
def tb_X9_readTo : List pm_I := [(0, .aload_n 0, 0, 0), (1, .iload_n 2, 0, 0), (2, .iload_n 3, 0, 0), (3, .invokevirtual 129, 246, 0), (6, .ifCond .ne 5, 11, 0), (9, .iconst 0, 2, 0), (10, .ireturn, 0, 0), (11, .aload_n 0, 0, 0), (12, .getfield 13, 160, 0), (15, .iload_n 1, 0, 0), (16, .aload_n 0, 0, 0), (17, .getfield 126, 172, 0), (20, .iastore, 0, 0), (21, .iconst 1, 3, 0), (22, .ireturn, 0, 0)]
theorem tk_X9_readTo : ∀ e ∈ tb_X9_readTo, pm_ck 171 e = true := List.all_eq_true.mp (by decide +kernel)
set_option maxRecDepth 20000 in
set_option maxHeartbeats 20000000 in
theorem e_X9_readTo (d : Nat) (hd : 4 ≤ d) (gx : List pm_E) (gs : List (List pm_E)) (q : Nat × Nat × Nat) (s : mo_S) (a0 : Int32) (a1 : Int32) (a2 : Int32) (r : Int32) (s1 : mo_S) (H : f_X9_readTo s a0 a1 a2 = some (r, s1)) : pm_Mt 171 d [.ref 64, .int a0, .int a1, .int a2] (mo_h gx s gs q) (.inl (some (.int r))) (mo_h gx s1 gs q) := by
  refine pm_Mt.of (by decide) (by decide +kernel) rfl rfl ?_
  obtain ⟨d, rfl⟩ : ∃ d', d = d' + 1 := ⟨d - 1, by omega⟩
  unfold f_X9_readTo at H
  cases q3 : f_X9_readNumber s a1 a2 with
  | none => rw [q3] at H; cases H
  | some w =>
   obtain ⟨r1, s2⟩ := w
   rw [q3] at H
   dsimp only at H
   refine pm_Wg.path (k := 3) (ds := []) (f' := (3, [some (.ref 64), some (.int a0), some (.int a1), some (.int a2)], [.int a2, .int a1, .ref 64], mo_h gx s gs q)) tk_X9_readTo (by omega) rfl trivial ?_
   refine pm_Wg.callV (m' := 170) (ix := 129) (rr := 246) (pl := 1560) (b := 64) (As := [.int a1, .int a2]) (S := []) (by decide) rfl (pm_dec tk_X9_readTo rfl) rfl rfl (by decide) rfl rfl (by decide) (Nat.le_of_ble_eq_true rfl) rfl (e_X9_readNumber d (by omega) gx gs q _ _ _ _ _ q3) ?_
   by_cases h4 : r1 = 0
   · rw [if_pos h4] at H
     injection H with H
     injection H with H1 H2
     subst H1
     subst H2
     refine pm_Wg.path (k := 2) (ds := [0]) (f' := (10, [some (.ref 64), some (.int a0), some (.int a1), some (.int a2)], [.int 0], mo_h gx s2 gs q)) tk_X9_readTo (by omega) rfl ⟨h4, trivial⟩ ?_
     exact pm_Wg.iret (pm_dec tk_X9_readTo rfl) rfl rfl
   · rw [if_neg h4] at H
     cases b5 : pm_inb a0 26 with
     | false => rw [b5] at H; cases H
     | true =>
      rw [b5] at H
      dsimp only at H
      injection H with H
      injection H with H1 H2
      subst H1
      subst H2
      refine pm_Wg.path (k := 8) (ds := [1]) (f' := (22, [some (.ref 64), some (.int a0), some (.int a1), some (.int a2)], [.int 1], mo_h gx (mo_a s2 1 a0 (s2.1 13)) gs q)) tk_X9_readTo (by omega) rfl ⟨pm_inb_vp b5, h4, trivial⟩ ?_
      exact pm_Wg.iret (pm_dec tk_X9_readTo rfl) rfl rfl

def f_X9_readSetting (s : mo_S) (a0 : Int64) (a1 : Int32) (a2 : Int32) (a3 : Int32) : Option (Int32 × mo_S) :=
  (match f_X9_takesWord s a0 with
  | none => none
  | some (r1, s2) =>
   (if r1 = 0 then
    some (0, s2)
   else
    (match f_X9_readTo s2 a1 a2 a3 with
    | none => none
    | some (r5, s6) =>
     (if r5 = 0 then
      some (0, s6)
     else
      some (1, s6)))))
def tb_X9_readSetting : List pm_I := [(0, .aload_n 0, 0, 0), (1, .lload_n 1, 0, 0), (2, .invokevirtual 132, 238, 0), (5, .ifCond .eq 19, 24, 0), (8, .aload_n 0, 0, 0), (9, .iload_n 3, 0, 0), (10, .iload 4, 0, 0), (12, .iload 5, 0, 0), (14, .invokevirtual 136, 245, 0), (17, .ifCond .eq 7, 24, 0), (20, .iconst 1, 3, 0), (21, .goto 4, 25, 0), (24, .iconst 0, 2, 0), (25, .ireturn, 0, 0)]
theorem tk_X9_readSetting : ∀ e ∈ tb_X9_readSetting, pm_ck 172 e = true := List.all_eq_true.mp (by decide +kernel)
set_option maxRecDepth 20000 in
set_option maxHeartbeats 20000000 in
theorem e_X9_readSetting (d : Nat) (hd : 5 ≤ d) (gx : List pm_E) (gs : List (List pm_E)) (q : Nat × Nat × Nat) (s : mo_S) (a0 : Int64) (a1 : Int32) (a2 : Int32) (a3 : Int32) (r : Int32) (s1 : mo_S) (H : f_X9_readSetting s a0 a1 a2 a3 = some (r, s1)) : pm_Mt 172 d [.ref 64, .long a0, .int a1, .int a2, .int a3] (mo_h gx s gs q) (.inl (some (.int r))) (mo_h gx s1 gs q) := by
  refine pm_Mt.of (by decide) (by decide +kernel) rfl rfl ?_
  obtain ⟨d, rfl⟩ : ∃ d', d = d' + 1 := ⟨d - 1, by omega⟩
  unfold f_X9_readSetting at H
  cases q3 : f_X9_takesWord s a0 with
  | none => rw [q3] at H; cases H
  | some w =>
   obtain ⟨r1, s2⟩ := w
   rw [q3] at H
   dsimp only at H
   refine pm_Wg.path (k := 2) (ds := []) (f' := (2, [some (.ref 64), some (.long a0), none, some (.int a1), some (.int a2), some (.int a3)], [.long a0, .ref 64], mo_h gx s gs q)) tk_X9_readSetting (by omega) rfl trivial ?_
   refine pm_Wg.callV (m' := 169) (ix := 132) (rr := 238) (pl := 1527) (b := 64) (As := [.long a0]) (S := []) (by decide) rfl (pm_dec tk_X9_readSetting rfl) rfl rfl (by decide) rfl rfl (by decide) (Nat.le_of_ble_eq_true rfl) rfl (e_X9_takesWord d (by omega) gx gs q _ _ _ _ q3) ?_
   by_cases h4 : r1 = 0
   · rw [if_pos h4] at H
     injection H with H
     injection H with H1 H2
     subst H1
     subst H2
     refine pm_Wg.path (k := 2) (ds := [1]) (f' := (25, [some (.ref 64), some (.long a0), none, some (.int a1), some (.int a2), some (.int a3)], [.int 0], mo_h gx s2 gs q)) tk_X9_readSetting (by omega) rfl ⟨h4, trivial⟩ ?_
     exact pm_Wg.iret (pm_dec tk_X9_readSetting rfl) rfl rfl
   · rw [if_neg h4] at H
     cases q7 : f_X9_readTo s2 a1 a2 a3 with
     | none => rw [q7] at H; cases H
     | some w =>
      obtain ⟨r5, s6⟩ := w
      rw [q7] at H
      dsimp only at H
      refine pm_Wg.path (k := 5) (ds := [0]) (f' := (14, [some (.ref 64), some (.long a0), none, some (.int a1), some (.int a2), some (.int a3)], [.int a3, .int a2, .int a1, .ref 64], mo_h gx s2 gs q)) tk_X9_readSetting (by omega) rfl ⟨h4, trivial⟩ ?_
      refine pm_Wg.callV (m' := 171) (ix := 136) (rr := 245) (pl := 1556) (b := 64) (As := [.int a1, .int a2, .int a3]) (S := []) (by decide) rfl (pm_dec tk_X9_readSetting rfl) rfl rfl (by decide) rfl rfl (by decide) (Nat.le_of_ble_eq_true rfl) rfl (e_X9_readTo d (by omega) gx gs q _ _ _ _ _ _ q7) ?_
      by_cases h8 : r5 = 0
      · rw [if_pos h8] at H
        injection H with H
        injection H with H1 H2
        subst H1
        subst H2
        refine pm_Wg.path (k := 2) (ds := [1]) (f' := (25, [some (.ref 64), some (.long a0), none, some (.int a1), some (.int a2), some (.int a3)], [.int 0], mo_h gx s6 gs q)) tk_X9_readSetting (by omega) rfl ⟨h8, trivial⟩ ?_
        exact pm_Wg.iret (pm_dec tk_X9_readSetting rfl) rfl rfl
      · rw [if_neg h8] at H
        injection H with H
        injection H with H1 H2
        subst H1
        subst H2
        refine pm_Wg.path (k := 3) (ds := [0]) (f' := (25, [some (.ref 64), some (.long a0), none, some (.int a1), some (.int a2), some (.int a3)], [.int 1], mo_h gx s6 gs q)) tk_X9_readSetting (by omega) rfl ⟨h8, trivial⟩ ?_
        exact pm_Wg.iret (pm_dec tk_X9_readSetting rfl) rfl rfl

def fc_X9_readSemicolon_c1 (s : mo_S) (k0 : Int32) : Option (Int32 × mo_S) :=
  some (1, (mo_i s 11 k0))
def f_X9_readSemicolon (s : mo_S) : Option (Int32 × mo_S) :=
  (match f_X9_peek s with
  | none => none
  | some (r1, s2) =>
   (if r1 = 59 then
    (fc_X9_readSemicolon_c1 (mo_i s2 9 ((s2.1 12) + 1)) (-1))
   else
    (match f_X9_fails s2 1 (s2.1 12) with
    | none => none
    | some (r5, s6) =>
     (if r5 &&& 1 = r5 then some (r5, s6) else none))))
def tb_X9_readSemicolon : List pm_I := [(0, .aload_n 0, 0, 0), (1, .invokevirtual 95, 240, 0), (4, .bipush 59, 24, 0), (6, .if_icmp .eq 13, 19, 0), (9, .aload_n 0, 0, 0), (10, .iconst 1, 3, 0), (11, .aload_n 0, 0, 0), (12, .getfield 92, 171, 0), (15, .invokevirtual 105, 243, 0), (18, .ireturn, 0, 0), (19, .aload_n 0, 0, 0), (20, .aload_n 0, 0, 0), (21, .getfield 92, 171, 0), (24, .iconst 1, 3, 0), (25, .iadd, 0, 0), (26, .putfield 86, 168, 0), (29, .aload_n 0, 0, 0), (30, .iconst (-1), 1, 0), (31, .putfield 102, 170, 0), (34, .iconst 1, 3, 0), (35, .ireturn, 0, 0)]
theorem tk_X9_readSemicolon : ∀ e ∈ tb_X9_readSemicolon, pm_ck 173 e = true := List.all_eq_true.mp (by decide +kernel)
set_option maxRecDepth 20000 in
set_option maxHeartbeats 20000000 in
theorem ec_X9_readSemicolon_c1 (d : Nat) (hd : 3 ≤ d) (gx : List pm_E) (gs : List (List pm_E)) (q : Nat × Nat × Nat) (s : mo_S) (k0 : Int32) (r : Int32) (s1 : mo_S) (H : fc_X9_readSemicolon_c1 s k0 = some (r, s1)) : pm_Wg 173 d (.inl (some (.int r))) (mo_h gx s1 gs q) (31, [some (.ref 64)], [.int k0, .ref 64], mo_h gx s gs q) := by
  obtain ⟨d, rfl⟩ : ∃ d', d = d' + 1 := ⟨d - 1, by omega⟩
  unfold fc_X9_readSemicolon_c1 at H
  try dsimp only at H
  injection H with H
  injection H with H1 H2
  subst H1
  subst H2
  refine pm_Wg.path (k := 2) (ds := []) (f' := (35, [some (.ref 64)], [.int 1], mo_h gx (mo_i s 11 k0) gs q)) tk_X9_readSemicolon (by omega) rfl trivial ?_
  exact pm_Wg.iret (pm_dec tk_X9_readSemicolon rfl) rfl rfl
set_option maxRecDepth 20000 in
set_option maxHeartbeats 20000000 in
theorem e_X9_readSemicolon (d : Nat) (hd : 3 ≤ d) (gx : List pm_E) (gs : List (List pm_E)) (q : Nat × Nat × Nat) (s : mo_S) (r : Int32) (s1 : mo_S) (H : f_X9_readSemicolon s = some (r, s1)) : pm_Mt 173 d [.ref 64] (mo_h gx s gs q) (.inl (some (.int r))) (mo_h gx s1 gs q) := by
  refine pm_Mt.of (by decide) (by decide +kernel) rfl rfl ?_
  obtain ⟨d, rfl⟩ : ∃ d', d = d' + 1 := ⟨d - 1, by omega⟩
  unfold f_X9_readSemicolon at H
  cases q3 : f_X9_peek s with
  | none => rw [q3] at H; cases H
  | some w =>
   obtain ⟨r1, s2⟩ := w
   rw [q3] at H
   dsimp only at H
   refine pm_Wg.path (k := 1) (ds := []) (f' := (1, [some (.ref 64)], [.ref 64], mo_h gx s gs q)) tk_X9_readSemicolon (by omega) rfl trivial ?_
   refine pm_Wg.callV (m' := 165) (ix := 95) (rr := 240) (pl := 1535) (b := 64) (As := []) (S := []) (by decide) rfl (pm_dec tk_X9_readSemicolon rfl) rfl rfl (by decide) rfl rfl (by decide) (Nat.le_of_ble_eq_true rfl) rfl (e_X9_peek d (by omega) gx gs q _ _ _ q3) ?_
   by_cases h4 : r1 = 59
   · rw [if_pos h4] at H
     refine pm_Wg.path (k := 10) (ds := [1]) (f' := (31, [some (.ref 64)], [.int (-1), .ref 64], mo_h gx (mo_i s2 9 ((s2.1 12) + 1)) gs q)) tk_X9_readSemicolon (by omega) rfl ⟨h4, trivial⟩ ?_
     exact ec_X9_readSemicolon_c1 (d + 1) (by omega) gx gs q _ _ _ _ H
   · rw [if_neg h4] at H
     cases q7 : f_X9_fails s2 1 (s2.1 12) with
     | none => rw [q7] at H; cases H
     | some w =>
      obtain ⟨r5, s6⟩ := w
      rw [q7] at H
      dsimp only at H
      refine pm_Wg.path (k := 6) (ds := [0]) (f' := (15, [some (.ref 64)], [.int (s2.1 12), .int 1, .ref 64], mo_h gx s2 gs q)) tk_X9_readSemicolon (by omega) rfl ⟨h4, trivial⟩ ?_
      refine pm_Wg.callV (m' := 166) (ix := 105) (rr := 243) (pl := 1546) (b := 64) (As := [.int 1, .int (s2.1 12)]) (S := []) (by decide) rfl (pm_dec tk_X9_readSemicolon rfl) rfl rfl (by decide) rfl rfl (by decide) (Nat.le_of_ble_eq_true rfl) rfl (e_X9_fails d (by omega) gx gs q _ _ _ _ _ q7) ?_
      by_cases z8 : r5 &&& 1 = r5
      case neg => rw [if_neg z8] at H; cases H
      rw [if_pos z8] at H
      injection H with H
      injection H with H1 H2
      subst H1
      subst H2
      exact pm_Wg.iret (pm_dec tk_X9_readSemicolon rfl) rfl (pm_nb1 z8)

def f_X9_readShare (s : mo_S) (a0 : Int32) : Option (Int32 × mo_S) :=
  (match f_X9_readTo s ((8 + (3 * a0)) + 0) 0 1000 with
  | none => none
  | some (r1, s2) =>
   (if r1 = 0 then
    some (0, s2)
   else
    (match f_X9_readTo s2 ((8 + (3 * a0)) + 1) 1 100 with
    | none => none
    | some (r5, s6) =>
     (if r5 = 0 then
      some (0, s6)
     else
      (match f_X9_readTo s6 ((8 + (3 * a0)) + 2) 0 1000 with
      | none => none
      | some (r9, s10) =>
       (if r9 = 0 then
        some (0, s10)
       else
        (match pm_inb ((8 + (3 * a0)) + 0) 26 with
        | false => none
        | true =>
        (match f_X9_isLimit s10 (s10.1 13) (s10.2.2.1 1 (Int32.toNatClampNeg ((8 + (3 * a0)) + 0))) with
        | none => none
        | some r14 =>
         (if r14 = 0 then
          (match f_X9_fails s10 2 (s10.1 12) with
          | none => none
          | some (r17, s18) =>
           (if r17 = 0 then
            some (0, s18)
           else
            some (1, s18)))
         else
          some (1, s10))))))))))
def tb_X9_readShare : List pm_I := [(0, .bipush 8, 10, 0), (2, .iconst 3, 5, 0), (3, .iload_n 1, 0, 0), (4, .imul, 0, 0), (5, .iadd, 0, 0), (6, .istore_n 2, 0, 0), (7, .aload_n 0, 0, 0), (8, .iload_n 2, 0, 0), (9, .iconst 0, 2, 0), (10, .iadd, 0, 0), (11, .iconst 0, 2, 0), (12, .sipush 1000, 39, 0), (15, .invokevirtual 136, 245, 0), (18, .ifCond .eq 30, 48, 0), (21, .aload_n 0, 0, 0), (22, .iload_n 2, 0, 0), (23, .iconst 1, 3, 0), (24, .iadd, 0, 0), (25, .iconst 1, 3, 0), (26, .bipush 100, 29, 0), (28, .invokevirtual 136, 245, 0), (31, .ifCond .eq 17, 48, 0), (34, .aload_n 0, 0, 0), (35, .iload_n 2, 0, 0), (36, .iconst 2, 4, 0), (37, .iadd, 0, 0), (38, .iconst 0, 2, 0), (39, .sipush 1000, 39, 0), (42, .invokevirtual 136, 245, 0), (45, .ifCond .ne 5, 50, 0), (48, .iconst 0, 2, 0), (49, .ireturn, 0, 0), (50, .aload_n 0, 0, 0), (51, .getfield 126, 172, 0), (54, .aload_n 0, 0, 0), (55, .getfield 13, 160, 0), (58, .iload_n 2, 0, 0), (59, .iconst 0, 2, 0), (60, .iadd, 0, 0), (61, .iaload, 0, 0), (62, .invokestatic 139, 251, 0), (65, .ifCond .ne 15, 80, 0), (68, .aload_n 0, 0, 0), (69, .iconst 2, 4, 0), (70, .aload_n 0, 0, 0), (71, .getfield 92, 171, 0), (74, .invokevirtual 105, 243, 0), (77, .ifCond .eq 7, 84, 0), (80, .iconst 1, 3, 0), (81, .goto 4, 85, 0), (84, .iconst 0, 2, 0), (85, .ireturn, 0, 0)]
theorem tk_X9_readShare : ∀ e ∈ tb_X9_readShare, pm_ck 175 e = true := List.all_eq_true.mp (by decide +kernel)
set_option maxRecDepth 20000 in
set_option maxHeartbeats 20000000 in
theorem e_X9_readShare (d : Nat) (hd : 5 ≤ d) (gx : List pm_E) (gs : List (List pm_E)) (q : Nat × Nat × Nat) (s : mo_S) (a0 : Int32) (r : Int32) (s1 : mo_S) (H : f_X9_readShare s a0 = some (r, s1)) : pm_Mt 175 d [.ref 64, .int a0] (mo_h gx s gs q) (.inl (some (.int r))) (mo_h gx s1 gs q) := by
  refine pm_Mt.of (by decide) (by decide +kernel) rfl rfl ?_
  obtain ⟨d, rfl⟩ : ∃ d', d = d' + 1 := ⟨d - 1, by omega⟩
  unfold f_X9_readShare at H
  cases q3 : f_X9_readTo s ((8 + (3 * a0)) + 0) 0 1000 with
  | none => rw [q3] at H; cases H
  | some w =>
   obtain ⟨r1, s2⟩ := w
   rw [q3] at H
   dsimp only at H
   refine pm_Wg.path (k := 12) (ds := []) (f' := (15, [some (.ref 64), some (.int a0), some (.int (8 + (3 * a0)))], [.int 1000, .int 0, .int ((8 + (3 * a0)) + 0), .ref 64], mo_h gx s gs q)) tk_X9_readShare (by omega) rfl trivial ?_
   refine pm_Wg.callV (m' := 171) (ix := 136) (rr := 245) (pl := 1556) (b := 64) (As := [.int ((8 + (3 * a0)) + 0), .int 0, .int 1000]) (S := []) (by decide) rfl (pm_dec tk_X9_readShare rfl) rfl rfl (by decide) rfl rfl (by decide) (Nat.le_of_ble_eq_true rfl) rfl (e_X9_readTo d (by omega) gx gs q _ _ _ _ _ _ q3) ?_
   by_cases h4 : r1 = 0
   · rw [if_pos h4] at H
     injection H with H
     injection H with H1 H2
     subst H1
     subst H2
     refine pm_Wg.path (k := 2) (ds := [1]) (f' := (49, [some (.ref 64), some (.int a0), some (.int (8 + (3 * a0)))], [.int 0], mo_h gx s2 gs q)) tk_X9_readShare (by omega) rfl ⟨h4, trivial⟩ ?_
     exact pm_Wg.iret (pm_dec tk_X9_readShare rfl) rfl rfl
   · rw [if_neg h4] at H
     cases q7 : f_X9_readTo s2 ((8 + (3 * a0)) + 1) 1 100 with
     | none => rw [q7] at H; cases H
     | some w =>
      obtain ⟨r5, s6⟩ := w
      rw [q7] at H
      dsimp only at H
      refine pm_Wg.path (k := 7) (ds := [0]) (f' := (28, [some (.ref 64), some (.int a0), some (.int (8 + (3 * a0)))], [.int 100, .int 1, .int ((8 + (3 * a0)) + 1), .ref 64], mo_h gx s2 gs q)) tk_X9_readShare (by omega) rfl ⟨h4, trivial⟩ ?_
      refine pm_Wg.callV (m' := 171) (ix := 136) (rr := 245) (pl := 1556) (b := 64) (As := [.int ((8 + (3 * a0)) + 1), .int 1, .int 100]) (S := []) (by decide) rfl (pm_dec tk_X9_readShare rfl) rfl rfl (by decide) rfl rfl (by decide) (Nat.le_of_ble_eq_true rfl) rfl (e_X9_readTo d (by omega) gx gs q _ _ _ _ _ _ q7) ?_
      by_cases h8 : r5 = 0
      · rw [if_pos h8] at H
        injection H with H
        injection H with H1 H2
        subst H1
        subst H2
        refine pm_Wg.path (k := 2) (ds := [1]) (f' := (49, [some (.ref 64), some (.int a0), some (.int (8 + (3 * a0)))], [.int 0], mo_h gx s6 gs q)) tk_X9_readShare (by omega) rfl ⟨h8, trivial⟩ ?_
        exact pm_Wg.iret (pm_dec tk_X9_readShare rfl) rfl rfl
      · rw [if_neg h8] at H
        cases q11 : f_X9_readTo s6 ((8 + (3 * a0)) + 2) 0 1000 with
        | none => rw [q11] at H; cases H
        | some w =>
         obtain ⟨r9, s10⟩ := w
         rw [q11] at H
         dsimp only at H
         refine pm_Wg.path (k := 7) (ds := [0]) (f' := (42, [some (.ref 64), some (.int a0), some (.int (8 + (3 * a0)))], [.int 1000, .int 0, .int ((8 + (3 * a0)) + 2), .ref 64], mo_h gx s6 gs q)) tk_X9_readShare (by omega) rfl ⟨h8, trivial⟩ ?_
         refine pm_Wg.callV (m' := 171) (ix := 136) (rr := 245) (pl := 1556) (b := 64) (As := [.int ((8 + (3 * a0)) + 2), .int 0, .int 1000]) (S := []) (by decide) rfl (pm_dec tk_X9_readShare rfl) rfl rfl (by decide) rfl rfl (by decide) (Nat.le_of_ble_eq_true rfl) rfl (e_X9_readTo d (by omega) gx gs q _ _ _ _ _ _ q11) ?_
         by_cases h12 : r9 = 0
         · rw [if_pos h12] at H
           injection H with H
           injection H with H1 H2
           subst H1
           subst H2
           refine pm_Wg.path (k := 2) (ds := [0]) (f' := (49, [some (.ref 64), some (.int a0), some (.int (8 + (3 * a0)))], [.int 0], mo_h gx s10 gs q)) tk_X9_readShare (by omega) rfl ⟨h12, trivial⟩ ?_
           exact pm_Wg.iret (pm_dec tk_X9_readShare rfl) rfl rfl
         · rw [if_neg h12] at H
           cases b13 : pm_inb ((8 + (3 * a0)) + 0) 26 with
           | false => rw [b13] at H; cases H
           | true =>
            rw [b13] at H
            dsimp only at H
            cases q15 : f_X9_isLimit s10 (s10.1 13) (s10.2.2.1 1 (Int32.toNatClampNeg ((8 + (3 * a0)) + 0))) with
            | none => rw [q15] at H; cases H
            | some r14 =>
             rw [q15] at H
             dsimp only at H
             refine pm_Wg.path (k := 9) (ds := [1]) (f' := (62, [some (.ref 64), some (.int a0), some (.int (8 + (3 * a0)))], [.int (s10.2.2.1 1 (Int32.toNatClampNeg ((8 + (3 * a0)) + 0))), .int (s10.1 13)], mo_h gx s10 gs q)) tk_X9_readShare (by omega) rfl ⟨pm_inb_vp b13, h12, trivial⟩ ?_
             refine pm_Wg.callS (m' := 174) (ix := 139) (rr := 251) (pl := 1583) (As := [.int (s10.1 13), .int (s10.2.2.1 1 (Int32.toNatClampNeg ((8 + (3 * a0)) + 0)))]) (S := []) (by decide) rfl (pm_dec tk_X9_readShare rfl) rfl rfl rfl (Nat.le_of_ble_eq_true rfl) rfl (e_X9_isLimit d (by omega) gx gs q _ _ _ _ q15) ?_
             by_cases h16 : r14 = 0
             · rw [if_pos h16] at H
               cases q19 : f_X9_fails s10 2 (s10.1 12) with
               | none => rw [q19] at H; cases H
               | some w =>
                obtain ⟨r17, s18⟩ := w
                rw [q19] at H
                dsimp only at H
                refine pm_Wg.path (k := 5) (ds := [0]) (f' := (74, [some (.ref 64), some (.int a0), some (.int (8 + (3 * a0)))], [.int (s10.1 12), .int 2, .ref 64], mo_h gx s10 gs q)) tk_X9_readShare (by omega) rfl ⟨h16, trivial⟩ ?_
                refine pm_Wg.callV (m' := 166) (ix := 105) (rr := 243) (pl := 1546) (b := 64) (As := [.int 2, .int (s10.1 12)]) (S := []) (by decide) rfl (pm_dec tk_X9_readShare rfl) rfl rfl (by decide) rfl rfl (by decide) (Nat.le_of_ble_eq_true rfl) rfl (e_X9_fails d (by omega) gx gs q _ _ _ _ _ q19) ?_
                by_cases h20 : r17 = 0
                · rw [if_pos h20] at H
                  injection H with H
                  injection H with H1 H2
                  subst H1
                  subst H2
                  refine pm_Wg.path (k := 2) (ds := [1]) (f' := (85, [some (.ref 64), some (.int a0), some (.int (8 + (3 * a0)))], [.int 0], mo_h gx s18 gs q)) tk_X9_readShare (by omega) rfl ⟨h20, trivial⟩ ?_
                  exact pm_Wg.iret (pm_dec tk_X9_readShare rfl) rfl rfl
                · rw [if_neg h20] at H
                  injection H with H
                  injection H with H1 H2
                  subst H1
                  subst H2
                  refine pm_Wg.path (k := 3) (ds := [0]) (f' := (85, [some (.ref 64), some (.int a0), some (.int (8 + (3 * a0)))], [.int 1], mo_h gx s18 gs q)) tk_X9_readShare (by omega) rfl ⟨h20, trivial⟩ ?_
                  exact pm_Wg.iret (pm_dec tk_X9_readShare rfl) rfl rfl
             · rw [if_neg h16] at H
               injection H with H
               injection H with H1 H2
               subst H1
               subst H2
               refine pm_Wg.path (k := 3) (ds := [1]) (f' := (85, [some (.ref 64), some (.int a0), some (.int (8 + (3 * a0)))], [.int 1], mo_h gx s10 gs q)) tk_X9_readShare (by omega) rfl ⟨h16, trivial⟩ ?_
               exact pm_Wg.iret (pm_dec tk_X9_readShare rfl) rfl rfl

def f_X9_readDisks (s : mo_S) : Option (Int32 × mo_S) :=
  (match f_X9_readSetting s 4509043 0 3 6 with
  | none => none
  | some (r1, s2) =>
   (if r1 = 0 then
    some (0, s2)
   else
    (match f_X9_readSetting s2 21091369139 1 1 64 with
    | none => none
    | some (r5, s6) =>
     (if r5 = 0 then
      some (0, s6)
     else
      (match f_X9_readSetting s6 67173 2 1 50 with
      | none => none
      | some (r9, s10) =>
       (if r9 = 0 then
        some (0, s10)
       else
        (match f_X9_readSetting s10 627883 3 0 99 with
        | none => none
        | some (r13, s14) =>
         (if r13 = 0 then
          some (0, s14)
         else
          (match f_X9_readSemicolon s14 with
          | none => none
          | some (r17, s18) =>
           (if r17 = 0 then
            some (0, s18)
           else
            some (1, s18)))))))))))
def tb_X9_readDisks : List pm_I := [(0, .aload_n 0, 0, 0), (1, .ldc2_w 142, 5, 0), (4, .iconst 0, 2, 0), (5, .iconst 3, 5, 0), (6, .bipush 6, 8, 0), (8, .invokevirtual 144, 237, 0), (11, .ifCond .eq 56, 67, 0), (14, .aload_n 0, 0, 0), (15, .ldc2_w 148, 8, 0), (18, .iconst 1, 3, 0), (19, .iconst 1, 3, 0), (20, .bipush 64, 26, 0), (22, .invokevirtual 144, 237, 0), (25, .ifCond .eq 42, 67, 0), (28, .aload_n 0, 0, 0), (29, .ldc2_w 150, 9, 0), (32, .iconst 2, 4, 0), (33, .iconst 1, 3, 0), (34, .bipush 50, 22, 0), (36, .invokevirtual 144, 237, 0), (39, .ifCond .eq 28, 67, 0), (42, .aload_n 0, 0, 0), (43, .ldc2_w 152, 10, 0), (46, .iconst 3, 5, 0), (47, .iconst 0, 2, 0), (48, .bipush 99, 28, 0), (50, .invokevirtual 144, 237, 0), (53, .ifCond .eq 14, 67, 0), (56, .aload_n 0, 0, 0), (57, .invokevirtual 154, 248, 0), (60, .ifCond .eq 7, 67, 0), (63, .iconst 1, 3, 0), (64, .goto 4, 68, 0), (67, .iconst 0, 2, 0), (68, .ireturn, 0, 0)]
theorem tk_X9_readDisks : ∀ e ∈ tb_X9_readDisks, pm_ck 177 e = true := List.all_eq_true.mp (by decide +kernel)
set_option maxRecDepth 20000 in
set_option maxHeartbeats 20000000 in
theorem e_X9_readDisks (d : Nat) (hd : 6 ≤ d) (gx : List pm_E) (gs : List (List pm_E)) (q : Nat × Nat × Nat) (s : mo_S) (r : Int32) (s1 : mo_S) (H : f_X9_readDisks s = some (r, s1)) : pm_Mt 177 d [.ref 64] (mo_h gx s gs q) (.inl (some (.int r))) (mo_h gx s1 gs q) := by
  refine pm_Mt.of (by decide) (by decide +kernel) rfl rfl ?_
  obtain ⟨d, rfl⟩ : ∃ d', d = d' + 1 := ⟨d - 1, by omega⟩
  unfold f_X9_readDisks at H
  cases q3 : f_X9_readSetting s 4509043 0 3 6 with
  | none => rw [q3] at H; cases H
  | some w =>
   obtain ⟨r1, s2⟩ := w
   rw [q3] at H
   dsimp only at H
   refine pm_Wg.path (k := 5) (ds := []) (f' := (8, [some (.ref 64)], [.int 6, .int 3, .int 0, .long 4509043, .ref 64], mo_h gx s gs q)) tk_X9_readDisks (by omega) rfl trivial ?_
   refine pm_Wg.callV (m' := 172) (ix := 144) (rr := 237) (pl := 1523) (b := 64) (As := [.long 4509043, .int 0, .int 3, .int 6]) (S := []) (by decide) rfl (pm_dec tk_X9_readDisks rfl) rfl rfl (by decide) rfl rfl (by decide) (Nat.le_of_ble_eq_true rfl) rfl (e_X9_readSetting d (by omega) gx gs q _ _ _ _ _ _ _ q3) ?_
   by_cases h4 : r1 = 0
   · rw [if_pos h4] at H
     injection H with H
     injection H with H1 H2
     subst H1
     subst H2
     refine pm_Wg.path (k := 2) (ds := [1]) (f' := (68, [some (.ref 64)], [.int 0], mo_h gx s2 gs q)) tk_X9_readDisks (by omega) rfl ⟨h4, trivial⟩ ?_
     exact pm_Wg.iret (pm_dec tk_X9_readDisks rfl) rfl rfl
   · rw [if_neg h4] at H
     cases q7 : f_X9_readSetting s2 21091369139 1 1 64 with
     | none => rw [q7] at H; cases H
     | some w =>
      obtain ⟨r5, s6⟩ := w
      rw [q7] at H
      dsimp only at H
      refine pm_Wg.path (k := 6) (ds := [0]) (f' := (22, [some (.ref 64)], [.int 64, .int 1, .int 1, .long 21091369139, .ref 64], mo_h gx s2 gs q)) tk_X9_readDisks (by omega) rfl ⟨h4, trivial⟩ ?_
      refine pm_Wg.callV (m' := 172) (ix := 144) (rr := 237) (pl := 1523) (b := 64) (As := [.long 21091369139, .int 1, .int 1, .int 64]) (S := []) (by decide) rfl (pm_dec tk_X9_readDisks rfl) rfl rfl (by decide) rfl rfl (by decide) (Nat.le_of_ble_eq_true rfl) rfl (e_X9_readSetting d (by omega) gx gs q _ _ _ _ _ _ _ q7) ?_
      by_cases h8 : r5 = 0
      · rw [if_pos h8] at H
        injection H with H
        injection H with H1 H2
        subst H1
        subst H2
        refine pm_Wg.path (k := 2) (ds := [1]) (f' := (68, [some (.ref 64)], [.int 0], mo_h gx s6 gs q)) tk_X9_readDisks (by omega) rfl ⟨h8, trivial⟩ ?_
        exact pm_Wg.iret (pm_dec tk_X9_readDisks rfl) rfl rfl
      · rw [if_neg h8] at H
        cases q11 : f_X9_readSetting s6 67173 2 1 50 with
        | none => rw [q11] at H; cases H
        | some w =>
         obtain ⟨r9, s10⟩ := w
         rw [q11] at H
         dsimp only at H
         refine pm_Wg.path (k := 6) (ds := [0]) (f' := (36, [some (.ref 64)], [.int 50, .int 1, .int 2, .long 67173, .ref 64], mo_h gx s6 gs q)) tk_X9_readDisks (by omega) rfl ⟨h8, trivial⟩ ?_
         refine pm_Wg.callV (m' := 172) (ix := 144) (rr := 237) (pl := 1523) (b := 64) (As := [.long 67173, .int 2, .int 1, .int 50]) (S := []) (by decide) rfl (pm_dec tk_X9_readDisks rfl) rfl rfl (by decide) rfl rfl (by decide) (Nat.le_of_ble_eq_true rfl) rfl (e_X9_readSetting d (by omega) gx gs q _ _ _ _ _ _ _ q11) ?_
         by_cases h12 : r9 = 0
         · rw [if_pos h12] at H
           injection H with H
           injection H with H1 H2
           subst H1
           subst H2
           refine pm_Wg.path (k := 2) (ds := [1]) (f' := (68, [some (.ref 64)], [.int 0], mo_h gx s10 gs q)) tk_X9_readDisks (by omega) rfl ⟨h12, trivial⟩ ?_
           exact pm_Wg.iret (pm_dec tk_X9_readDisks rfl) rfl rfl
         · rw [if_neg h12] at H
           cases q15 : f_X9_readSetting s10 627883 3 0 99 with
           | none => rw [q15] at H; cases H
           | some w =>
            obtain ⟨r13, s14⟩ := w
            rw [q15] at H
            dsimp only at H
            refine pm_Wg.path (k := 6) (ds := [0]) (f' := (50, [some (.ref 64)], [.int 99, .int 0, .int 3, .long 627883, .ref 64], mo_h gx s10 gs q)) tk_X9_readDisks (by omega) rfl ⟨h12, trivial⟩ ?_
            refine pm_Wg.callV (m' := 172) (ix := 144) (rr := 237) (pl := 1523) (b := 64) (As := [.long 627883, .int 3, .int 0, .int 99]) (S := []) (by decide) rfl (pm_dec tk_X9_readDisks rfl) rfl rfl (by decide) rfl rfl (by decide) (Nat.le_of_ble_eq_true rfl) rfl (e_X9_readSetting d (by omega) gx gs q _ _ _ _ _ _ _ q15) ?_
            by_cases h16 : r13 = 0
            · rw [if_pos h16] at H
              injection H with H
              injection H with H1 H2
              subst H1
              subst H2
              refine pm_Wg.path (k := 2) (ds := [1]) (f' := (68, [some (.ref 64)], [.int 0], mo_h gx s14 gs q)) tk_X9_readDisks (by omega) rfl ⟨h16, trivial⟩ ?_
              exact pm_Wg.iret (pm_dec tk_X9_readDisks rfl) rfl rfl
            · rw [if_neg h16] at H
              cases q19 : f_X9_readSemicolon s14 with
              | none => rw [q19] at H; cases H
              | some w =>
               obtain ⟨r17, s18⟩ := w
               rw [q19] at H
               dsimp only at H
               refine pm_Wg.path (k := 2) (ds := [0]) (f' := (57, [some (.ref 64)], [.ref 64], mo_h gx s14 gs q)) tk_X9_readDisks (by omega) rfl ⟨h16, trivial⟩ ?_
               refine pm_Wg.callV (m' := 173) (ix := 154) (rr := 248) (pl := 1570) (b := 64) (As := []) (S := []) (by decide) rfl (pm_dec tk_X9_readDisks rfl) rfl rfl (by decide) rfl rfl (by decide) (Nat.le_of_ble_eq_true rfl) rfl (e_X9_readSemicolon d (by omega) gx gs q _ _ _ q19) ?_
               by_cases h20 : r17 = 0
               · rw [if_pos h20] at H
                 injection H with H
                 injection H with H1 H2
                 subst H1
                 subst H2
                 refine pm_Wg.path (k := 2) (ds := [1]) (f' := (68, [some (.ref 64)], [.int 0], mo_h gx s18 gs q)) tk_X9_readDisks (by omega) rfl ⟨h20, trivial⟩ ?_
                 exact pm_Wg.iret (pm_dec tk_X9_readDisks rfl) rfl rfl
               · rw [if_neg h20] at H
                 injection H with H
                 injection H with H1 H2
                 subst H1
                 subst H2
                 refine pm_Wg.path (k := 3) (ds := [0]) (f' := (68, [some (.ref 64)], [.int 1], mo_h gx s18 gs q)) tk_X9_readDisks (by omega) rfl ⟨h20, trivial⟩ ?_
                 exact pm_Wg.iret (pm_dec tk_X9_readDisks rfl) rfl rfl

def f_X9_readRebuild (s : mo_S) : Option (Int32 × mo_S) :=
  (match f_X9_takesWord s 19497919876 with
  | none => none
  | some (r1, s2) =>
   (if r1 = 0 then
    some (0, s2)
   else
    (match f_X9_readShare s2 0 with
    | none => none
    | some (r5, s6) =>
     (if r5 = 0 then
      some (0, s6)
     else
      (match f_X9_readSetting s6 781652471 4 1 8 with
      | none => none
      | some (r9, s10) =>
       (if r9 = 0 then
        some (0, s10)
       else
        (match f_X9_readSetting s10 3181829 5 0 64 with
        | none => none
        | some (r13, s14) =>
         (if r13 = 0 then
          some (0, s14)
         else
          (match f_X9_readSemicolon s14 with
          | none => none
          | some (r17, s18) =>
           (if r17 = 0 then
            some (0, s18)
           else
            some (1, s18)))))))))))
def tb_X9_readRebuild : List pm_I := [(0, .aload_n 0, 0, 0), (1, .ldc2_w 157, 11, 0), (4, .invokevirtual 132, 238, 0), (7, .ifCond .eq 50, 57, 0), (10, .aload_n 0, 0, 0), (11, .iconst 0, 2, 0), (12, .invokevirtual 159, 250, 0), (15, .ifCond .eq 42, 57, 0), (18, .aload_n 0, 0, 0), (19, .ldc2_w 162, 12, 0), (22, .iconst 4, 6, 0), (23, .iconst 1, 3, 0), (24, .bipush 8, 10, 0), (26, .invokevirtual 144, 237, 0), (29, .ifCond .eq 28, 57, 0), (32, .aload_n 0, 0, 0), (33, .ldc2_w 164, 13, 0), (36, .iconst 5, 7, 0), (37, .iconst 0, 2, 0), (38, .bipush 64, 26, 0), (40, .invokevirtual 144, 237, 0), (43, .ifCond .eq 14, 57, 0), (46, .aload_n 0, 0, 0), (47, .invokevirtual 154, 248, 0), (50, .ifCond .eq 7, 57, 0), (53, .iconst 1, 3, 0), (54, .goto 4, 58, 0), (57, .iconst 0, 2, 0), (58, .ireturn, 0, 0)]
theorem tk_X9_readRebuild : ∀ e ∈ tb_X9_readRebuild, pm_ck 178 e = true := List.all_eq_true.mp (by decide +kernel)
set_option maxRecDepth 20000 in
set_option maxHeartbeats 20000000 in
theorem e_X9_readRebuild (d : Nat) (hd : 6 ≤ d) (gx : List pm_E) (gs : List (List pm_E)) (q : Nat × Nat × Nat) (s : mo_S) (r : Int32) (s1 : mo_S) (H : f_X9_readRebuild s = some (r, s1)) : pm_Mt 178 d [.ref 64] (mo_h gx s gs q) (.inl (some (.int r))) (mo_h gx s1 gs q) := by
  refine pm_Mt.of (by decide) (by decide +kernel) rfl rfl ?_
  obtain ⟨d, rfl⟩ : ∃ d', d = d' + 1 := ⟨d - 1, by omega⟩
  unfold f_X9_readRebuild at H
  cases q3 : f_X9_takesWord s 19497919876 with
  | none => rw [q3] at H; cases H
  | some w =>
   obtain ⟨r1, s2⟩ := w
   rw [q3] at H
   dsimp only at H
   refine pm_Wg.path (k := 2) (ds := []) (f' := (4, [some (.ref 64)], [.long 19497919876, .ref 64], mo_h gx s gs q)) tk_X9_readRebuild (by omega) rfl trivial ?_
   refine pm_Wg.callV (m' := 169) (ix := 132) (rr := 238) (pl := 1527) (b := 64) (As := [.long 19497919876]) (S := []) (by decide) rfl (pm_dec tk_X9_readRebuild rfl) rfl rfl (by decide) rfl rfl (by decide) (Nat.le_of_ble_eq_true rfl) rfl (e_X9_takesWord d (by omega) gx gs q _ _ _ _ q3) ?_
   by_cases h4 : r1 = 0
   · rw [if_pos h4] at H
     injection H with H
     injection H with H1 H2
     subst H1
     subst H2
     refine pm_Wg.path (k := 2) (ds := [1]) (f' := (58, [some (.ref 64)], [.int 0], mo_h gx s2 gs q)) tk_X9_readRebuild (by omega) rfl ⟨h4, trivial⟩ ?_
     exact pm_Wg.iret (pm_dec tk_X9_readRebuild rfl) rfl rfl
   · rw [if_neg h4] at H
     cases q7 : f_X9_readShare s2 0 with
     | none => rw [q7] at H; cases H
     | some w =>
      obtain ⟨r5, s6⟩ := w
      rw [q7] at H
      dsimp only at H
      refine pm_Wg.path (k := 3) (ds := [0]) (f' := (12, [some (.ref 64)], [.int 0, .ref 64], mo_h gx s2 gs q)) tk_X9_readRebuild (by omega) rfl ⟨h4, trivial⟩ ?_
      refine pm_Wg.callV (m' := 175) (ix := 159) (rr := 250) (pl := 1579) (b := 64) (As := [.int 0]) (S := []) (by decide) rfl (pm_dec tk_X9_readRebuild rfl) rfl rfl (by decide) rfl rfl (by decide) (Nat.le_of_ble_eq_true rfl) rfl (e_X9_readShare d (by omega) gx gs q _ _ _ _ q7) ?_
      by_cases h8 : r5 = 0
      · rw [if_pos h8] at H
        injection H with H
        injection H with H1 H2
        subst H1
        subst H2
        refine pm_Wg.path (k := 2) (ds := [1]) (f' := (58, [some (.ref 64)], [.int 0], mo_h gx s6 gs q)) tk_X9_readRebuild (by omega) rfl ⟨h8, trivial⟩ ?_
        exact pm_Wg.iret (pm_dec tk_X9_readRebuild rfl) rfl rfl
      · rw [if_neg h8] at H
        cases q11 : f_X9_readSetting s6 781652471 4 1 8 with
        | none => rw [q11] at H; cases H
        | some w =>
         obtain ⟨r9, s10⟩ := w
         rw [q11] at H
         dsimp only at H
         refine pm_Wg.path (k := 6) (ds := [0]) (f' := (26, [some (.ref 64)], [.int 8, .int 1, .int 4, .long 781652471, .ref 64], mo_h gx s6 gs q)) tk_X9_readRebuild (by omega) rfl ⟨h8, trivial⟩ ?_
         refine pm_Wg.callV (m' := 172) (ix := 144) (rr := 237) (pl := 1523) (b := 64) (As := [.long 781652471, .int 4, .int 1, .int 8]) (S := []) (by decide) rfl (pm_dec tk_X9_readRebuild rfl) rfl rfl (by decide) rfl rfl (by decide) (Nat.le_of_ble_eq_true rfl) rfl (e_X9_readSetting d (by omega) gx gs q _ _ _ _ _ _ _ q11) ?_
         by_cases h12 : r9 = 0
         · rw [if_pos h12] at H
           injection H with H
           injection H with H1 H2
           subst H1
           subst H2
           refine pm_Wg.path (k := 2) (ds := [1]) (f' := (58, [some (.ref 64)], [.int 0], mo_h gx s10 gs q)) tk_X9_readRebuild (by omega) rfl ⟨h12, trivial⟩ ?_
           exact pm_Wg.iret (pm_dec tk_X9_readRebuild rfl) rfl rfl
         · rw [if_neg h12] at H
           cases q15 : f_X9_readSetting s10 3181829 5 0 64 with
           | none => rw [q15] at H; cases H
           | some w =>
            obtain ⟨r13, s14⟩ := w
            rw [q15] at H
            dsimp only at H
            refine pm_Wg.path (k := 6) (ds := [0]) (f' := (40, [some (.ref 64)], [.int 64, .int 0, .int 5, .long 3181829, .ref 64], mo_h gx s10 gs q)) tk_X9_readRebuild (by omega) rfl ⟨h12, trivial⟩ ?_
            refine pm_Wg.callV (m' := 172) (ix := 144) (rr := 237) (pl := 1523) (b := 64) (As := [.long 3181829, .int 5, .int 0, .int 64]) (S := []) (by decide) rfl (pm_dec tk_X9_readRebuild rfl) rfl rfl (by decide) rfl rfl (by decide) (Nat.le_of_ble_eq_true rfl) rfl (e_X9_readSetting d (by omega) gx gs q _ _ _ _ _ _ _ q15) ?_
            by_cases h16 : r13 = 0
            · rw [if_pos h16] at H
              injection H with H
              injection H with H1 H2
              subst H1
              subst H2
              refine pm_Wg.path (k := 2) (ds := [1]) (f' := (58, [some (.ref 64)], [.int 0], mo_h gx s14 gs q)) tk_X9_readRebuild (by omega) rfl ⟨h16, trivial⟩ ?_
              exact pm_Wg.iret (pm_dec tk_X9_readRebuild rfl) rfl rfl
            · rw [if_neg h16] at H
              cases q19 : f_X9_readSemicolon s14 with
              | none => rw [q19] at H; cases H
              | some w =>
               obtain ⟨r17, s18⟩ := w
               rw [q19] at H
               dsimp only at H
               refine pm_Wg.path (k := 2) (ds := [0]) (f' := (47, [some (.ref 64)], [.ref 64], mo_h gx s14 gs q)) tk_X9_readRebuild (by omega) rfl ⟨h16, trivial⟩ ?_
               refine pm_Wg.callV (m' := 173) (ix := 154) (rr := 248) (pl := 1570) (b := 64) (As := []) (S := []) (by decide) rfl (pm_dec tk_X9_readRebuild rfl) rfl rfl (by decide) rfl rfl (by decide) (Nat.le_of_ble_eq_true rfl) rfl (e_X9_readSemicolon d (by omega) gx gs q _ _ _ q19) ?_
               by_cases h20 : r17 = 0
               · rw [if_pos h20] at H
                 injection H with H
                 injection H with H1 H2
                 subst H1
                 subst H2
                 refine pm_Wg.path (k := 2) (ds := [1]) (f' := (58, [some (.ref 64)], [.int 0], mo_h gx s18 gs q)) tk_X9_readRebuild (by omega) rfl ⟨h20, trivial⟩ ?_
                 exact pm_Wg.iret (pm_dec tk_X9_readRebuild rfl) rfl rfl
               · rw [if_neg h20] at H
                 injection H with H
                 injection H with H1 H2
                 subst H1
                 subst H2
                 refine pm_Wg.path (k := 3) (ds := [0]) (f' := (58, [some (.ref 64)], [.int 1], mo_h gx s18 gs q)) tk_X9_readRebuild (by omega) rfl ⟨h20, trivial⟩ ?_
                 exact pm_Wg.iret (pm_dec tk_X9_readRebuild rfl) rfl rfl

def f_X9_readTenant (s : mo_S) : Option (Int32 × mo_S) :=
  (match pm_inb 6 26 with
  | false => none
  | true =>
  (if (s.2.2.1 1 (Int32.toNatClampNeg 6)) = 6 then
   (match f_X9_fails s 3 (s.1 12) with
   | none => none
   | some (r3, s4) =>
    (if r3 &&& 1 = r3 then some (r3, s4) else none))
  else
   (match f_X9_passWord s with
   | none => none
   | some s7 =>
    (match f_X9_readShare s7 (s7.2.2.1 1 (Int32.toNatClampNeg 6)) with
    | none => none
    | some (r10, s11) =>
     (if r10 = 0 then
      some (0, s11)
     else
      (match f_X9_readSemicolon (mo_a s11 1 6 ((s11.2.2.1 1 (Int32.toNatClampNeg 6)) + 1)) with
      | none => none
      | some (r16, s17) =>
       (if r16 &&& 1 = r16 then some (r16, s17) else none)))))))
def tb_X9_readTenant : List pm_I := [(0, .aload_n 0, 0, 0), (1, .getfield 13, 160, 0), (4, .bipush 6, 8, 0), (6, .iaload, 0, 0), (7, .bipush 6, 8, 0), (9, .if_icmp .ne 13, 22, 0), (12, .aload_n 0, 0, 0), (13, .iconst 3, 5, 0), (14, .aload_n 0, 0, 0), (15, .getfield 92, 171, 0), (18, .invokevirtual 105, 243, 0), (21, .ireturn, 0, 0), (22, .aload_n 0, 0, 0), (23, .invokevirtual 120, 244, 0), (26, .aload_n 0, 0, 0), (27, .aload_n 0, 0, 0), (28, .getfield 13, 160, 0), (31, .bipush 6, 8, 0), (33, .iaload, 0, 0), (34, .invokevirtual 159, 250, 0), (37, .ifCond .ne 5, 42, 0), (40, .iconst 0, 2, 0), (41, .ireturn, 0, 0), (42, .aload_n 0, 0, 0), (43, .getfield 13, 160, 0), (46, .bipush 6, 8, 0), (48, .aload_n 0, 0, 0), (49, .getfield 13, 160, 0), (52, .bipush 6, 8, 0), (54, .iaload, 0, 0), (55, .iconst 1, 3, 0), (56, .iadd, 0, 0), (57, .iastore, 0, 0), (58, .aload_n 0, 0, 0), (59, .invokevirtual 154, 248, 0), (62, .ireturn, 0, 0)]
theorem tk_X9_readTenant : ∀ e ∈ tb_X9_readTenant, pm_ck 179 e = true := List.all_eq_true.mp (by decide +kernel)
set_option maxRecDepth 20000 in
set_option maxHeartbeats 20000000 in
theorem e_X9_readTenant (d : Nat) (hd : 6 ≤ d) (gx : List pm_E) (gs : List (List pm_E)) (q : Nat × Nat × Nat) (s : mo_S) (r : Int32) (s1 : mo_S) (H : f_X9_readTenant s = some (r, s1)) : pm_Mt 179 d [.ref 64] (mo_h gx s gs q) (.inl (some (.int r))) (mo_h gx s1 gs q) := by
  refine pm_Mt.of (by decide) (by decide +kernel) rfl rfl ?_
  obtain ⟨d, rfl⟩ : ∃ d', d = d' + 1 := ⟨d - 1, by omega⟩
  unfold f_X9_readTenant at H
  cases b1 : pm_inb 6 26 with
  | false => rw [b1] at H; cases H
  | true =>
   rw [b1] at H
   dsimp only at H
   by_cases h2 : (s.2.2.1 1 (Int32.toNatClampNeg 6)) = 6
   · rw [if_pos h2] at H
     cases q5 : f_X9_fails s 3 (s.1 12) with
     | none => rw [q5] at H; cases H
     | some w =>
      obtain ⟨r3, s4⟩ := w
      rw [q5] at H
      dsimp only at H
      refine pm_Wg.path (k := 10) (ds := [0]) (f' := (18, [some (.ref 64)], [.int (s.1 12), .int 3, .ref 64], mo_h gx s gs q)) tk_X9_readTenant (by omega) rfl ⟨h2, pm_inb_vp b1, trivial⟩ ?_
      refine pm_Wg.callV (m' := 166) (ix := 105) (rr := 243) (pl := 1546) (b := 64) (As := [.int 3, .int (s.1 12)]) (S := []) (by decide) rfl (pm_dec tk_X9_readTenant rfl) rfl rfl (by decide) rfl rfl (by decide) (Nat.le_of_ble_eq_true rfl) rfl (e_X9_fails d (by omega) gx gs q _ _ _ _ _ q5) ?_
      by_cases z6 : r3 &&& 1 = r3
      case neg => rw [if_neg z6] at H; cases H
      rw [if_pos z6] at H
      injection H with H
      injection H with H1 H2
      subst H1
      subst H2
      exact pm_Wg.iret (pm_dec tk_X9_readTenant rfl) rfl (pm_nb1 z6)
   · rw [if_neg h2] at H
     cases q8 : f_X9_passWord s with
     | none => rw [q8] at H; cases H
     | some s7 =>
      rw [q8] at H
      dsimp only at H
      refine pm_Wg.path (k := 7) (ds := [1]) (f' := (23, [some (.ref 64)], [.ref 64], mo_h gx s gs q)) tk_X9_readTenant (by omega) rfl ⟨h2, pm_inb_vp b1, trivial⟩ ?_
      refine pm_Wg.callV (m' := 168) (ix := 120) (rr := 244) (pl := 1552) (b := 64) (As := []) (S := []) (by decide) rfl (pm_dec tk_X9_readTenant rfl) rfl rfl (by decide) rfl rfl (by decide) (Nat.le_of_ble_eq_true rfl) rfl (e_X9_passWord d (by omega) gx gs q _ _ q8) ?_
      cases q12 : f_X9_readShare s7 (s7.2.2.1 1 (Int32.toNatClampNeg 6)) with
      | none => rw [q12] at H; cases H
      | some w =>
       obtain ⟨r10, s11⟩ := w
       rw [q12] at H
       dsimp only at H
       refine pm_Wg.path (k := 5) (ds := []) (f' := (34, [some (.ref 64)], [.int (s7.2.2.1 1 (Int32.toNatClampNeg 6)), .ref 64], mo_h gx s7 gs q)) tk_X9_readTenant (by omega) rfl ⟨pm_inb_vp b1, trivial⟩ ?_
       refine pm_Wg.callV (m' := 175) (ix := 159) (rr := 250) (pl := 1579) (b := 64) (As := [.int (s7.2.2.1 1 (Int32.toNatClampNeg 6))]) (S := []) (by decide) rfl (pm_dec tk_X9_readTenant rfl) rfl rfl (by decide) rfl rfl (by decide) (Nat.le_of_ble_eq_true rfl) rfl (e_X9_readShare d (by omega) gx gs q _ _ _ _ q12) ?_
       by_cases h13 : r10 = 0
       · rw [if_pos h13] at H
         injection H with H
         injection H with H1 H2
         subst H1
         subst H2
         refine pm_Wg.path (k := 2) (ds := [0]) (f' := (41, [some (.ref 64)], [.int 0], mo_h gx s11 gs q)) tk_X9_readTenant (by omega) rfl ⟨h13, trivial⟩ ?_
         exact pm_Wg.iret (pm_dec tk_X9_readTenant rfl) rfl rfl
       · rw [if_neg h13] at H
         cases q18 : f_X9_readSemicolon (mo_a s11 1 6 ((s11.2.2.1 1 (Int32.toNatClampNeg 6)) + 1)) with
         | none => rw [q18] at H; cases H
         | some w =>
          obtain ⟨r16, s17⟩ := w
          rw [q18] at H
          dsimp only at H
          refine pm_Wg.path (k := 12) (ds := [1]) (f' := (59, [some (.ref 64)], [.ref 64], mo_h gx (mo_a s11 1 6 ((s11.2.2.1 1 (Int32.toNatClampNeg 6)) + 1)) gs q)) tk_X9_readTenant (by omega) rfl ⟨pm_inb_vp b1, pm_inb_vp b1, h13, trivial⟩ ?_
          refine pm_Wg.callV (m' := 173) (ix := 154) (rr := 248) (pl := 1570) (b := 64) (As := []) (S := []) (by decide) rfl (pm_dec tk_X9_readTenant rfl) rfl rfl (by decide) rfl rfl (by decide) (Nat.le_of_ble_eq_true rfl) rfl (e_X9_readSemicolon d (by omega) gx gs q _ _ _ q18) ?_
          by_cases z19 : r16 &&& 1 = r16
          case neg => rw [if_neg z19] at H; cases H
          rw [if_pos z19] at H
          injection H with H
          injection H with H1 H2
          subst H1
          subst H2
          exact pm_Wg.iret (pm_dec tk_X9_readTenant rfl) rfl (pm_nb1 z19)

def lb_X9_readArray_56 (x : mo_S × Int32) : Option ((mo_S × Int32) ⊕ (Int32 × mo_S)) := match x with
  | (s, l1) =>
   (if l1 = 0 then
    (if l1 = 0 then
     (match f_X9_readSetting s 20317291 7 0 500 with
     | none => none
     | some (r15, s16) =>
      (if r15 = 0 then
       some (.inr (0, s16))
      else
       (match f_X9_readSemicolon s16 with
       | none => none
       | some (r19, s20) =>
        (if r19 = 0 then
         some (.inr (0, s20))
        else
         (match f_X9_peek s20 with
         | none => none
         | some (r23, s24) =>
          (if r23 = (-1) then
           some (.inr (1, s24))
          else
           (match f_X9_fails s24 1 (s24.1 12) with
           | none => none
           | some (r27, s28) =>
            (if r27 = 0 then
             some (.inr (0, s28))
            else
             some (.inr (1, s28))))))))))
    else
     some (.inr (1, s)))
   else
    (match f_X9_peek s with
    | none => none
    | some (r31, s32) =>
     (if r31 = (-1) then
      (if l1 = 0 then
       (match f_X9_readSetting s32 20317291 7 0 500 with
       | none => none
       | some (r36, s37) =>
        (if r36 = 0 then
         some (.inr (0, s37))
        else
         (match f_X9_readSemicolon s37 with
         | none => none
         | some (r40, s41) =>
          (if r40 = 0 then
           some (.inr (0, s41))
          else
           (match f_X9_peek s41 with
           | none => none
           | some (r44, s45) =>
            (if r44 = (-1) then
             some (.inr (1, s45))
            else
             (match f_X9_fails s45 1 (s45.1 12) with
             | none => none
             | some (r48, s49) =>
              (if r48 = 0 then
               some (.inr (0, s49))
              else
               some (.inr (1, s49))))))))))
      else
       some (.inr (1, s32)))
     else
      (match f_X9_seesWord s32 with
      | none => none
      | some (r52, s53) =>
       (if r52 = 0 then
        some (.inr (0, s53))
       else
        (if (lg_cmp s53.2.1 676791764) = 0 then
         (match f_X9_readTenant s53 with
         | none => none
         | some (r57, s58) =>
          (if r57 = 0 then
           some (.inr (0, s58))
          else
           some (.inl (s58, 1))))
        else
         some (.inl (s53, 0))))))))
def lb_X9_readArray_2 (x : mo_S × Int32) : Option ((mo_S × Int32) ⊕ (Int32 × mo_S)) := match x with
  | (s, l1) =>
   (if 26 ≤ l1 then
    (match pm_inb 7 26 with
    | false => none
    | true =>
    (match pm_inb 6 26 with
    | false => none
    | true =>
    (match f_X9_readDisks (mo_a (mo_a s 1 7 20) 1 6 1) with
    | none => none
    | some (r5, s6) =>
     (if r5 = 0 then
      some (.inr (0, s6))
     else
      (match f_X9_readRebuild s6 with
      | none => none
      | some (r9, s10) =>
       (if r9 = 0 then
        some (.inr (0, s10))
       else
        (match pm_loop pm_fu lb_X9_readArray_56 (s10, 1) with
        | none => none
        | some e => some (.inr e))))))))
   else
    (match pm_inb l1 26 with
    | false => none
    | true =>
    some (.inl ((mo_a s 1 l1 0), (l1 + 1)))))
def f_X9_readArray (s : mo_S) : Option (Int32 × mo_S) :=
  (pm_loop pm_fu lb_X9_readArray_2 (s, 0))
def tb_X9_readArray : List pm_I := [(0, .iconst 0, 2, 0), (1, .istore_n 1, 0, 0), (2, .iload_n 1, 0, 0), (3, .bipush 26, 17, 0), (5, .if_icmp .ge 16, 21, 0), (8, .aload_n 0, 0, 0), (9, .getfield 13, 160, 0), (12, .iload_n 1, 0, 0), (13, .iconst 0, 2, 0), (14, .iastore, 0, 0), (15, .iinc 1 1, 3, 0), (18, .goto (-16), 2, 0), (21, .aload_n 0, 0, 0), (22, .getfield 13, 160, 0), (25, .bipush 7, 9, 0), (27, .bipush 20, 15, 0), (29, .iastore, 0, 0), (30, .aload_n 0, 0, 0), (31, .getfield 13, 160, 0), (34, .bipush 6, 8, 0), (36, .iconst 1, 3, 0), (37, .iastore, 0, 0), (38, .aload_n 0, 0, 0), (39, .invokevirtual 166, 236, 0), (42, .ifCond .eq 10, 52, 0), (45, .aload_n 0, 0, 0), (46, .invokevirtual 169, 249, 0), (49, .ifCond .ne 5, 54, 0), (52, .iconst 0, 2, 0), (53, .ireturn, 0, 0), (54, .iconst 1, 3, 0), (55, .istore_n 1, 0, 0), (56, .iload_n 1, 0, 0), (57, .ifCond .eq 50, 107, 0), (60, .aload_n 0, 0, 0), (61, .invokevirtual 95, 240, 0), (64, .iconst (-1), 1, 0), (65, .if_icmp .eq 42, 107, 0), (68, .aload_n 0, 0, 0), (69, .invokevirtual 117, 239, 0), (72, .ifCond .ne 5, 77, 0), (75, .iconst 0, 2, 0), (76, .ireturn, 0, 0), (77, .aload_n 0, 0, 0), (78, .getfield 109, 175, 0), (81, .ldc2_w 172, 14, 0), (84, .lcmp, 0, 0), (85, .ifCond .ne 7, 92, 0), (88, .iconst 1, 3, 0), (89, .goto 4, 93, 0), (92, .iconst 0, 2, 0), (93, .istore_n 1, 0, 0), (94, .iload_n 1, 0, 0), (95, .ifCond .eq (-39), 56, 0), (98, .aload_n 0, 0, 0), (99, .invokevirtual 174, 252, 0), (102, .ifCond .ne (-46), 56, 0), (105, .iconst 0, 2, 0), (106, .ireturn, 0, 0), (107, .iload_n 1, 0, 0), (108, .ifCond .ne 46, 154, 0), (111, .aload_n 0, 0, 0), (112, .ldc2_w 177, 15, 0), (115, .bipush 7, 9, 0), (117, .iconst 0, 2, 0), (118, .sipush 500, 35, 0), (121, .invokevirtual 144, 237, 0), (124, .ifCond .eq 34, 158, 0), (127, .aload_n 0, 0, 0), (128, .invokevirtual 154, 248, 0), (131, .ifCond .eq 27, 158, 0), (134, .aload_n 0, 0, 0), (135, .invokevirtual 95, 240, 0), (138, .iconst (-1), 1, 0), (139, .if_icmp .eq 15, 154, 0), (142, .aload_n 0, 0, 0), (143, .iconst 1, 3, 0), (144, .aload_n 0, 0, 0), (145, .getfield 92, 171, 0), (148, .invokevirtual 105, 243, 0), (151, .ifCond .eq 7, 158, 0), (154, .iconst 1, 3, 0), (155, .goto 4, 159, 0), (158, .iconst 0, 2, 0), (159, .ireturn, 0, 0)]
theorem tk_X9_readArray : ∀ e ∈ tb_X9_readArray, pm_ck 180 e = true := List.all_eq_true.mp (by decide +kernel)
set_option maxRecDepth 20000 in
set_option maxHeartbeats 40000000 in
theorem ll_X9_readArray_56 (d : Nat) (hd : 7 ≤ d) (gx : List pm_E) (gs : List (List pm_E)) (q : Nat × Nat × Nat) (r : Int32) (s1 : mo_S) (P : Int32 × mo_S → Prop) (K0 : ∀ e : Int32 × mo_S, P (e) → e = (r, s1)) : ∀ (n : Nat) (s : mo_S) (l1 : Int32) (e : Int32 × mo_S), pm_loop n lb_X9_readArray_56 (s, l1) = some e → P e → pm_Wg 180 d (.inl (some (.int r))) (mo_h gx s1 gs q) (56, [some (.ref 64), some (.int l1)], [], mo_h gx s gs q) := by
  intro n
  induction n with
  | zero => intro s l1 e H; cases H
  | succ n ih =>
    intro s l1 e H hPe
    obtain ⟨d, rfl⟩ : ∃ d', d = d' + 1 := ⟨d - 1, by omega⟩
    have H : pm_lst (pm_loop n lb_X9_readArray_56) (lb_X9_readArray_56 (s, l1)) = some e := H
    generalize pm_loop n lb_X9_readArray_56 = LB at H ih
    unfold lb_X9_readArray_56 at H
    try dsimp only at H
    by_cases h13 : l1 = 0
    · rw [if_pos h13] at H
      by_cases h14 : l1 = 0
      · rw [if_pos h14] at H
        cases q17 : f_X9_readSetting s 20317291 7 0 500 with
        | none => rw [q17] at H; cases H
        | some w =>
         obtain ⟨r15, s16⟩ := w
         rw [q17] at H
         dsimp only at H
         refine pm_Wg.path (k := 9) (ds := [1, 0]) (f' := (121, [some (.ref 64), some (.int l1)], [.int 500, .int 0, .int 7, .long 20317291, .ref 64], mo_h gx s gs q)) tk_X9_readArray (by omega) rfl ⟨h14, h13, trivial⟩ ?_
         refine pm_Wg.callV (m' := 172) (ix := 144) (rr := 237) (pl := 1523) (b := 64) (As := [.long 20317291, .int 7, .int 0, .int 500]) (S := []) (by decide) rfl (pm_dec tk_X9_readArray rfl) rfl rfl (by decide) rfl rfl (by decide) (Nat.le_of_ble_eq_true rfl) rfl (e_X9_readSetting d (by omega) gx gs q _ _ _ _ _ _ _ q17) ?_
         by_cases h18 : r15 = 0
         · rw [if_pos h18] at H
           have He := Option.some.inj H
           subst He
           have H := K0 _ hPe
           injection H with H1 H2
           subst H1
           subst H2
           refine pm_Wg.path (k := 2) (ds := [1]) (f' := (159, [some (.ref 64), some (.int l1)], [.int 0], mo_h gx s16 gs q)) tk_X9_readArray (by omega) rfl ⟨h18, trivial⟩ ?_
           exact pm_Wg.iret (pm_dec tk_X9_readArray rfl) rfl rfl
         · rw [if_neg h18] at H
           cases q21 : f_X9_readSemicolon s16 with
           | none => rw [q21] at H; cases H
           | some w =>
            obtain ⟨r19, s20⟩ := w
            rw [q21] at H
            dsimp only at H
            refine pm_Wg.path (k := 2) (ds := [0]) (f' := (128, [some (.ref 64), some (.int l1)], [.ref 64], mo_h gx s16 gs q)) tk_X9_readArray (by omega) rfl ⟨h18, trivial⟩ ?_
            refine pm_Wg.callV (m' := 173) (ix := 154) (rr := 248) (pl := 1570) (b := 64) (As := []) (S := []) (by decide) rfl (pm_dec tk_X9_readArray rfl) rfl rfl (by decide) rfl rfl (by decide) (Nat.le_of_ble_eq_true rfl) rfl (e_X9_readSemicolon d (by omega) gx gs q _ _ _ q21) ?_
            by_cases h22 : r19 = 0
            · rw [if_pos h22] at H
              have He := Option.some.inj H
              subst He
              have H := K0 _ hPe
              injection H with H1 H2
              subst H1
              subst H2
              refine pm_Wg.path (k := 2) (ds := [1]) (f' := (159, [some (.ref 64), some (.int l1)], [.int 0], mo_h gx s20 gs q)) tk_X9_readArray (by omega) rfl ⟨h22, trivial⟩ ?_
              exact pm_Wg.iret (pm_dec tk_X9_readArray rfl) rfl rfl
            · rw [if_neg h22] at H
              cases q25 : f_X9_peek s20 with
              | none => rw [q25] at H; cases H
              | some w =>
               obtain ⟨r23, s24⟩ := w
               rw [q25] at H
               dsimp only at H
               refine pm_Wg.path (k := 2) (ds := [0]) (f' := (135, [some (.ref 64), some (.int l1)], [.ref 64], mo_h gx s20 gs q)) tk_X9_readArray (by omega) rfl ⟨h22, trivial⟩ ?_
               refine pm_Wg.callV (m' := 165) (ix := 95) (rr := 240) (pl := 1535) (b := 64) (As := []) (S := []) (by decide) rfl (pm_dec tk_X9_readArray rfl) rfl rfl (by decide) rfl rfl (by decide) (Nat.le_of_ble_eq_true rfl) rfl (e_X9_peek d (by omega) gx gs q _ _ _ q25) ?_
               by_cases h26 : r23 = (-1)
               · rw [if_pos h26] at H
                 have He := Option.some.inj H
                 subst He
                 have H := K0 _ hPe
                 injection H with H1 H2
                 subst H1
                 subst H2
                 refine pm_Wg.path (k := 4) (ds := [1]) (f' := (159, [some (.ref 64), some (.int l1)], [.int 1], mo_h gx s24 gs q)) tk_X9_readArray (by omega) rfl ⟨h26, trivial⟩ ?_
                 exact pm_Wg.iret (pm_dec tk_X9_readArray rfl) rfl rfl
               · rw [if_neg h26] at H
                 cases q29 : f_X9_fails s24 1 (s24.1 12) with
                 | none => rw [q29] at H; cases H
                 | some w =>
                  obtain ⟨r27, s28⟩ := w
                  rw [q29] at H
                  dsimp only at H
                  refine pm_Wg.path (k := 6) (ds := [0]) (f' := (148, [some (.ref 64), some (.int l1)], [.int (s24.1 12), .int 1, .ref 64], mo_h gx s24 gs q)) tk_X9_readArray (by omega) rfl ⟨h26, trivial⟩ ?_
                  refine pm_Wg.callV (m' := 166) (ix := 105) (rr := 243) (pl := 1546) (b := 64) (As := [.int 1, .int (s24.1 12)]) (S := []) (by decide) rfl (pm_dec tk_X9_readArray rfl) rfl rfl (by decide) rfl rfl (by decide) (Nat.le_of_ble_eq_true rfl) rfl (e_X9_fails d (by omega) gx gs q _ _ _ _ _ q29) ?_
                  by_cases h30 : r27 = 0
                  · rw [if_pos h30] at H
                    have He := Option.some.inj H
                    subst He
                    have H := K0 _ hPe
                    injection H with H1 H2
                    subst H1
                    subst H2
                    refine pm_Wg.path (k := 2) (ds := [1]) (f' := (159, [some (.ref 64), some (.int l1)], [.int 0], mo_h gx s28 gs q)) tk_X9_readArray (by omega) rfl ⟨h30, trivial⟩ ?_
                    exact pm_Wg.iret (pm_dec tk_X9_readArray rfl) rfl rfl
                  · rw [if_neg h30] at H
                    have He := Option.some.inj H
                    subst He
                    have H := K0 _ hPe
                    injection H with H1 H2
                    subst H1
                    subst H2
                    refine pm_Wg.path (k := 3) (ds := [0]) (f' := (159, [some (.ref 64), some (.int l1)], [.int 1], mo_h gx s28 gs q)) tk_X9_readArray (by omega) rfl ⟨h30, trivial⟩ ?_
                    exact pm_Wg.iret (pm_dec tk_X9_readArray rfl) rfl rfl
      · rw [if_neg h14] at H
        have He := Option.some.inj H
        subst He
        have H := K0 _ hPe
        injection H with H1 H2
        subst H1
        subst H2
        refine pm_Wg.path (k := 6) (ds := [1, 1]) (f' := (159, [some (.ref 64), some (.int l1)], [.int 1], mo_h gx s gs q)) tk_X9_readArray (by omega) rfl ⟨h14, h13, trivial⟩ ?_
        exact pm_Wg.iret (pm_dec tk_X9_readArray rfl) rfl rfl
    · rw [if_neg h13] at H
      cases q33 : f_X9_peek s with
      | none => rw [q33] at H; cases H
      | some w =>
       obtain ⟨r31, s32⟩ := w
       rw [q33] at H
       dsimp only at H
       refine pm_Wg.path (k := 3) (ds := [0]) (f' := (61, [some (.ref 64), some (.int l1)], [.ref 64], mo_h gx s gs q)) tk_X9_readArray (by omega) rfl ⟨h13, trivial⟩ ?_
       refine pm_Wg.callV (m' := 165) (ix := 95) (rr := 240) (pl := 1535) (b := 64) (As := []) (S := []) (by decide) rfl (pm_dec tk_X9_readArray rfl) rfl rfl (by decide) rfl rfl (by decide) (Nat.le_of_ble_eq_true rfl) rfl (e_X9_peek d (by omega) gx gs q _ _ _ q33) ?_
       by_cases h34 : r31 = (-1)
       · rw [if_pos h34] at H
         by_cases h35 : l1 = 0
         · rw [if_pos h35] at H
           cases q38 : f_X9_readSetting s32 20317291 7 0 500 with
           | none => rw [q38] at H; cases H
           | some w =>
            obtain ⟨r36, s37⟩ := w
            rw [q38] at H
            dsimp only at H
            refine pm_Wg.path (k := 9) (ds := [1, 0]) (f' := (121, [some (.ref 64), some (.int l1)], [.int 500, .int 0, .int 7, .long 20317291, .ref 64], mo_h gx s32 gs q)) tk_X9_readArray (by omega) rfl ⟨h35, h34, trivial⟩ ?_
            refine pm_Wg.callV (m' := 172) (ix := 144) (rr := 237) (pl := 1523) (b := 64) (As := [.long 20317291, .int 7, .int 0, .int 500]) (S := []) (by decide) rfl (pm_dec tk_X9_readArray rfl) rfl rfl (by decide) rfl rfl (by decide) (Nat.le_of_ble_eq_true rfl) rfl (e_X9_readSetting d (by omega) gx gs q _ _ _ _ _ _ _ q38) ?_
            by_cases h39 : r36 = 0
            · rw [if_pos h39] at H
              have He := Option.some.inj H
              subst He
              have H := K0 _ hPe
              injection H with H1 H2
              subst H1
              subst H2
              refine pm_Wg.path (k := 2) (ds := [1]) (f' := (159, [some (.ref 64), some (.int l1)], [.int 0], mo_h gx s37 gs q)) tk_X9_readArray (by omega) rfl ⟨h39, trivial⟩ ?_
              exact pm_Wg.iret (pm_dec tk_X9_readArray rfl) rfl rfl
            · rw [if_neg h39] at H
              cases q42 : f_X9_readSemicolon s37 with
              | none => rw [q42] at H; cases H
              | some w =>
               obtain ⟨r40, s41⟩ := w
               rw [q42] at H
               dsimp only at H
               refine pm_Wg.path (k := 2) (ds := [0]) (f' := (128, [some (.ref 64), some (.int l1)], [.ref 64], mo_h gx s37 gs q)) tk_X9_readArray (by omega) rfl ⟨h39, trivial⟩ ?_
               refine pm_Wg.callV (m' := 173) (ix := 154) (rr := 248) (pl := 1570) (b := 64) (As := []) (S := []) (by decide) rfl (pm_dec tk_X9_readArray rfl) rfl rfl (by decide) rfl rfl (by decide) (Nat.le_of_ble_eq_true rfl) rfl (e_X9_readSemicolon d (by omega) gx gs q _ _ _ q42) ?_
               by_cases h43 : r40 = 0
               · rw [if_pos h43] at H
                 have He := Option.some.inj H
                 subst He
                 have H := K0 _ hPe
                 injection H with H1 H2
                 subst H1
                 subst H2
                 refine pm_Wg.path (k := 2) (ds := [1]) (f' := (159, [some (.ref 64), some (.int l1)], [.int 0], mo_h gx s41 gs q)) tk_X9_readArray (by omega) rfl ⟨h43, trivial⟩ ?_
                 exact pm_Wg.iret (pm_dec tk_X9_readArray rfl) rfl rfl
               · rw [if_neg h43] at H
                 cases q46 : f_X9_peek s41 with
                 | none => rw [q46] at H; cases H
                 | some w =>
                  obtain ⟨r44, s45⟩ := w
                  rw [q46] at H
                  dsimp only at H
                  refine pm_Wg.path (k := 2) (ds := [0]) (f' := (135, [some (.ref 64), some (.int l1)], [.ref 64], mo_h gx s41 gs q)) tk_X9_readArray (by omega) rfl ⟨h43, trivial⟩ ?_
                  refine pm_Wg.callV (m' := 165) (ix := 95) (rr := 240) (pl := 1535) (b := 64) (As := []) (S := []) (by decide) rfl (pm_dec tk_X9_readArray rfl) rfl rfl (by decide) rfl rfl (by decide) (Nat.le_of_ble_eq_true rfl) rfl (e_X9_peek d (by omega) gx gs q _ _ _ q46) ?_
                  by_cases h47 : r44 = (-1)
                  · rw [if_pos h47] at H
                    have He := Option.some.inj H
                    subst He
                    have H := K0 _ hPe
                    injection H with H1 H2
                    subst H1
                    subst H2
                    refine pm_Wg.path (k := 4) (ds := [1]) (f' := (159, [some (.ref 64), some (.int l1)], [.int 1], mo_h gx s45 gs q)) tk_X9_readArray (by omega) rfl ⟨h47, trivial⟩ ?_
                    exact pm_Wg.iret (pm_dec tk_X9_readArray rfl) rfl rfl
                  · rw [if_neg h47] at H
                    cases q50 : f_X9_fails s45 1 (s45.1 12) with
                    | none => rw [q50] at H; cases H
                    | some w =>
                     obtain ⟨r48, s49⟩ := w
                     rw [q50] at H
                     dsimp only at H
                     refine pm_Wg.path (k := 6) (ds := [0]) (f' := (148, [some (.ref 64), some (.int l1)], [.int (s45.1 12), .int 1, .ref 64], mo_h gx s45 gs q)) tk_X9_readArray (by omega) rfl ⟨h47, trivial⟩ ?_
                     refine pm_Wg.callV (m' := 166) (ix := 105) (rr := 243) (pl := 1546) (b := 64) (As := [.int 1, .int (s45.1 12)]) (S := []) (by decide) rfl (pm_dec tk_X9_readArray rfl) rfl rfl (by decide) rfl rfl (by decide) (Nat.le_of_ble_eq_true rfl) rfl (e_X9_fails d (by omega) gx gs q _ _ _ _ _ q50) ?_
                     by_cases h51 : r48 = 0
                     · rw [if_pos h51] at H
                       have He := Option.some.inj H
                       subst He
                       have H := K0 _ hPe
                       injection H with H1 H2
                       subst H1
                       subst H2
                       refine pm_Wg.path (k := 2) (ds := [1]) (f' := (159, [some (.ref 64), some (.int l1)], [.int 0], mo_h gx s49 gs q)) tk_X9_readArray (by omega) rfl ⟨h51, trivial⟩ ?_
                       exact pm_Wg.iret (pm_dec tk_X9_readArray rfl) rfl rfl
                     · rw [if_neg h51] at H
                       have He := Option.some.inj H
                       subst He
                       have H := K0 _ hPe
                       injection H with H1 H2
                       subst H1
                       subst H2
                       refine pm_Wg.path (k := 3) (ds := [0]) (f' := (159, [some (.ref 64), some (.int l1)], [.int 1], mo_h gx s49 gs q)) tk_X9_readArray (by omega) rfl ⟨h51, trivial⟩ ?_
                       exact pm_Wg.iret (pm_dec tk_X9_readArray rfl) rfl rfl
         · rw [if_neg h35] at H
           have He := Option.some.inj H
           subst He
           have H := K0 _ hPe
           injection H with H1 H2
           subst H1
           subst H2
           refine pm_Wg.path (k := 6) (ds := [1, 1]) (f' := (159, [some (.ref 64), some (.int l1)], [.int 1], mo_h gx s32 gs q)) tk_X9_readArray (by omega) rfl ⟨h35, h34, trivial⟩ ?_
           exact pm_Wg.iret (pm_dec tk_X9_readArray rfl) rfl rfl
       · rw [if_neg h34] at H
         cases q54 : f_X9_seesWord s32 with
         | none => rw [q54] at H; cases H
         | some w =>
          obtain ⟨r52, s53⟩ := w
          rw [q54] at H
          dsimp only at H
          refine pm_Wg.path (k := 3) (ds := [0]) (f' := (69, [some (.ref 64), some (.int l1)], [.ref 64], mo_h gx s32 gs q)) tk_X9_readArray (by omega) rfl ⟨h34, trivial⟩ ?_
          refine pm_Wg.callV (m' := 167) (ix := 117) (rr := 239) (pl := 1531) (b := 64) (As := []) (S := []) (by decide) rfl (pm_dec tk_X9_readArray rfl) rfl rfl (by decide) rfl rfl (by decide) (Nat.le_of_ble_eq_true rfl) rfl (e_X9_seesWord d (by omega) gx gs q _ _ _ q54) ?_
          by_cases h55 : r52 = 0
          · rw [if_pos h55] at H
            have He := Option.some.inj H
            subst He
            have H := K0 _ hPe
            injection H with H1 H2
            subst H1
            subst H2
            refine pm_Wg.path (k := 2) (ds := [0]) (f' := (76, [some (.ref 64), some (.int l1)], [.int 0], mo_h gx s53 gs q)) tk_X9_readArray (by omega) rfl ⟨h55, trivial⟩ ?_
            exact pm_Wg.iret (pm_dec tk_X9_readArray rfl) rfl rfl
          · rw [if_neg h55] at H
            by_cases h56 : (lg_cmp s53.2.1 676791764) = 0
            · rw [if_pos h56] at H
              cases q59 : f_X9_readTenant s53 with
              | none => rw [q59] at H; cases H
              | some w =>
               obtain ⟨r57, s58⟩ := w
               rw [q59] at H
               dsimp only at H
               refine pm_Wg.path (k := 12) (ds := [1, 0, 0]) (f' := (99, [some (.ref 64), some (.int 1)], [.ref 64], mo_h gx s53 gs q)) tk_X9_readArray (by omega) rfl ⟨(by decide), h56, h55, trivial⟩ ?_
               refine pm_Wg.callV (m' := 179) (ix := 174) (rr := 252) (pl := 1589) (b := 64) (As := []) (S := []) (by decide) rfl (pm_dec tk_X9_readArray rfl) rfl rfl (by decide) rfl rfl (by decide) (Nat.le_of_ble_eq_true rfl) rfl (e_X9_readTenant d (by omega) gx gs q _ _ _ q59) ?_
               by_cases h60 : r57 = 0
               · rw [if_pos h60] at H
                 have He := Option.some.inj H
                 subst He
                 have H := K0 _ hPe
                 injection H with H1 H2
                 subst H1
                 subst H2
                 refine pm_Wg.path (k := 2) (ds := [0]) (f' := (106, [some (.ref 64), some (.int 1)], [.int 0], mo_h gx s58 gs q)) tk_X9_readArray (by omega) rfl ⟨h60, trivial⟩ ?_
                 exact pm_Wg.iret (pm_dec tk_X9_readArray rfl) rfl rfl
               · rw [if_neg h60] at H
                 refine pm_Wg.path (k := 1) (ds := [1]) (f' := (56, [some (.ref 64), some (.int 1)], [], mo_h gx s58 gs q)) tk_X9_readArray (by omega) rfl ⟨h60, trivial⟩ ?_
                 exact ih _ _ e H hPe
            · rw [if_neg h56] at H
              refine pm_Wg.path (k := 10) (ds := [1, 1, 1]) (f' := (56, [some (.ref 64), some (.int 0)], [], mo_h gx s53 gs q)) tk_X9_readArray (by omega) rfl ⟨(by decide), h56, h55, trivial⟩ ?_
              exact ih _ _ e H hPe
set_option maxRecDepth 20000 in
set_option maxHeartbeats 40000000 in
theorem ll_X9_readArray_2 (d : Nat) (hd : 7 ≤ d) (gx : List pm_E) (gs : List (List pm_E)) (q : Nat × Nat × Nat) (r : Int32) (s1 : mo_S) (P : Int32 × mo_S → Prop) (K0 : ∀ e : Int32 × mo_S, P (e) → e = (r, s1)) : ∀ (n : Nat) (s : mo_S) (l1 : Int32) (e : Int32 × mo_S), pm_loop n lb_X9_readArray_2 (s, l1) = some e → P e → pm_Wg 180 d (.inl (some (.int r))) (mo_h gx s1 gs q) (2, [some (.ref 64), some (.int l1)], [], mo_h gx s gs q) := by
  intro n
  induction n with
  | zero => intro s l1 e H; cases H
  | succ n ih =>
    intro s l1 e H hPe
    obtain ⟨d, rfl⟩ : ∃ d', d = d' + 1 := ⟨d - 1, by omega⟩
    have H : pm_lst (pm_loop n lb_X9_readArray_2) (lb_X9_readArray_2 (s, l1)) = some e := H
    generalize pm_loop n lb_X9_readArray_2 = LB at H ih
    unfold lb_X9_readArray_2 at H
    try dsimp only at H
    by_cases h1 : 26 ≤ l1
    · rw [if_pos h1] at H
      cases b2 : pm_inb 7 26 with
      | false => rw [b2] at H; cases H
      | true =>
       rw [b2] at H
       dsimp only at H
       cases b3 : pm_inb 6 26 with
       | false => rw [b3] at H; cases H
       | true =>
        rw [b3] at H
        dsimp only at H
        cases q7 : f_X9_readDisks (mo_a (mo_a s 1 7 20) 1 6 1) with
        | none => rw [q7] at H; cases H
        | some w =>
         obtain ⟨r5, s6⟩ := w
         rw [q7] at H
         dsimp only at H
         refine pm_Wg.path (k := 14) (ds := [1]) (f' := (39, [some (.ref 64), some (.int l1)], [.ref 64], mo_h gx (mo_a (mo_a s 1 7 20) 1 6 1) gs q)) tk_X9_readArray (by omega) rfl ⟨pm_inb_vp b3, pm_inb_vp b2, h1, trivial⟩ ?_
         refine pm_Wg.callV (m' := 177) (ix := 166) (rr := 236) (pl := 1518) (b := 64) (As := []) (S := []) (by decide) rfl (pm_dec tk_X9_readArray rfl) rfl rfl (by decide) rfl rfl (by decide) (Nat.le_of_ble_eq_true rfl) rfl (e_X9_readDisks d (by omega) gx gs q _ _ _ q7) ?_
         by_cases h8 : r5 = 0
         · rw [if_pos h8] at H
           have He := Option.some.inj H
           subst He
           have H := K0 _ hPe
           injection H with H1 H2
           subst H1
           subst H2
           refine pm_Wg.path (k := 2) (ds := [1]) (f' := (53, [some (.ref 64), some (.int l1)], [.int 0], mo_h gx s6 gs q)) tk_X9_readArray (by omega) rfl ⟨h8, trivial⟩ ?_
           exact pm_Wg.iret (pm_dec tk_X9_readArray rfl) rfl rfl
         · rw [if_neg h8] at H
           cases q11 : f_X9_readRebuild s6 with
           | none => rw [q11] at H; cases H
           | some w =>
            obtain ⟨r9, s10⟩ := w
            rw [q11] at H
            dsimp only at H
            refine pm_Wg.path (k := 2) (ds := [0]) (f' := (46, [some (.ref 64), some (.int l1)], [.ref 64], mo_h gx s6 gs q)) tk_X9_readArray (by omega) rfl ⟨h8, trivial⟩ ?_
            refine pm_Wg.callV (m' := 178) (ix := 169) (rr := 249) (pl := 1574) (b := 64) (As := []) (S := []) (by decide) rfl (pm_dec tk_X9_readArray rfl) rfl rfl (by decide) rfl rfl (by decide) (Nat.le_of_ble_eq_true rfl) rfl (e_X9_readRebuild d (by omega) gx gs q _ _ _ q11) ?_
            by_cases h12 : r9 = 0
            · rw [if_pos h12] at H
              have He := Option.some.inj H
              subst He
              have H := K0 _ hPe
              injection H with H1 H2
              subst H1
              subst H2
              refine pm_Wg.path (k := 2) (ds := [0]) (f' := (53, [some (.ref 64), some (.int l1)], [.int 0], mo_h gx s10 gs q)) tk_X9_readArray (by omega) rfl ⟨h12, trivial⟩ ?_
              exact pm_Wg.iret (pm_dec tk_X9_readArray rfl) rfl rfl
            · rw [if_neg h12] at H
              cases q61 : pm_loop pm_fu lb_X9_readArray_56 (s10, 1) with
              | none => rw [q61] at H; cases H
              | some e9 =>
               rw [q61] at H
               try dsimp only at H
               refine pm_Wg.path (k := 3) (ds := [1]) (f' := (56, [some (.ref 64), some (.int 1)], [], mo_h gx s10 gs q)) tk_X9_readArray (by omega) rfl ⟨h12, trivial⟩ ?_
               exact ll_X9_readArray_56 (d + 1) (by omega) gx gs q r s1 (fun e9 => pm_lst LB (some (.inr e9)) = some e) (fun e0 hk => K0 e0 (Option.some.inj hk ▸ hPe)) pm_fu _ _ _ q61 H
    · rw [if_neg h1] at H
      cases b4 : pm_inb l1 26 with
      | false => rw [b4] at H; cases H
      | true =>
       rw [b4] at H
       dsimp only at H
       refine pm_Wg.path (k := 10) (ds := [0]) (f' := (2, [some (.ref 64), some (.int (l1 + 1))], [], mo_h gx (mo_a s 1 l1 0) gs q)) tk_X9_readArray (by omega) rfl ⟨pm_inb_vp b4, h1, trivial⟩ ?_
       exact ih _ _ e H hPe
set_option maxRecDepth 20000 in
set_option maxHeartbeats 20000000 in
theorem e_X9_readArray (d : Nat) (hd : 7 ≤ d) (gx : List pm_E) (gs : List (List pm_E)) (q : Nat × Nat × Nat) (s : mo_S) (r : Int32) (s1 : mo_S) (H : f_X9_readArray s = some (r, s1)) : pm_Mt 180 d [.ref 64] (mo_h gx s gs q) (.inl (some (.int r))) (mo_h gx s1 gs q) := by
  refine pm_Mt.of (by decide) (by decide +kernel) rfl rfl ?_
  obtain ⟨d, rfl⟩ : ∃ d', d = d' + 1 := ⟨d - 1, by omega⟩
  unfold f_X9_readArray at H
  refine pm_Wg.path (k := 2) (ds := []) (f' := (2, [some (.ref 64), some (.int 0)], [], mo_h gx s gs q)) tk_X9_readArray (by omega) rfl trivial ?_
  exact ll_X9_readArray_2 (d + 1) (by omega) gx gs q r s1 (fun e => e = (r, s1)) (fun e he => he) pm_fu _ _ _ H rfl

def lb_X9_loadArray_50 (x : mo_S × Int32 × Int32 × Int32) : Option ((mo_S × Int32 × Int32 × Int32) ⊕ (Int32 × mo_S)) := match x with
  | (s, l1, l2, l3) =>
   (if 26 ≤ l3 then
    (match f_X9_begin s with
    | none => none
    | some s19 =>
     (match pm_inb 6 26 with
     | false => none
     | true =>
     some (.inr ((s19.2.2.1 0 (Int32.toNatClampNeg 6)), s19))))
   else
    (match pm_inb l3 26 with
    | false => none
    | true =>
    some (.inl ((mo_a s 0 l3 (s.2.2.1 1 (Int32.toNatClampNeg l3))), l1, l2, (l3 + 1)))))
def f_X9_loadArray (s : mo_S) (a0 : Int32) : Option (Int32 × mo_S) :=
  (match f_X9_in (mo_i s 2 0) a0 0 ((mo_i s 2 0).1 8) with
  | none => none
  | some r1 =>
   (if r1 = 0 then
    (match f_X9_refuse (mo_i s 2 0) 1 with
    | none => none
    | some (r4, s5) =>
     some (r4, s5))
   else
    (match f_X9_startText (mo_i s 2 0) a0 with
    | none => none
    | some s7 =>
     (match f_X9_readArray s7 with
     | none => none
     | some (r9, s10) =>
      (if r9 = 0 then
       (match f_X9_refuse (mo_i s10 8 0) 2 with
       | none => none
       | some (r13, s14) =>
        some (r13, s14))
      else
       (pm_loop pm_fu lb_X9_loadArray_50 ((mo_i s10 8 0), a0, r9, 0)))))))
def tb_X9_loadArray : List pm_I := [(0, .aload_n 0, 0, 0), (1, .iconst 0, 2, 0), (2, .putfield 45, 161, 0), (5, .iload_n 1, 0, 0), (6, .iconst 0, 2, 0), (7, .aload_n 0, 0, 0), (8, .getfield 66, 167, 0), (11, .invokestatic 59, 233, 0), (14, .ifCond .ne 9, 23, 0), (17, .aload_n 0, 0, 0), (18, .iconst 1, 3, 0), (19, .invokevirtual 69, 227, 0), (22, .ireturn, 0, 0), (23, .aload_n 0, 0, 0), (24, .iload_n 1, 0, 0), (25, .invokevirtual 179, 234, 0), (28, .aload_n 0, 0, 0), (29, .invokevirtual 182, 235, 0), (32, .istore_n 2, 0, 0), (33, .aload_n 0, 0, 0), (34, .iconst 0, 2, 0), (35, .putfield 66, 167, 0), (38, .iload_n 2, 0, 0), (39, .ifCond .ne 9, 48, 0), (42, .aload_n 0, 0, 0), (43, .iconst 2, 4, 0), (44, .invokevirtual 69, 227, 0), (47, .ireturn, 0, 0), (48, .iconst 0, 2, 0), (49, .istore_n 3, 0, 0), (50, .iload_n 3, 0, 0), (51, .bipush 26, 17, 0), (53, .if_icmp .ge 21, 74, 0), (56, .aload_n 0, 0, 0), (57, .getfield 7, 159, 0), (60, .iload_n 3, 0, 0), (61, .aload_n 0, 0, 0), (62, .getfield 13, 160, 0), (65, .iload_n 3, 0, 0), (66, .iaload, 0, 0), (67, .iastore, 0, 0), (68, .iinc 3 1, 3, 0), (71, .goto (-21), 50, 0), (74, .aload_n 0, 0, 0), (75, .invokevirtual 42, 224, 0), (78, .aload_n 0, 0, 0), (79, .getfield 7, 159, 0), (82, .bipush 6, 8, 0), (84, .iaload, 0, 0), (85, .ireturn, 0, 0)]
theorem tk_X9_loadArray : ∀ e ∈ tb_X9_loadArray, pm_ck 181 e = true := List.all_eq_true.mp (by decide +kernel)
set_option maxRecDepth 20000 in
set_option maxHeartbeats 40000000 in
theorem ll_X9_loadArray_50 (d : Nat) (hd : 8 ≤ d) (gx : List pm_E) (gs : List (List pm_E)) (q : Nat × Nat × Nat) (r : Int32) (s1 : mo_S) (P : Int32 × mo_S → Prop) (K0 : ∀ e : Int32 × mo_S, P (e) → e = (r, s1)) : ∀ (n : Nat) (s : mo_S) (l1 : Int32) (l2 : Int32) (l3 : Int32) (e : Int32 × mo_S), pm_loop n lb_X9_loadArray_50 (s, l1, l2, l3) = some e → P e → pm_Wg 181 d (.inl (some (.int r))) (mo_h gx s1 gs q) (50, [some (.ref 64), some (.int l1), some (.int l2), some (.int l3)], [], mo_h gx s gs q) := by
  intro n
  induction n with
  | zero => intro s l1 l2 l3 e H; cases H
  | succ n ih =>
    intro s l1 l2 l3 e H hPe
    obtain ⟨d, rfl⟩ : ∃ d', d = d' + 1 := ⟨d - 1, by omega⟩
    have H : pm_lst (pm_loop n lb_X9_loadArray_50) (lb_X9_loadArray_50 (s, l1, l2, l3)) = some e := H
    generalize pm_loop n lb_X9_loadArray_50 = LB at H ih
    unfold lb_X9_loadArray_50 at H
    try dsimp only at H
    by_cases h16 : 26 ≤ l3
    · rw [if_pos h16] at H
      cases q20 : f_X9_begin s with
      | none => rw [q20] at H; cases H
      | some s19 =>
       rw [q20] at H
       dsimp only at H
       refine pm_Wg.path (k := 4) (ds := [1]) (f' := (75, [some (.ref 64), some (.int l1), some (.int l2), some (.int l3)], [.ref 64], mo_h gx s gs q)) tk_X9_loadArray (by omega) rfl ⟨h16, trivial⟩ ?_
       refine pm_Wg.callV (m' := 148) (ix := 42) (rr := 224) (pl := 1407) (b := 64) (As := []) (S := []) (by decide) rfl (pm_dec tk_X9_loadArray rfl) rfl rfl (by decide) rfl rfl (by decide) (Nat.le_of_ble_eq_true rfl) rfl (e_X9_begin d (by omega) gx gs q _ _ q20) ?_
       cases b21 : pm_inb 6 26 with
       | false => rw [b21] at H; cases H
       | true =>
        rw [b21] at H
        dsimp only at H
        have He := Option.some.inj H
        subst He
        have H := K0 _ hPe
        injection H with H1 H2
        subst H1
        subst H2
        refine pm_Wg.path (k := 4) (ds := []) (f' := (85, [some (.ref 64), some (.int l1), some (.int l2), some (.int l3)], [.int (s19.2.2.1 0 (Int32.toNatClampNeg 6))], mo_h gx s19 gs q)) tk_X9_loadArray (by omega) rfl ⟨pm_inb_vp b21, trivial⟩ ?_
        exact pm_Wg.iret (pm_dec tk_X9_loadArray rfl) rfl rfl
    · rw [if_neg h16] at H
      cases b17 : pm_inb l3 26 with
      | false => rw [b17] at H; cases H
      | true =>
       rw [b17] at H
       dsimp only at H
       refine pm_Wg.path (k := 13) (ds := [0]) (f' := (50, [some (.ref 64), some (.int l1), some (.int l2), some (.int (l3 + 1))], [], mo_h gx (mo_a s 0 l3 (s.2.2.1 1 (Int32.toNatClampNeg l3))) gs q)) tk_X9_loadArray (by omega) rfl ⟨pm_inb_vp b17, pm_inb_vp b17, h16, trivial⟩ ?_
       exact ih _ _ _ _ e H hPe
set_option maxRecDepth 20000 in
set_option maxHeartbeats 20000000 in
theorem e_X9_loadArray (d : Nat) (hd : 8 ≤ d) (gx : List pm_E) (gs : List (List pm_E)) (q : Nat × Nat × Nat) (s : mo_S) (a0 : Int32) (r : Int32) (s1 : mo_S) (H : f_X9_loadArray s a0 = some (r, s1)) : pm_Mt 181 d [.ref 64, .int a0] (mo_h gx s gs q) (.inl (some (.int r))) (mo_h gx s1 gs q) := by
  refine pm_Mt.of (by decide) (by decide +kernel) rfl rfl ?_
  obtain ⟨d, rfl⟩ : ∃ d', d = d' + 1 := ⟨d - 1, by omega⟩
  unfold f_X9_loadArray at H
  cases q2 : f_X9_in (mo_i s 2 0) a0 0 ((mo_i s 2 0).1 8) with
  | none => rw [q2] at H; cases H
  | some r1 =>
   rw [q2] at H
   dsimp only at H
   refine pm_Wg.path (k := 7) (ds := []) (f' := (11, [some (.ref 64), some (.int a0), none, none], [.int ((mo_i s 2 0).1 8), .int 0, .int a0], mo_h gx (mo_i s 2 0) gs q)) tk_X9_loadArray (by omega) rfl trivial ?_
   refine pm_Wg.callS (m' := 147) (ix := 59) (rr := 233) (pl := 1507) (As := [.int a0, .int 0, .int ((mo_i s 2 0).1 8)]) (S := []) (by decide) rfl (pm_dec tk_X9_loadArray rfl) rfl rfl rfl (Nat.le_of_ble_eq_true rfl) rfl (e_X9_in d (by omega) gx gs q _ _ _ _ _ q2) ?_
   by_cases h3 : r1 = 0
   · rw [if_pos h3] at H
     cases q6 : f_X9_refuse (mo_i s 2 0) 1 with
     | none => rw [q6] at H; cases H
     | some w =>
      obtain ⟨r4, s5⟩ := w
      rw [q6] at H
      dsimp only at H
      refine pm_Wg.path (k := 3) (ds := [0]) (f' := (19, [some (.ref 64), some (.int a0), none, none], [.int 1, .ref 64], mo_h gx (mo_i s 2 0) gs q)) tk_X9_loadArray (by omega) rfl ⟨h3, trivial⟩ ?_
      refine pm_Wg.callV (m' := 145) (ix := 69) (rr := 227) (pl := 1483) (b := 64) (As := [.int 1]) (S := []) (by decide) rfl (pm_dec tk_X9_loadArray rfl) rfl rfl (by decide) rfl rfl (by decide) (Nat.le_of_ble_eq_true rfl) rfl (e_X9_refuse d (by omega) gx gs q _ _ _ _ q6) ?_
      injection H with H
      injection H with H1 H2
      subst H1
      subst H2
      exact pm_Wg.iret (pm_dec tk_X9_loadArray rfl) rfl rfl
   · rw [if_neg h3] at H
     cases q8 : f_X9_startText (mo_i s 2 0) a0 with
     | none => rw [q8] at H; cases H
     | some s7 =>
      rw [q8] at H
      dsimp only at H
      refine pm_Wg.path (k := 3) (ds := [1]) (f' := (25, [some (.ref 64), some (.int a0), none, none], [.int a0, .ref 64], mo_h gx (mo_i s 2 0) gs q)) tk_X9_loadArray (by omega) rfl ⟨h3, trivial⟩ ?_
      refine pm_Wg.callV (m' := 176) (ix := 179) (rr := 234) (pl := 1510) (b := 64) (As := [.int a0]) (S := []) (by decide) rfl (pm_dec tk_X9_loadArray rfl) rfl rfl (by decide) rfl rfl (by decide) (Nat.le_of_ble_eq_true rfl) rfl (e_X9_startText d (by omega) gx gs q _ _ _ q8) ?_
      cases q11 : f_X9_readArray s7 with
      | none => rw [q11] at H; cases H
      | some w =>
       obtain ⟨r9, s10⟩ := w
       rw [q11] at H
       dsimp only at H
       refine pm_Wg.path (k := 1) (ds := []) (f' := (29, [some (.ref 64), some (.int a0), none, none], [.ref 64], mo_h gx s7 gs q)) tk_X9_loadArray (by omega) rfl trivial ?_
       refine pm_Wg.callV (m' := 180) (ix := 182) (rr := 235) (pl := 1514) (b := 64) (As := []) (S := []) (by decide) rfl (pm_dec tk_X9_loadArray rfl) rfl rfl (by decide) rfl rfl (by decide) (Nat.le_of_ble_eq_true rfl) rfl (e_X9_readArray d (by omega) gx gs q _ _ _ q11) ?_
       by_cases h12 : r9 = 0
       · rw [if_pos h12] at H
         cases q15 : f_X9_refuse (mo_i s10 8 0) 2 with
         | none => rw [q15] at H; cases H
         | some w =>
          obtain ⟨r13, s14⟩ := w
          rw [q15] at H
          dsimp only at H
          refine pm_Wg.path (k := 8) (ds := [0]) (f' := (44, [some (.ref 64), some (.int a0), some (.int r9), none], [.int 2, .ref 64], mo_h gx (mo_i s10 8 0) gs q)) tk_X9_loadArray (by omega) rfl ⟨h12, trivial⟩ ?_
          refine pm_Wg.callV (m' := 145) (ix := 69) (rr := 227) (pl := 1483) (b := 64) (As := [.int 2]) (S := []) (by decide) rfl (pm_dec tk_X9_loadArray rfl) rfl rfl (by decide) rfl rfl (by decide) (Nat.le_of_ble_eq_true rfl) rfl (e_X9_refuse d (by omega) gx gs q _ _ _ _ q15) ?_
          injection H with H
          injection H with H1 H2
          subst H1
          subst H2
          exact pm_Wg.iret (pm_dec tk_X9_loadArray rfl) rfl rfl
       · rw [if_neg h12] at H
         refine pm_Wg.path (k := 8) (ds := [1]) (f' := (50, [some (.ref 64), some (.int a0), some (.int r9), some (.int 0)], [], mo_h gx (mo_i s10 8 0) gs q)) tk_X9_loadArray (by omega) rfl ⟨h12, trivial⟩ ?_
         exact ll_X9_loadArray_50 (d + 1) (by omega) gx gs q r s1 (fun e => e = (r, s1)) (fun e he => he) pm_fu _ _ _ _ _ H rfl

def fc_X9_readLine_c2 (s : mo_S) (l1 : Int32) (l2 : Int32) (k0 : Int32) : Option (Int32 × mo_S) :=
  (match f_X9_readSemicolon (mo_i s 20 k0) with
  | none => none
  | some (r64, s65) =>
   (if r64 &&& 1 = r64 then some (r64, s65) else none))
def fc_X9_readLine_c1 (s : mo_S) (l1 : Int32) (l2 : Int32) (k0 : Int32) (k1 : Int32) : Option (Int32 × mo_S) :=
  (match pm_inb k1 500 with
  | false => none
  | true =>
  (match f_X9_peek (mo_a s 18 k1 k0) with
  | none => none
  | some (r44, s45) =>
   (match f_X9_isLetter s45 r44 with
   | none => none
   | some r47 =>
    (if r47 = 0 then
     (match f_X9_readSemicolon (mo_i s45 20 ((s45.1 20) + 1)) with
     | none => none
     | some (r50, s51) =>
      (if r50 &&& 1 = r50 then some (r50, s51) else none))
    else
     (match f_X9_takesWord s45 89 with
     | none => none
     | some (r54, s55) =>
      (if r54 = 0 then
       some (0, s55)
      else
       (match pm_inb l1 500 with
       | false => none
       | true =>
       (match f_X9_readNumber s55 (s55.2.2.1 18 (Int32.toNatClampNeg l1)) 99999 with
       | none => none
       | some (r59, s60) =>
        (if r59 = 0 then
         some (0, s60)
        else
         (match pm_inb (l1 + 4) 500 with
         | false => none
         | true =>
         (fc_X9_readLine_c2 (mo_a s60 18 (l1 + 4) (s60.1 13)) l1 l2 (((mo_a s60 18 (l1 + 4) (s60.1 13)).1 20) + 1))))))))))))
def fc_X9_readLine_c4 (s : mo_S) (l1 : Int32) (l2 : Int32) (k0 : Int32) : Option (Int32 × mo_S) :=
  (match f_X9_readSemicolon (mo_i s 20 k0) with
  | none => none
  | some (r98, s99) =>
   (if r98 &&& 1 = r98 then some (r98, s99) else none))
def fc_X9_readLine_c3 (s : mo_S) (l1 : Int32) (l2 : Int32) (k0 : Int32) (k1 : Int32) : Option (Int32 × mo_S) :=
  (match pm_inb k1 500 with
  | false => none
  | true =>
  (match f_X9_peek (mo_a s 18 k1 k0) with
  | none => none
  | some (r78, s79) =>
   (match f_X9_isLetter s79 r78 with
   | none => none
   | some r81 =>
    (if r81 = 0 then
     (match f_X9_readSemicolon (mo_i s79 20 ((s79.1 20) + 1)) with
     | none => none
     | some (r84, s85) =>
      (if r84 &&& 1 = r84 then some (r84, s85) else none))
    else
     (match f_X9_takesWord s79 89 with
     | none => none
     | some (r88, s89) =>
      (if r88 = 0 then
       some (0, s89)
      else
       (match pm_inb l1 500 with
       | false => none
       | true =>
       (match f_X9_readNumber s89 (s89.2.2.1 18 (Int32.toNatClampNeg l1)) 99999 with
       | none => none
       | some (r93, s94) =>
        (if r93 = 0 then
         some (0, s94)
        else
         (match pm_inb (l1 + 4) 500 with
         | false => none
         | true =>
         (fc_X9_readLine_c4 (mo_a s94 18 (l1 + 4) (s94.1 13)) l1 l2 (((mo_a s94 18 (l1 + 4) (s94.1 13)).1 20) + 1))))))))))))
def fc_X9_readLine_c6 (s : mo_S) (l1 : Int32) (l2 : Int32) (k0 : Int32) : Option (Int32 × mo_S) :=
  (match f_X9_readSemicolon (mo_i s 20 k0) with
  | none => none
  | some (r132, s133) =>
   (if r132 &&& 1 = r132 then some (r132, s133) else none))
def fc_X9_readLine_c5 (s : mo_S) (l1 : Int32) (l2 : Int32) (k0 : Int32) (k1 : Int32) : Option (Int32 × mo_S) :=
  (match pm_inb k1 500 with
  | false => none
  | true =>
  (match f_X9_peek (mo_a s 18 k1 k0) with
  | none => none
  | some (r112, s113) =>
   (match f_X9_isLetter s113 r112 with
   | none => none
   | some r115 =>
    (if r115 = 0 then
     (match f_X9_readSemicolon (mo_i s113 20 ((s113.1 20) + 1)) with
     | none => none
     | some (r118, s119) =>
      (if r118 &&& 1 = r118 then some (r118, s119) else none))
    else
     (match f_X9_takesWord s113 89 with
     | none => none
     | some (r122, s123) =>
      (if r122 = 0 then
       some (0, s123)
      else
       (match pm_inb l1 500 with
       | false => none
       | true =>
       (match f_X9_readNumber s123 (s123.2.2.1 18 (Int32.toNatClampNeg l1)) 99999 with
       | none => none
       | some (r127, s128) =>
        (if r127 = 0 then
         some (0, s128)
        else
         (match pm_inb (l1 + 4) 500 with
         | false => none
         | true =>
         (fc_X9_readLine_c6 (mo_a s128 18 (l1 + 4) (s128.1 13)) l1 l2 (((mo_a s128 18 (l1 + 4) (s128.1 13)).1 20) + 1))))))))))))
def fc_X9_readLine_c8 (s : mo_S) (l1 : Int32) (l2 : Int32) (k0 : Int32) : Option (Int32 × mo_S) :=
  (match f_X9_readSemicolon (mo_i s 20 k0) with
  | none => none
  | some (r166, s167) =>
   (if r166 &&& 1 = r166 then some (r166, s167) else none))
def fc_X9_readLine_c7 (s : mo_S) (l1 : Int32) (l2 : Int32) (k0 : Int32) (k1 : Int32) : Option (Int32 × mo_S) :=
  (match pm_inb k1 500 with
  | false => none
  | true =>
  (match f_X9_peek (mo_a s 18 k1 k0) with
  | none => none
  | some (r146, s147) =>
   (match f_X9_isLetter s147 r146 with
   | none => none
   | some r149 =>
    (if r149 = 0 then
     (match f_X9_readSemicolon (mo_i s147 20 ((s147.1 20) + 1)) with
     | none => none
     | some (r152, s153) =>
      (if r152 &&& 1 = r152 then some (r152, s153) else none))
    else
     (match f_X9_takesWord s147 89 with
     | none => none
     | some (r156, s157) =>
      (if r156 = 0 then
       some (0, s157)
      else
       (match pm_inb l1 500 with
       | false => none
       | true =>
       (match f_X9_readNumber s157 (s157.2.2.1 18 (Int32.toNatClampNeg l1)) 99999 with
       | none => none
       | some (r161, s162) =>
        (if r161 = 0 then
         some (0, s162)
        else
         (match pm_inb (l1 + 4) 500 with
         | false => none
         | true =>
         (fc_X9_readLine_c8 (mo_a s162 18 (l1 + 4) (s162.1 13)) l1 l2 (((mo_a s162 18 (l1 + 4) (s162.1 13)).1 20) + 1))))))))))))
def fc_X9_readLine_c10 (s : mo_S) (l1 : Int32) (l2 : Int32) (k0 : Int32) : Option (Int32 × mo_S) :=
  (match f_X9_readSemicolon (mo_i s 20 k0) with
  | none => none
  | some (r227, s228) =>
   (if r227 &&& 1 = r227 then some (r227, s228) else none))
def fc_X9_readLine_c9 (s : mo_S) (l1 : Int32) (l2 : Int32) (k0 : Int32) (k1 : Int32) : Option (Int32 × mo_S) :=
  (match pm_inb k1 500 with
  | false => none
  | true =>
  (match f_X9_peek (mo_a s 18 k1 k0) with
  | none => none
  | some (r207, s208) =>
   (match f_X9_isLetter s208 r207 with
   | none => none
   | some r210 =>
    (if r210 = 0 then
     (match f_X9_readSemicolon (mo_i s208 20 ((s208.1 20) + 1)) with
     | none => none
     | some (r213, s214) =>
      (if r213 &&& 1 = r213 then some (r213, s214) else none))
    else
     (match f_X9_takesWord s208 89 with
     | none => none
     | some (r217, s218) =>
      (if r217 = 0 then
       some (0, s218)
      else
       (match pm_inb l1 500 with
       | false => none
       | true =>
       (match f_X9_readNumber s218 (s218.2.2.1 18 (Int32.toNatClampNeg l1)) 99999 with
       | none => none
       | some (r222, s223) =>
        (if r222 = 0 then
         some (0, s223)
        else
         (match pm_inb (l1 + 4) 500 with
         | false => none
         | true =>
         (fc_X9_readLine_c10 (mo_a s223 18 (l1 + 4) (s223.1 13)) l1 l2 (((mo_a s223 18 (l1 + 4) (s223.1 13)).1 20) + 1))))))))))))
def fc_X9_readLine_c12 (s : mo_S) (l1 : Int32) (l2 : Int32) (k0 : Int32) : Option (Int32 × mo_S) :=
  (match f_X9_readSemicolon (mo_i s 20 k0) with
  | none => none
  | some (r261, s262) =>
   (if r261 &&& 1 = r261 then some (r261, s262) else none))
def fc_X9_readLine_c11 (s : mo_S) (l1 : Int32) (l2 : Int32) (k0 : Int32) (k1 : Int32) : Option (Int32 × mo_S) :=
  (match pm_inb k1 500 with
  | false => none
  | true =>
  (match f_X9_peek (mo_a s 18 k1 k0) with
  | none => none
  | some (r241, s242) =>
   (match f_X9_isLetter s242 r241 with
   | none => none
   | some r244 =>
    (if r244 = 0 then
     (match f_X9_readSemicolon (mo_i s242 20 ((s242.1 20) + 1)) with
     | none => none
     | some (r247, s248) =>
      (if r247 &&& 1 = r247 then some (r247, s248) else none))
    else
     (match f_X9_takesWord s242 89 with
     | none => none
     | some (r251, s252) =>
      (if r251 = 0 then
       some (0, s252)
      else
       (match pm_inb l1 500 with
       | false => none
       | true =>
       (match f_X9_readNumber s252 (s252.2.2.1 18 (Int32.toNatClampNeg l1)) 99999 with
       | none => none
       | some (r256, s257) =>
        (if r256 = 0 then
         some (0, s257)
        else
         (match pm_inb (l1 + 4) 500 with
         | false => none
         | true =>
         (fc_X9_readLine_c12 (mo_a s257 18 (l1 + 4) (s257.1 13)) l1 l2 (((mo_a s257 18 (l1 + 4) (s257.1 13)).1 20) + 1))))))))))))
def fc_X9_readLine_c14 (s : mo_S) (l1 : Int32) (l2 : Int32) (k0 : Int32) : Option (Int32 × mo_S) :=
  (match f_X9_readSemicolon (mo_i s 20 k0) with
  | none => none
  | some (r295, s296) =>
   (if r295 &&& 1 = r295 then some (r295, s296) else none))
def fc_X9_readLine_c13 (s : mo_S) (l1 : Int32) (l2 : Int32) (k0 : Int32) (k1 : Int32) : Option (Int32 × mo_S) :=
  (match pm_inb k1 500 with
  | false => none
  | true =>
  (match f_X9_peek (mo_a s 18 k1 k0) with
  | none => none
  | some (r275, s276) =>
   (match f_X9_isLetter s276 r275 with
   | none => none
   | some r278 =>
    (if r278 = 0 then
     (match f_X9_readSemicolon (mo_i s276 20 ((s276.1 20) + 1)) with
     | none => none
     | some (r281, s282) =>
      (if r281 &&& 1 = r281 then some (r281, s282) else none))
    else
     (match f_X9_takesWord s276 89 with
     | none => none
     | some (r285, s286) =>
      (if r285 = 0 then
       some (0, s286)
      else
       (match pm_inb l1 500 with
       | false => none
       | true =>
       (match f_X9_readNumber s286 (s286.2.2.1 18 (Int32.toNatClampNeg l1)) 99999 with
       | none => none
       | some (r290, s291) =>
        (if r290 = 0 then
         some (0, s291)
        else
         (match pm_inb (l1 + 4) 500 with
         | false => none
         | true =>
         (fc_X9_readLine_c14 (mo_a s291 18 (l1 + 4) (s291.1 13)) l1 l2 (((mo_a s291 18 (l1 + 4) (s291.1 13)).1 20) + 1))))))))))))
def fc_X9_readLine_c16 (s : mo_S) (l1 : Int32) (l2 : Int32) (k0 : Int32) : Option (Int32 × mo_S) :=
  (match f_X9_readSemicolon (mo_i s 20 k0) with
  | none => none
  | some (r329, s330) =>
   (if r329 &&& 1 = r329 then some (r329, s330) else none))
def fc_X9_readLine_c15 (s : mo_S) (l1 : Int32) (l2 : Int32) (k0 : Int32) (k1 : Int32) : Option (Int32 × mo_S) :=
  (match pm_inb k1 500 with
  | false => none
  | true =>
  (match f_X9_peek (mo_a s 18 k1 k0) with
  | none => none
  | some (r309, s310) =>
   (match f_X9_isLetter s310 r309 with
   | none => none
   | some r312 =>
    (if r312 = 0 then
     (match f_X9_readSemicolon (mo_i s310 20 ((s310.1 20) + 1)) with
     | none => none
     | some (r315, s316) =>
      (if r315 &&& 1 = r315 then some (r315, s316) else none))
    else
     (match f_X9_takesWord s310 89 with
     | none => none
     | some (r319, s320) =>
      (if r319 = 0 then
       some (0, s320)
      else
       (match pm_inb l1 500 with
       | false => none
       | true =>
       (match f_X9_readNumber s320 (s320.2.2.1 18 (Int32.toNatClampNeg l1)) 99999 with
       | none => none
       | some (r324, s325) =>
        (if r324 = 0 then
         some (0, s325)
        else
         (match pm_inb (l1 + 4) 500 with
         | false => none
         | true =>
         (fc_X9_readLine_c16 (mo_a s325 18 (l1 + 4) (s325.1 13)) l1 l2 (((mo_a s325 18 (l1 + 4) (s325.1 13)).1 20) + 1))))))))))))
def f_X9_readLine (s : mo_S) : Option (Int32 × mo_S) :=
  (if (s.1 20) = 100 then
   (match f_X9_fails s 3 (s.1 12) with
   | none => none
   | some (r2, s3) =>
    (if r2 &&& 1 = r2 then some (r2, s3) else none))
  else
   (match f_X9_passWord s with
   | none => none
   | some s6 =>
    (if (s6.1 20) = 0 then
     (match pm_inb 0 18186 with
     | false => none
     | true =>
     (match f_X9_readNumber s6 ((s6.2.2.1 3 (Int32.toNatClampNeg 0)) + 1) 99999 with
     | none => none
     | some (r11, s12) =>
      (if r11 = 0 then
       some (0, s12)
      else
       (match pm_inb (5 * (s6.1 20)) 500 with
       | false => none
       | true =>
       (match pm_inb 6 26 with
       | false => none
       | true =>
       (match f_X9_readNumber (mo_a s12 18 (5 * (s6.1 20)) (s12.1 13)) 1 (((mo_a s12 18 (5 * (s6.1 20)) (s12.1 13)).2.2.1 0 (Int32.toNatClampNeg 6)) - 1) with
       | none => none
       | some (r17, s18) =>
        (if r17 = 0 then
         some (0, s18)
        else
         (match pm_inb ((5 * (s6.1 20)) + 1) 500 with
         | false => none
         | true =>
         (match f_X9_seesWord (mo_a s18 18 ((5 * (s6.1 20)) + 1) (s18.1 13)) with
         | none => none
         | some (r22, s23) =>
          (if r22 = 0 then
           some (0, s23)
          else
           (if (lg_cmp s23.2.1 19039379) = 0 then
            (if (lg_cmp s23.2.1 790941875) = 0 then
             (match pm_inb ((5 * (s6.1 20)) + 2) 500 with
             | false => none
             | true =>
             (match f_X9_passWord (mo_a s23 18 ((5 * (s6.1 20)) + 2) 1) with
             | none => none
             | some s34 =>
              (match f_X9_units s34 with
              | none => none
              | some r36 =>
               (match f_X9_readNumber s34 0 (r36 - 1) with
               | none => none
               | some (r38, s39) =>
                (if r38 = 0 then
                 some (0, s39)
                else
                 (match pm_inb ((5 * (s6.1 20)) + 3) 500 with
                 | false => none
                 | true =>
                 (fc_X9_readLine_c1 (mo_a s39 18 ((5 * (s6.1 20)) + 3) (s39.1 13)) (5 * (s6.1 20)) ((s6.2.2.1 3 (Int32.toNatClampNeg 0)) + 1) (-1) ((5 * (s6.1 20)) + 4))))))))
            else
             (match pm_inb ((5 * (s6.1 20)) + 2) 500 with
             | false => none
             | true =>
             (match f_X9_passWord (mo_a s23 18 ((5 * (s6.1 20)) + 2) 0) with
             | none => none
             | some s68 =>
              (match f_X9_units s68 with
              | none => none
              | some r70 =>
               (match f_X9_readNumber s68 0 (r70 - 1) with
               | none => none
               | some (r72, s73) =>
                (if r72 = 0 then
                 some (0, s73)
                else
                 (match pm_inb ((5 * (s6.1 20)) + 3) 500 with
                 | false => none
                 | true =>
                 (fc_X9_readLine_c3 (mo_a s73 18 ((5 * (s6.1 20)) + 3) (s73.1 13)) (5 * (s6.1 20)) ((s6.2.2.1 3 (Int32.toNatClampNeg 0)) + 1) (-1) ((5 * (s6.1 20)) + 4)))))))))
           else
            (if (lg_cmp s23.2.1 790941875) = 0 then
             (if (lg_cmp s23.2.1 790941875) = 0 then
              (match pm_inb ((5 * (s6.1 20)) + 2) 500 with
              | false => none
              | true =>
              (match f_X9_passWord (mo_a s23 18 ((5 * (s6.1 20)) + 2) 1) with
              | none => none
              | some s102 =>
               (match f_X9_units s102 with
               | none => none
               | some r104 =>
                (match f_X9_readNumber s102 0 (r104 - 1) with
                | none => none
                | some (r106, s107) =>
                 (if r106 = 0 then
                  some (0, s107)
                 else
                  (match pm_inb ((5 * (s6.1 20)) + 3) 500 with
                  | false => none
                  | true =>
                  (fc_X9_readLine_c5 (mo_a s107 18 ((5 * (s6.1 20)) + 3) (s107.1 13)) (5 * (s6.1 20)) ((s6.2.2.1 3 (Int32.toNatClampNeg 0)) + 1) (-1) ((5 * (s6.1 20)) + 4))))))))
             else
              (match pm_inb ((5 * (s6.1 20)) + 2) 500 with
              | false => none
              | true =>
              (match f_X9_passWord (mo_a s23 18 ((5 * (s6.1 20)) + 2) 0) with
              | none => none
              | some s136 =>
               (match f_X9_units s136 with
               | none => none
               | some r138 =>
                (match f_X9_readNumber s136 0 (r138 - 1) with
                | none => none
                | some (r140, s141) =>
                 (if r140 = 0 then
                  some (0, s141)
                 else
                  (match pm_inb ((5 * (s6.1 20)) + 3) 500 with
                  | false => none
                  | true =>
                  (fc_X9_readLine_c7 (mo_a s141 18 ((5 * (s6.1 20)) + 3) (s141.1 13)) (5 * (s6.1 20)) ((s6.2.2.1 3 (Int32.toNatClampNeg 0)) + 1) (-1) ((5 * (s6.1 20)) + 4)))))))))
            else
             (match f_X9_fails s23 1 (s23.1 12) with
             | none => none
             | some (r170, s171) =>
              (if r170 &&& 1 = r170 then some (r170, s171) else none))))))))))))))
    else
     (match pm_inb ((5 * (s6.1 20)) - 5) 500 with
     | false => none
     | true =>
     (match f_X9_readNumber s6 (s6.2.2.1 18 (Int32.toNatClampNeg ((5 * (s6.1 20)) - 5))) 99999 with
     | none => none
     | some (r174, s175) =>
      (if r174 = 0 then
       some (0, s175)
      else
       (match pm_inb (5 * (s6.1 20)) 500 with
       | false => none
       | true =>
       (match pm_inb 6 26 with
       | false => none
       | true =>
       (match f_X9_readNumber (mo_a s175 18 (5 * (s6.1 20)) (s175.1 13)) 1 (((mo_a s175 18 (5 * (s6.1 20)) (s175.1 13)).2.2.1 0 (Int32.toNatClampNeg 6)) - 1) with
       | none => none
       | some (r180, s181) =>
        (if r180 = 0 then
         some (0, s181)
        else
         (match pm_inb ((5 * (s6.1 20)) + 1) 500 with
         | false => none
         | true =>
         (match f_X9_seesWord (mo_a s181 18 ((5 * (s6.1 20)) + 1) (s181.1 13)) with
         | none => none
         | some (r185, s186) =>
          (if r185 = 0 then
           some (0, s186)
          else
           (if (lg_cmp s186.2.1 19039379) = 0 then
            (if (lg_cmp s186.2.1 790941875) = 0 then
             (match pm_inb ((5 * (s6.1 20)) + 2) 500 with
             | false => none
             | true =>
             (match f_X9_passWord (mo_a s186 18 ((5 * (s6.1 20)) + 2) 1) with
             | none => none
             | some s197 =>
              (match f_X9_units s197 with
              | none => none
              | some r199 =>
               (match f_X9_readNumber s197 0 (r199 - 1) with
               | none => none
               | some (r201, s202) =>
                (if r201 = 0 then
                 some (0, s202)
                else
                 (match pm_inb ((5 * (s6.1 20)) + 3) 500 with
                 | false => none
                 | true =>
                 (fc_X9_readLine_c9 (mo_a s202 18 ((5 * (s6.1 20)) + 3) (s202.1 13)) (5 * (s6.1 20)) (s6.2.2.1 18 (Int32.toNatClampNeg ((5 * (s6.1 20)) - 5))) (-1) ((5 * (s6.1 20)) + 4))))))))
            else
             (match pm_inb ((5 * (s6.1 20)) + 2) 500 with
             | false => none
             | true =>
             (match f_X9_passWord (mo_a s186 18 ((5 * (s6.1 20)) + 2) 0) with
             | none => none
             | some s231 =>
              (match f_X9_units s231 with
              | none => none
              | some r233 =>
               (match f_X9_readNumber s231 0 (r233 - 1) with
               | none => none
               | some (r235, s236) =>
                (if r235 = 0 then
                 some (0, s236)
                else
                 (match pm_inb ((5 * (s6.1 20)) + 3) 500 with
                 | false => none
                 | true =>
                 (fc_X9_readLine_c11 (mo_a s236 18 ((5 * (s6.1 20)) + 3) (s236.1 13)) (5 * (s6.1 20)) (s6.2.2.1 18 (Int32.toNatClampNeg ((5 * (s6.1 20)) - 5))) (-1) ((5 * (s6.1 20)) + 4)))))))))
           else
            (if (lg_cmp s186.2.1 790941875) = 0 then
             (if (lg_cmp s186.2.1 790941875) = 0 then
              (match pm_inb ((5 * (s6.1 20)) + 2) 500 with
              | false => none
              | true =>
              (match f_X9_passWord (mo_a s186 18 ((5 * (s6.1 20)) + 2) 1) with
              | none => none
              | some s265 =>
               (match f_X9_units s265 with
               | none => none
               | some r267 =>
                (match f_X9_readNumber s265 0 (r267 - 1) with
                | none => none
                | some (r269, s270) =>
                 (if r269 = 0 then
                  some (0, s270)
                 else
                  (match pm_inb ((5 * (s6.1 20)) + 3) 500 with
                  | false => none
                  | true =>
                  (fc_X9_readLine_c13 (mo_a s270 18 ((5 * (s6.1 20)) + 3) (s270.1 13)) (5 * (s6.1 20)) (s6.2.2.1 18 (Int32.toNatClampNeg ((5 * (s6.1 20)) - 5))) (-1) ((5 * (s6.1 20)) + 4))))))))
             else
              (match pm_inb ((5 * (s6.1 20)) + 2) 500 with
              | false => none
              | true =>
              (match f_X9_passWord (mo_a s186 18 ((5 * (s6.1 20)) + 2) 0) with
              | none => none
              | some s299 =>
               (match f_X9_units s299 with
               | none => none
               | some r301 =>
                (match f_X9_readNumber s299 0 (r301 - 1) with
                | none => none
                | some (r303, s304) =>
                 (if r303 = 0 then
                  some (0, s304)
                 else
                  (match pm_inb ((5 * (s6.1 20)) + 3) 500 with
                  | false => none
                  | true =>
                  (fc_X9_readLine_c15 (mo_a s304 18 ((5 * (s6.1 20)) + 3) (s304.1 13)) (5 * (s6.1 20)) (s6.2.2.1 18 (Int32.toNatClampNeg ((5 * (s6.1 20)) - 5))) (-1) ((5 * (s6.1 20)) + 4)))))))))
            else
             (match f_X9_fails s186 1 (s186.1 12) with
             | none => none
             | some (r333, s334) =>
              (if r333 &&& 1 = r333 then some (r333, s334) else none)))))))))))))))))
def tb_X9_readLine : List pm_I := [(0, .aload_n 0, 0, 0), (1, .getfield 185, 179, 0), (4, .bipush 100, 29, 0), (6, .if_icmp .ne 13, 19, 0), (9, .aload_n 0, 0, 0), (10, .iconst 3, 5, 0), (11, .aload_n 0, 0, 0), (12, .getfield 92, 171, 0), (15, .invokevirtual 105, 243, 0), (18, .ireturn, 0, 0), (19, .aload_n 0, 0, 0), (20, .invokevirtual 120, 244, 0), (23, .iconst 5, 7, 0), (24, .aload_n 0, 0, 0), (25, .getfield 185, 179, 0), (28, .imul, 0, 0), (29, .istore_n 1, 0, 0), (30, .aload_n 0, 0, 0), (31, .getfield 185, 179, 0), (34, .ifCond .ne 14, 48, 0), (37, .aload_n 0, 0, 0), (38, .getfield 16, 162, 0), (41, .iconst 0, 2, 0), (42, .iaload, 0, 0), (43, .iconst 1, 3, 0), (44, .iadd, 0, 0), (45, .goto 11, 56, 0), (48, .aload_n 0, 0, 0), (49, .getfield 39, 177, 0), (52, .iload_n 1, 0, 0), (53, .iconst 5, 7, 0), (54, .isub, 0, 0), (55, .iaload, 0, 0), (56, .istore_n 2, 0, 0), (57, .aload_n 0, 0, 0), (58, .iload_n 2, 0, 0), (59, .ldc 188, 7, 0), (61, .invokevirtual 129, 246, 0), (64, .ifCond .ne 5, 69, 0), (67, .iconst 0, 2, 0), (68, .ireturn, 0, 0), (69, .aload_n 0, 0, 0), (70, .getfield 39, 177, 0), (73, .iload_n 1, 0, 0), (74, .aload_n 0, 0, 0), (75, .getfield 126, 172, 0), (78, .iastore, 0, 0), (79, .aload_n 0, 0, 0), (80, .iconst 1, 3, 0), (81, .aload_n 0, 0, 0), (82, .getfield 7, 159, 0), (85, .bipush 6, 8, 0), (87, .iaload, 0, 0), (88, .iconst 1, 3, 0), (89, .isub, 0, 0), (90, .invokevirtual 129, 246, 0), (93, .ifCond .ne 5, 98, 0), (96, .iconst 0, 2, 0), (97, .ireturn, 0, 0), (98, .aload_n 0, 0, 0), (99, .getfield 39, 177, 0), (102, .iload_n 1, 0, 0), (103, .iconst 1, 3, 0), (104, .iadd, 0, 0), (105, .aload_n 0, 0, 0), (106, .getfield 126, 172, 0), (109, .iastore, 0, 0), (110, .aload_n 0, 0, 0), (111, .invokevirtual 117, 239, 0), (114, .ifCond .ne 5, 119, 0), (117, .iconst 0, 2, 0), (118, .ireturn, 0, 0), (119, .aload_n 0, 0, 0), (120, .getfield 109, 175, 0), (123, .ldc2_w 189, 17, 0), (126, .lcmp, 0, 0), (127, .ifCond .eq 24, 151, 0), (130, .aload_n 0, 0, 0), (131, .getfield 109, 175, 0), (134, .ldc2_w 191, 18, 0), (137, .lcmp, 0, 0), (138, .ifCond .eq 13, 151, 0), (141, .aload_n 0, 0, 0), (142, .iconst 1, 3, 0), (143, .aload_n 0, 0, 0), (144, .getfield 92, 171, 0), (147, .invokevirtual 105, 243, 0), (150, .ireturn, 0, 0), (151, .aload_n 0, 0, 0), (152, .getfield 39, 177, 0), (155, .iload_n 1, 0, 0), (156, .iconst 2, 4, 0), (157, .iadd, 0, 0), (158, .aload_n 0, 0, 0), (159, .getfield 109, 175, 0), (162, .ldc2_w 191, 18, 0), (165, .lcmp, 0, 0), (166, .ifCond .ne 7, 173, 0), (169, .iconst 1, 3, 0), (170, .goto 4, 174, 0), (173, .iconst 0, 2, 0), (174, .iastore, 0, 0), (175, .aload_n 0, 0, 0), (176, .invokevirtual 120, 244, 0), (179, .aload_n 0, 0, 0), (180, .iconst 0, 2, 0), (181, .aload_n 0, 0, 0), (182, .invokevirtual 63, 257, 0), (185, .iconst 1, 3, 0), (186, .isub, 0, 0), (187, .invokevirtual 129, 246, 0), (190, .ifCond .ne 5, 195, 0), (193, .iconst 0, 2, 0), (194, .ireturn, 0, 0), (195, .aload_n 0, 0, 0), (196, .getfield 39, 177, 0), (199, .iload_n 1, 0, 0), (200, .iconst 3, 5, 0), (201, .iadd, 0, 0), (202, .aload_n 0, 0, 0), (203, .getfield 126, 172, 0), (206, .iastore, 0, 0), (207, .aload_n 0, 0, 0), (208, .getfield 39, 177, 0), (211, .iload_n 1, 0, 0), (212, .iconst 4, 6, 0), (213, .iadd, 0, 0), (214, .iconst (-1), 1, 0), (215, .iastore, 0, 0), (216, .aload_n 0, 0, 0), (217, .invokevirtual 95, 240, 0), (220, .invokestatic 98, 242, 0), (223, .ifCond .eq 42, 265, 0), (226, .aload_n 0, 0, 0), (227, .ldc2_w 193, 19, 0), (230, .invokevirtual 132, 238, 0), (233, .ifCond .eq 18, 251, 0), (236, .aload_n 0, 0, 0), (237, .aload_n 0, 0, 0), (238, .getfield 39, 177, 0), (241, .iload_n 1, 0, 0), (242, .iaload, 0, 0), (243, .ldc 188, 7, 0), (245, .invokevirtual 129, 246, 0), (248, .ifCond .ne 5, 253, 0), (251, .iconst 0, 2, 0), (252, .ireturn, 0, 0), (253, .aload_n 0, 0, 0), (254, .getfield 39, 177, 0), (257, .iload_n 1, 0, 0), (258, .iconst 4, 6, 0), (259, .iadd, 0, 0), (260, .aload_n 0, 0, 0), (261, .getfield 126, 172, 0), (264, .iastore, 0, 0), (265, .aload_n 0, 0, 0), (266, .aload_n 0, 0, 0), (267, .getfield 185, 179, 0), (270, .iconst 1, 3, 0), (271, .iadd, 0, 0), (272, .putfield 185, 179, 0), (275, .aload_n 0, 0, 0), (276, .invokevirtual 154, 248, 0), (279, .ireturn, 0, 0)]
theorem tk_X9_readLine : ∀ e ∈ tb_X9_readLine, pm_ck 182 e = true := List.all_eq_true.mp (by decide +kernel)
set_option maxRecDepth 20000 in
set_option maxHeartbeats 20000000 in
theorem ec_X9_readLine_c2 (d : Nat) (hd : 5 ≤ d) (gx : List pm_E) (gs : List (List pm_E)) (q : Nat × Nat × Nat) (s : mo_S) (l1 : Int32) (l2 : Int32) (k0 : Int32) (r : Int32) (s1 : mo_S) (H : fc_X9_readLine_c2 s l1 l2 k0 = some (r, s1)) : pm_Wg 182 d (.inl (some (.int r))) (mo_h gx s1 gs q) (272, [some (.ref 64), some (.int l1), some (.int l2)], [.int k0, .ref 64], mo_h gx s gs q) := by
  obtain ⟨d, rfl⟩ : ∃ d', d = d' + 1 := ⟨d - 1, by omega⟩
  unfold fc_X9_readLine_c2 at H
  try dsimp only at H
  cases q66 : f_X9_readSemicolon (mo_i s 20 k0) with
  | none => rw [q66] at H; cases H
  | some w =>
   obtain ⟨r64, s65⟩ := w
   rw [q66] at H
   dsimp only at H
   refine pm_Wg.path (k := 2) (ds := []) (f' := (276, [some (.ref 64), some (.int l1), some (.int l2)], [.ref 64], mo_h gx (mo_i s 20 k0) gs q)) tk_X9_readLine (by omega) rfl trivial ?_
   refine pm_Wg.callV (m' := 173) (ix := 154) (rr := 248) (pl := 1570) (b := 64) (As := []) (S := []) (by decide) rfl (pm_dec tk_X9_readLine rfl) rfl rfl (by decide) rfl rfl (by decide) (Nat.le_of_ble_eq_true rfl) rfl (e_X9_readSemicolon d (by omega) gx gs q _ _ _ q66) ?_
   by_cases z67 : r64 &&& 1 = r64
   case neg => rw [if_neg z67] at H; cases H
   rw [if_pos z67] at H
   injection H with H
   injection H with H1 H2
   subst H1
   subst H2
   exact pm_Wg.iret (pm_dec tk_X9_readLine rfl) rfl (pm_nb1 z67)
set_option maxRecDepth 20000 in
set_option maxHeartbeats 20000000 in
theorem ec_X9_readLine_c1 (d : Nat) (hd : 5 ≤ d) (gx : List pm_E) (gs : List (List pm_E)) (q : Nat × Nat × Nat) (s : mo_S) (l1 : Int32) (l2 : Int32) (k0 : Int32) (k1 : Int32) (r : Int32) (s1 : mo_S) (H : fc_X9_readLine_c1 s l1 l2 k0 k1 = some (r, s1)) : pm_Wg 182 d (.inl (some (.int r))) (mo_h gx s1 gs q) (215, [some (.ref 64), some (.int l1), some (.int l2)], [.int k0, .int k1, .ref 73], mo_h gx s gs q) := by
  obtain ⟨d, rfl⟩ : ∃ d', d = d' + 1 := ⟨d - 1, by omega⟩
  unfold fc_X9_readLine_c1 at H
  try dsimp only at H
  cases b43 : pm_inb k1 500 with
  | false => rw [b43] at H; cases H
  | true =>
   rw [b43] at H
   dsimp only at H
   cases q46 : f_X9_peek (mo_a s 18 k1 k0) with
   | none => rw [q46] at H; cases H
   | some w =>
    obtain ⟨r44, s45⟩ := w
    rw [q46] at H
    dsimp only at H
    refine pm_Wg.path (k := 2) (ds := []) (f' := (217, [some (.ref 64), some (.int l1), some (.int l2)], [.ref 64], mo_h gx (mo_a s 18 k1 k0) gs q)) tk_X9_readLine (by omega) rfl ⟨pm_inb_vp b43, trivial⟩ ?_
    refine pm_Wg.callV (m' := 165) (ix := 95) (rr := 240) (pl := 1535) (b := 64) (As := []) (S := []) (by decide) rfl (pm_dec tk_X9_readLine rfl) rfl rfl (by decide) rfl rfl (by decide) (Nat.le_of_ble_eq_true rfl) rfl (e_X9_peek d (by omega) gx gs q _ _ _ q46) ?_
    cases q48 : f_X9_isLetter s45 r44 with
    | none => rw [q48] at H; cases H
    | some r47 =>
     rw [q48] at H
     dsimp only at H
     refine pm_Wg.callS (m' := 163) (ix := 98) (rr := 242) (pl := 1543) (As := [.int r44]) (S := []) (by decide) rfl (pm_dec tk_X9_readLine rfl) rfl rfl rfl (Nat.le_of_ble_eq_true rfl) rfl (e_X9_isLetter d (by omega) gx gs q _ _ _ q48) ?_
     by_cases h49 : r47 = 0
     · rw [if_pos h49] at H
       cases q52 : f_X9_readSemicolon (mo_i s45 20 ((s45.1 20) + 1)) with
       | none => rw [q52] at H; cases H
       | some w =>
        obtain ⟨r50, s51⟩ := w
        rw [q52] at H
        dsimp only at H
        refine pm_Wg.path (k := 8) (ds := [1]) (f' := (276, [some (.ref 64), some (.int l1), some (.int l2)], [.ref 64], mo_h gx (mo_i s45 20 ((s45.1 20) + 1)) gs q)) tk_X9_readLine (by omega) rfl ⟨h49, trivial⟩ ?_
        refine pm_Wg.callV (m' := 173) (ix := 154) (rr := 248) (pl := 1570) (b := 64) (As := []) (S := []) (by decide) rfl (pm_dec tk_X9_readLine rfl) rfl rfl (by decide) rfl rfl (by decide) (Nat.le_of_ble_eq_true rfl) rfl (e_X9_readSemicolon d (by omega) gx gs q _ _ _ q52) ?_
        by_cases z53 : r50 &&& 1 = r50
        case neg => rw [if_neg z53] at H; cases H
        rw [if_pos z53] at H
        injection H with H
        injection H with H1 H2
        subst H1
        subst H2
        exact pm_Wg.iret (pm_dec tk_X9_readLine rfl) rfl (pm_nb1 z53)
     · rw [if_neg h49] at H
       cases q56 : f_X9_takesWord s45 89 with
       | none => rw [q56] at H; cases H
       | some w =>
        obtain ⟨r54, s55⟩ := w
        rw [q56] at H
        dsimp only at H
        refine pm_Wg.path (k := 3) (ds := [0]) (f' := (230, [some (.ref 64), some (.int l1), some (.int l2)], [.long 89, .ref 64], mo_h gx s45 gs q)) tk_X9_readLine (by omega) rfl ⟨h49, trivial⟩ ?_
        refine pm_Wg.callV (m' := 169) (ix := 132) (rr := 238) (pl := 1527) (b := 64) (As := [.long 89]) (S := []) (by decide) rfl (pm_dec tk_X9_readLine rfl) rfl rfl (by decide) rfl rfl (by decide) (Nat.le_of_ble_eq_true rfl) rfl (e_X9_takesWord d (by omega) gx gs q _ _ _ _ q56) ?_
        by_cases h57 : r54 = 0
        · rw [if_pos h57] at H
          injection H with H
          injection H with H1 H2
          subst H1
          subst H2
          refine pm_Wg.path (k := 2) (ds := [1]) (f' := (252, [some (.ref 64), some (.int l1), some (.int l2)], [.int 0], mo_h gx s55 gs q)) tk_X9_readLine (by omega) rfl ⟨h57, trivial⟩ ?_
          exact pm_Wg.iret (pm_dec tk_X9_readLine rfl) rfl rfl
        · rw [if_neg h57] at H
          cases b58 : pm_inb l1 500 with
          | false => rw [b58] at H; cases H
          | true =>
           rw [b58] at H
           dsimp only at H
           cases q61 : f_X9_readNumber s55 (s55.2.2.1 18 (Int32.toNatClampNeg l1)) 99999 with
           | none => rw [q61] at H; cases H
           | some w =>
            obtain ⟨r59, s60⟩ := w
            rw [q61] at H
            dsimp only at H
            refine pm_Wg.path (k := 7) (ds := [0]) (f' := (245, [some (.ref 64), some (.int l1), some (.int l2)], [.int 99999, .int (s55.2.2.1 18 (Int32.toNatClampNeg l1)), .ref 64], mo_h gx s55 gs q)) tk_X9_readLine (by omega) rfl ⟨pm_inb_vp b58, h57, trivial⟩ ?_
            refine pm_Wg.callV (m' := 170) (ix := 129) (rr := 246) (pl := 1560) (b := 64) (As := [.int (s55.2.2.1 18 (Int32.toNatClampNeg l1)), .int 99999]) (S := []) (by decide) rfl (pm_dec tk_X9_readLine rfl) rfl rfl (by decide) rfl rfl (by decide) (Nat.le_of_ble_eq_true rfl) rfl (e_X9_readNumber d (by omega) gx gs q _ _ _ _ _ q61) ?_
            by_cases h62 : r59 = 0
            · rw [if_pos h62] at H
              injection H with H
              injection H with H1 H2
              subst H1
              subst H2
              refine pm_Wg.path (k := 2) (ds := [0]) (f' := (252, [some (.ref 64), some (.int l1), some (.int l2)], [.int 0], mo_h gx s60 gs q)) tk_X9_readLine (by omega) rfl ⟨h62, trivial⟩ ?_
              exact pm_Wg.iret (pm_dec tk_X9_readLine rfl) rfl rfl
            · rw [if_neg h62] at H
              cases b63 : pm_inb (l1 + 4) 500 with
              | false => rw [b63] at H; cases H
              | true =>
               rw [b63] at H
               dsimp only at H
               refine pm_Wg.path (k := 14) (ds := [1]) (f' := (272, [some (.ref 64), some (.int l1), some (.int l2)], [.int (((mo_a s60 18 (l1 + 4) (s60.1 13)).1 20) + 1), .ref 64], mo_h gx (mo_a s60 18 (l1 + 4) (s60.1 13)) gs q)) tk_X9_readLine (by omega) rfl ⟨pm_inb_vp b63, h62, trivial⟩ ?_
               exact ec_X9_readLine_c2 (d + 1) (by omega) gx gs q _ _ _ _ _ _ H
set_option maxRecDepth 20000 in
set_option maxHeartbeats 20000000 in
theorem ec_X9_readLine_c4 (d : Nat) (hd : 5 ≤ d) (gx : List pm_E) (gs : List (List pm_E)) (q : Nat × Nat × Nat) (s : mo_S) (l1 : Int32) (l2 : Int32) (k0 : Int32) (r : Int32) (s1 : mo_S) (H : fc_X9_readLine_c4 s l1 l2 k0 = some (r, s1)) : pm_Wg 182 d (.inl (some (.int r))) (mo_h gx s1 gs q) (272, [some (.ref 64), some (.int l1), some (.int l2)], [.int k0, .ref 64], mo_h gx s gs q) := by
  obtain ⟨d, rfl⟩ : ∃ d', d = d' + 1 := ⟨d - 1, by omega⟩
  unfold fc_X9_readLine_c4 at H
  try dsimp only at H
  cases q100 : f_X9_readSemicolon (mo_i s 20 k0) with
  | none => rw [q100] at H; cases H
  | some w =>
   obtain ⟨r98, s99⟩ := w
   rw [q100] at H
   dsimp only at H
   refine pm_Wg.path (k := 2) (ds := []) (f' := (276, [some (.ref 64), some (.int l1), some (.int l2)], [.ref 64], mo_h gx (mo_i s 20 k0) gs q)) tk_X9_readLine (by omega) rfl trivial ?_
   refine pm_Wg.callV (m' := 173) (ix := 154) (rr := 248) (pl := 1570) (b := 64) (As := []) (S := []) (by decide) rfl (pm_dec tk_X9_readLine rfl) rfl rfl (by decide) rfl rfl (by decide) (Nat.le_of_ble_eq_true rfl) rfl (e_X9_readSemicolon d (by omega) gx gs q _ _ _ q100) ?_
   by_cases z101 : r98 &&& 1 = r98
   case neg => rw [if_neg z101] at H; cases H
   rw [if_pos z101] at H
   injection H with H
   injection H with H1 H2
   subst H1
   subst H2
   exact pm_Wg.iret (pm_dec tk_X9_readLine rfl) rfl (pm_nb1 z101)
set_option maxRecDepth 20000 in
set_option maxHeartbeats 20000000 in
theorem ec_X9_readLine_c3 (d : Nat) (hd : 5 ≤ d) (gx : List pm_E) (gs : List (List pm_E)) (q : Nat × Nat × Nat) (s : mo_S) (l1 : Int32) (l2 : Int32) (k0 : Int32) (k1 : Int32) (r : Int32) (s1 : mo_S) (H : fc_X9_readLine_c3 s l1 l2 k0 k1 = some (r, s1)) : pm_Wg 182 d (.inl (some (.int r))) (mo_h gx s1 gs q) (215, [some (.ref 64), some (.int l1), some (.int l2)], [.int k0, .int k1, .ref 73], mo_h gx s gs q) := by
  obtain ⟨d, rfl⟩ : ∃ d', d = d' + 1 := ⟨d - 1, by omega⟩
  unfold fc_X9_readLine_c3 at H
  try dsimp only at H
  cases b77 : pm_inb k1 500 with
  | false => rw [b77] at H; cases H
  | true =>
   rw [b77] at H
   dsimp only at H
   cases q80 : f_X9_peek (mo_a s 18 k1 k0) with
   | none => rw [q80] at H; cases H
   | some w =>
    obtain ⟨r78, s79⟩ := w
    rw [q80] at H
    dsimp only at H
    refine pm_Wg.path (k := 2) (ds := []) (f' := (217, [some (.ref 64), some (.int l1), some (.int l2)], [.ref 64], mo_h gx (mo_a s 18 k1 k0) gs q)) tk_X9_readLine (by omega) rfl ⟨pm_inb_vp b77, trivial⟩ ?_
    refine pm_Wg.callV (m' := 165) (ix := 95) (rr := 240) (pl := 1535) (b := 64) (As := []) (S := []) (by decide) rfl (pm_dec tk_X9_readLine rfl) rfl rfl (by decide) rfl rfl (by decide) (Nat.le_of_ble_eq_true rfl) rfl (e_X9_peek d (by omega) gx gs q _ _ _ q80) ?_
    cases q82 : f_X9_isLetter s79 r78 with
    | none => rw [q82] at H; cases H
    | some r81 =>
     rw [q82] at H
     dsimp only at H
     refine pm_Wg.callS (m' := 163) (ix := 98) (rr := 242) (pl := 1543) (As := [.int r78]) (S := []) (by decide) rfl (pm_dec tk_X9_readLine rfl) rfl rfl rfl (Nat.le_of_ble_eq_true rfl) rfl (e_X9_isLetter d (by omega) gx gs q _ _ _ q82) ?_
     by_cases h83 : r81 = 0
     · rw [if_pos h83] at H
       cases q86 : f_X9_readSemicolon (mo_i s79 20 ((s79.1 20) + 1)) with
       | none => rw [q86] at H; cases H
       | some w =>
        obtain ⟨r84, s85⟩ := w
        rw [q86] at H
        dsimp only at H
        refine pm_Wg.path (k := 8) (ds := [1]) (f' := (276, [some (.ref 64), some (.int l1), some (.int l2)], [.ref 64], mo_h gx (mo_i s79 20 ((s79.1 20) + 1)) gs q)) tk_X9_readLine (by omega) rfl ⟨h83, trivial⟩ ?_
        refine pm_Wg.callV (m' := 173) (ix := 154) (rr := 248) (pl := 1570) (b := 64) (As := []) (S := []) (by decide) rfl (pm_dec tk_X9_readLine rfl) rfl rfl (by decide) rfl rfl (by decide) (Nat.le_of_ble_eq_true rfl) rfl (e_X9_readSemicolon d (by omega) gx gs q _ _ _ q86) ?_
        by_cases z87 : r84 &&& 1 = r84
        case neg => rw [if_neg z87] at H; cases H
        rw [if_pos z87] at H
        injection H with H
        injection H with H1 H2
        subst H1
        subst H2
        exact pm_Wg.iret (pm_dec tk_X9_readLine rfl) rfl (pm_nb1 z87)
     · rw [if_neg h83] at H
       cases q90 : f_X9_takesWord s79 89 with
       | none => rw [q90] at H; cases H
       | some w =>
        obtain ⟨r88, s89⟩ := w
        rw [q90] at H
        dsimp only at H
        refine pm_Wg.path (k := 3) (ds := [0]) (f' := (230, [some (.ref 64), some (.int l1), some (.int l2)], [.long 89, .ref 64], mo_h gx s79 gs q)) tk_X9_readLine (by omega) rfl ⟨h83, trivial⟩ ?_
        refine pm_Wg.callV (m' := 169) (ix := 132) (rr := 238) (pl := 1527) (b := 64) (As := [.long 89]) (S := []) (by decide) rfl (pm_dec tk_X9_readLine rfl) rfl rfl (by decide) rfl rfl (by decide) (Nat.le_of_ble_eq_true rfl) rfl (e_X9_takesWord d (by omega) gx gs q _ _ _ _ q90) ?_
        by_cases h91 : r88 = 0
        · rw [if_pos h91] at H
          injection H with H
          injection H with H1 H2
          subst H1
          subst H2
          refine pm_Wg.path (k := 2) (ds := [1]) (f' := (252, [some (.ref 64), some (.int l1), some (.int l2)], [.int 0], mo_h gx s89 gs q)) tk_X9_readLine (by omega) rfl ⟨h91, trivial⟩ ?_
          exact pm_Wg.iret (pm_dec tk_X9_readLine rfl) rfl rfl
        · rw [if_neg h91] at H
          cases b92 : pm_inb l1 500 with
          | false => rw [b92] at H; cases H
          | true =>
           rw [b92] at H
           dsimp only at H
           cases q95 : f_X9_readNumber s89 (s89.2.2.1 18 (Int32.toNatClampNeg l1)) 99999 with
           | none => rw [q95] at H; cases H
           | some w =>
            obtain ⟨r93, s94⟩ := w
            rw [q95] at H
            dsimp only at H
            refine pm_Wg.path (k := 7) (ds := [0]) (f' := (245, [some (.ref 64), some (.int l1), some (.int l2)], [.int 99999, .int (s89.2.2.1 18 (Int32.toNatClampNeg l1)), .ref 64], mo_h gx s89 gs q)) tk_X9_readLine (by omega) rfl ⟨pm_inb_vp b92, h91, trivial⟩ ?_
            refine pm_Wg.callV (m' := 170) (ix := 129) (rr := 246) (pl := 1560) (b := 64) (As := [.int (s89.2.2.1 18 (Int32.toNatClampNeg l1)), .int 99999]) (S := []) (by decide) rfl (pm_dec tk_X9_readLine rfl) rfl rfl (by decide) rfl rfl (by decide) (Nat.le_of_ble_eq_true rfl) rfl (e_X9_readNumber d (by omega) gx gs q _ _ _ _ _ q95) ?_
            by_cases h96 : r93 = 0
            · rw [if_pos h96] at H
              injection H with H
              injection H with H1 H2
              subst H1
              subst H2
              refine pm_Wg.path (k := 2) (ds := [0]) (f' := (252, [some (.ref 64), some (.int l1), some (.int l2)], [.int 0], mo_h gx s94 gs q)) tk_X9_readLine (by omega) rfl ⟨h96, trivial⟩ ?_
              exact pm_Wg.iret (pm_dec tk_X9_readLine rfl) rfl rfl
            · rw [if_neg h96] at H
              cases b97 : pm_inb (l1 + 4) 500 with
              | false => rw [b97] at H; cases H
              | true =>
               rw [b97] at H
               dsimp only at H
               refine pm_Wg.path (k := 14) (ds := [1]) (f' := (272, [some (.ref 64), some (.int l1), some (.int l2)], [.int (((mo_a s94 18 (l1 + 4) (s94.1 13)).1 20) + 1), .ref 64], mo_h gx (mo_a s94 18 (l1 + 4) (s94.1 13)) gs q)) tk_X9_readLine (by omega) rfl ⟨pm_inb_vp b97, h96, trivial⟩ ?_
               exact ec_X9_readLine_c4 (d + 1) (by omega) gx gs q _ _ _ _ _ _ H
set_option maxRecDepth 20000 in
set_option maxHeartbeats 20000000 in
theorem ec_X9_readLine_c6 (d : Nat) (hd : 5 ≤ d) (gx : List pm_E) (gs : List (List pm_E)) (q : Nat × Nat × Nat) (s : mo_S) (l1 : Int32) (l2 : Int32) (k0 : Int32) (r : Int32) (s1 : mo_S) (H : fc_X9_readLine_c6 s l1 l2 k0 = some (r, s1)) : pm_Wg 182 d (.inl (some (.int r))) (mo_h gx s1 gs q) (272, [some (.ref 64), some (.int l1), some (.int l2)], [.int k0, .ref 64], mo_h gx s gs q) := by
  obtain ⟨d, rfl⟩ : ∃ d', d = d' + 1 := ⟨d - 1, by omega⟩
  unfold fc_X9_readLine_c6 at H
  try dsimp only at H
  cases q134 : f_X9_readSemicolon (mo_i s 20 k0) with
  | none => rw [q134] at H; cases H
  | some w =>
   obtain ⟨r132, s133⟩ := w
   rw [q134] at H
   dsimp only at H
   refine pm_Wg.path (k := 2) (ds := []) (f' := (276, [some (.ref 64), some (.int l1), some (.int l2)], [.ref 64], mo_h gx (mo_i s 20 k0) gs q)) tk_X9_readLine (by omega) rfl trivial ?_
   refine pm_Wg.callV (m' := 173) (ix := 154) (rr := 248) (pl := 1570) (b := 64) (As := []) (S := []) (by decide) rfl (pm_dec tk_X9_readLine rfl) rfl rfl (by decide) rfl rfl (by decide) (Nat.le_of_ble_eq_true rfl) rfl (e_X9_readSemicolon d (by omega) gx gs q _ _ _ q134) ?_
   by_cases z135 : r132 &&& 1 = r132
   case neg => rw [if_neg z135] at H; cases H
   rw [if_pos z135] at H
   injection H with H
   injection H with H1 H2
   subst H1
   subst H2
   exact pm_Wg.iret (pm_dec tk_X9_readLine rfl) rfl (pm_nb1 z135)
set_option maxRecDepth 20000 in
set_option maxHeartbeats 20000000 in
theorem ec_X9_readLine_c5 (d : Nat) (hd : 5 ≤ d) (gx : List pm_E) (gs : List (List pm_E)) (q : Nat × Nat × Nat) (s : mo_S) (l1 : Int32) (l2 : Int32) (k0 : Int32) (k1 : Int32) (r : Int32) (s1 : mo_S) (H : fc_X9_readLine_c5 s l1 l2 k0 k1 = some (r, s1)) : pm_Wg 182 d (.inl (some (.int r))) (mo_h gx s1 gs q) (215, [some (.ref 64), some (.int l1), some (.int l2)], [.int k0, .int k1, .ref 73], mo_h gx s gs q) := by
  obtain ⟨d, rfl⟩ : ∃ d', d = d' + 1 := ⟨d - 1, by omega⟩
  unfold fc_X9_readLine_c5 at H
  try dsimp only at H
  cases b111 : pm_inb k1 500 with
  | false => rw [b111] at H; cases H
  | true =>
   rw [b111] at H
   dsimp only at H
   cases q114 : f_X9_peek (mo_a s 18 k1 k0) with
   | none => rw [q114] at H; cases H
   | some w =>
    obtain ⟨r112, s113⟩ := w
    rw [q114] at H
    dsimp only at H
    refine pm_Wg.path (k := 2) (ds := []) (f' := (217, [some (.ref 64), some (.int l1), some (.int l2)], [.ref 64], mo_h gx (mo_a s 18 k1 k0) gs q)) tk_X9_readLine (by omega) rfl ⟨pm_inb_vp b111, trivial⟩ ?_
    refine pm_Wg.callV (m' := 165) (ix := 95) (rr := 240) (pl := 1535) (b := 64) (As := []) (S := []) (by decide) rfl (pm_dec tk_X9_readLine rfl) rfl rfl (by decide) rfl rfl (by decide) (Nat.le_of_ble_eq_true rfl) rfl (e_X9_peek d (by omega) gx gs q _ _ _ q114) ?_
    cases q116 : f_X9_isLetter s113 r112 with
    | none => rw [q116] at H; cases H
    | some r115 =>
     rw [q116] at H
     dsimp only at H
     refine pm_Wg.callS (m' := 163) (ix := 98) (rr := 242) (pl := 1543) (As := [.int r112]) (S := []) (by decide) rfl (pm_dec tk_X9_readLine rfl) rfl rfl rfl (Nat.le_of_ble_eq_true rfl) rfl (e_X9_isLetter d (by omega) gx gs q _ _ _ q116) ?_
     by_cases h117 : r115 = 0
     · rw [if_pos h117] at H
       cases q120 : f_X9_readSemicolon (mo_i s113 20 ((s113.1 20) + 1)) with
       | none => rw [q120] at H; cases H
       | some w =>
        obtain ⟨r118, s119⟩ := w
        rw [q120] at H
        dsimp only at H
        refine pm_Wg.path (k := 8) (ds := [1]) (f' := (276, [some (.ref 64), some (.int l1), some (.int l2)], [.ref 64], mo_h gx (mo_i s113 20 ((s113.1 20) + 1)) gs q)) tk_X9_readLine (by omega) rfl ⟨h117, trivial⟩ ?_
        refine pm_Wg.callV (m' := 173) (ix := 154) (rr := 248) (pl := 1570) (b := 64) (As := []) (S := []) (by decide) rfl (pm_dec tk_X9_readLine rfl) rfl rfl (by decide) rfl rfl (by decide) (Nat.le_of_ble_eq_true rfl) rfl (e_X9_readSemicolon d (by omega) gx gs q _ _ _ q120) ?_
        by_cases z121 : r118 &&& 1 = r118
        case neg => rw [if_neg z121] at H; cases H
        rw [if_pos z121] at H
        injection H with H
        injection H with H1 H2
        subst H1
        subst H2
        exact pm_Wg.iret (pm_dec tk_X9_readLine rfl) rfl (pm_nb1 z121)
     · rw [if_neg h117] at H
       cases q124 : f_X9_takesWord s113 89 with
       | none => rw [q124] at H; cases H
       | some w =>
        obtain ⟨r122, s123⟩ := w
        rw [q124] at H
        dsimp only at H
        refine pm_Wg.path (k := 3) (ds := [0]) (f' := (230, [some (.ref 64), some (.int l1), some (.int l2)], [.long 89, .ref 64], mo_h gx s113 gs q)) tk_X9_readLine (by omega) rfl ⟨h117, trivial⟩ ?_
        refine pm_Wg.callV (m' := 169) (ix := 132) (rr := 238) (pl := 1527) (b := 64) (As := [.long 89]) (S := []) (by decide) rfl (pm_dec tk_X9_readLine rfl) rfl rfl (by decide) rfl rfl (by decide) (Nat.le_of_ble_eq_true rfl) rfl (e_X9_takesWord d (by omega) gx gs q _ _ _ _ q124) ?_
        by_cases h125 : r122 = 0
        · rw [if_pos h125] at H
          injection H with H
          injection H with H1 H2
          subst H1
          subst H2
          refine pm_Wg.path (k := 2) (ds := [1]) (f' := (252, [some (.ref 64), some (.int l1), some (.int l2)], [.int 0], mo_h gx s123 gs q)) tk_X9_readLine (by omega) rfl ⟨h125, trivial⟩ ?_
          exact pm_Wg.iret (pm_dec tk_X9_readLine rfl) rfl rfl
        · rw [if_neg h125] at H
          cases b126 : pm_inb l1 500 with
          | false => rw [b126] at H; cases H
          | true =>
           rw [b126] at H
           dsimp only at H
           cases q129 : f_X9_readNumber s123 (s123.2.2.1 18 (Int32.toNatClampNeg l1)) 99999 with
           | none => rw [q129] at H; cases H
           | some w =>
            obtain ⟨r127, s128⟩ := w
            rw [q129] at H
            dsimp only at H
            refine pm_Wg.path (k := 7) (ds := [0]) (f' := (245, [some (.ref 64), some (.int l1), some (.int l2)], [.int 99999, .int (s123.2.2.1 18 (Int32.toNatClampNeg l1)), .ref 64], mo_h gx s123 gs q)) tk_X9_readLine (by omega) rfl ⟨pm_inb_vp b126, h125, trivial⟩ ?_
            refine pm_Wg.callV (m' := 170) (ix := 129) (rr := 246) (pl := 1560) (b := 64) (As := [.int (s123.2.2.1 18 (Int32.toNatClampNeg l1)), .int 99999]) (S := []) (by decide) rfl (pm_dec tk_X9_readLine rfl) rfl rfl (by decide) rfl rfl (by decide) (Nat.le_of_ble_eq_true rfl) rfl (e_X9_readNumber d (by omega) gx gs q _ _ _ _ _ q129) ?_
            by_cases h130 : r127 = 0
            · rw [if_pos h130] at H
              injection H with H
              injection H with H1 H2
              subst H1
              subst H2
              refine pm_Wg.path (k := 2) (ds := [0]) (f' := (252, [some (.ref 64), some (.int l1), some (.int l2)], [.int 0], mo_h gx s128 gs q)) tk_X9_readLine (by omega) rfl ⟨h130, trivial⟩ ?_
              exact pm_Wg.iret (pm_dec tk_X9_readLine rfl) rfl rfl
            · rw [if_neg h130] at H
              cases b131 : pm_inb (l1 + 4) 500 with
              | false => rw [b131] at H; cases H
              | true =>
               rw [b131] at H
               dsimp only at H
               refine pm_Wg.path (k := 14) (ds := [1]) (f' := (272, [some (.ref 64), some (.int l1), some (.int l2)], [.int (((mo_a s128 18 (l1 + 4) (s128.1 13)).1 20) + 1), .ref 64], mo_h gx (mo_a s128 18 (l1 + 4) (s128.1 13)) gs q)) tk_X9_readLine (by omega) rfl ⟨pm_inb_vp b131, h130, trivial⟩ ?_
               exact ec_X9_readLine_c6 (d + 1) (by omega) gx gs q _ _ _ _ _ _ H
set_option maxRecDepth 20000 in
set_option maxHeartbeats 20000000 in
theorem ec_X9_readLine_c8 (d : Nat) (hd : 5 ≤ d) (gx : List pm_E) (gs : List (List pm_E)) (q : Nat × Nat × Nat) (s : mo_S) (l1 : Int32) (l2 : Int32) (k0 : Int32) (r : Int32) (s1 : mo_S) (H : fc_X9_readLine_c8 s l1 l2 k0 = some (r, s1)) : pm_Wg 182 d (.inl (some (.int r))) (mo_h gx s1 gs q) (272, [some (.ref 64), some (.int l1), some (.int l2)], [.int k0, .ref 64], mo_h gx s gs q) := by
  obtain ⟨d, rfl⟩ : ∃ d', d = d' + 1 := ⟨d - 1, by omega⟩
  unfold fc_X9_readLine_c8 at H
  try dsimp only at H
  cases q168 : f_X9_readSemicolon (mo_i s 20 k0) with
  | none => rw [q168] at H; cases H
  | some w =>
   obtain ⟨r166, s167⟩ := w
   rw [q168] at H
   dsimp only at H
   refine pm_Wg.path (k := 2) (ds := []) (f' := (276, [some (.ref 64), some (.int l1), some (.int l2)], [.ref 64], mo_h gx (mo_i s 20 k0) gs q)) tk_X9_readLine (by omega) rfl trivial ?_
   refine pm_Wg.callV (m' := 173) (ix := 154) (rr := 248) (pl := 1570) (b := 64) (As := []) (S := []) (by decide) rfl (pm_dec tk_X9_readLine rfl) rfl rfl (by decide) rfl rfl (by decide) (Nat.le_of_ble_eq_true rfl) rfl (e_X9_readSemicolon d (by omega) gx gs q _ _ _ q168) ?_
   by_cases z169 : r166 &&& 1 = r166
   case neg => rw [if_neg z169] at H; cases H
   rw [if_pos z169] at H
   injection H with H
   injection H with H1 H2
   subst H1
   subst H2
   exact pm_Wg.iret (pm_dec tk_X9_readLine rfl) rfl (pm_nb1 z169)
set_option maxRecDepth 20000 in
set_option maxHeartbeats 20000000 in
theorem ec_X9_readLine_c7 (d : Nat) (hd : 5 ≤ d) (gx : List pm_E) (gs : List (List pm_E)) (q : Nat × Nat × Nat) (s : mo_S) (l1 : Int32) (l2 : Int32) (k0 : Int32) (k1 : Int32) (r : Int32) (s1 : mo_S) (H : fc_X9_readLine_c7 s l1 l2 k0 k1 = some (r, s1)) : pm_Wg 182 d (.inl (some (.int r))) (mo_h gx s1 gs q) (215, [some (.ref 64), some (.int l1), some (.int l2)], [.int k0, .int k1, .ref 73], mo_h gx s gs q) := by
  obtain ⟨d, rfl⟩ : ∃ d', d = d' + 1 := ⟨d - 1, by omega⟩
  unfold fc_X9_readLine_c7 at H
  try dsimp only at H
  cases b145 : pm_inb k1 500 with
  | false => rw [b145] at H; cases H
  | true =>
   rw [b145] at H
   dsimp only at H
   cases q148 : f_X9_peek (mo_a s 18 k1 k0) with
   | none => rw [q148] at H; cases H
   | some w =>
    obtain ⟨r146, s147⟩ := w
    rw [q148] at H
    dsimp only at H
    refine pm_Wg.path (k := 2) (ds := []) (f' := (217, [some (.ref 64), some (.int l1), some (.int l2)], [.ref 64], mo_h gx (mo_a s 18 k1 k0) gs q)) tk_X9_readLine (by omega) rfl ⟨pm_inb_vp b145, trivial⟩ ?_
    refine pm_Wg.callV (m' := 165) (ix := 95) (rr := 240) (pl := 1535) (b := 64) (As := []) (S := []) (by decide) rfl (pm_dec tk_X9_readLine rfl) rfl rfl (by decide) rfl rfl (by decide) (Nat.le_of_ble_eq_true rfl) rfl (e_X9_peek d (by omega) gx gs q _ _ _ q148) ?_
    cases q150 : f_X9_isLetter s147 r146 with
    | none => rw [q150] at H; cases H
    | some r149 =>
     rw [q150] at H
     dsimp only at H
     refine pm_Wg.callS (m' := 163) (ix := 98) (rr := 242) (pl := 1543) (As := [.int r146]) (S := []) (by decide) rfl (pm_dec tk_X9_readLine rfl) rfl rfl rfl (Nat.le_of_ble_eq_true rfl) rfl (e_X9_isLetter d (by omega) gx gs q _ _ _ q150) ?_
     by_cases h151 : r149 = 0
     · rw [if_pos h151] at H
       cases q154 : f_X9_readSemicolon (mo_i s147 20 ((s147.1 20) + 1)) with
       | none => rw [q154] at H; cases H
       | some w =>
        obtain ⟨r152, s153⟩ := w
        rw [q154] at H
        dsimp only at H
        refine pm_Wg.path (k := 8) (ds := [1]) (f' := (276, [some (.ref 64), some (.int l1), some (.int l2)], [.ref 64], mo_h gx (mo_i s147 20 ((s147.1 20) + 1)) gs q)) tk_X9_readLine (by omega) rfl ⟨h151, trivial⟩ ?_
        refine pm_Wg.callV (m' := 173) (ix := 154) (rr := 248) (pl := 1570) (b := 64) (As := []) (S := []) (by decide) rfl (pm_dec tk_X9_readLine rfl) rfl rfl (by decide) rfl rfl (by decide) (Nat.le_of_ble_eq_true rfl) rfl (e_X9_readSemicolon d (by omega) gx gs q _ _ _ q154) ?_
        by_cases z155 : r152 &&& 1 = r152
        case neg => rw [if_neg z155] at H; cases H
        rw [if_pos z155] at H
        injection H with H
        injection H with H1 H2
        subst H1
        subst H2
        exact pm_Wg.iret (pm_dec tk_X9_readLine rfl) rfl (pm_nb1 z155)
     · rw [if_neg h151] at H
       cases q158 : f_X9_takesWord s147 89 with
       | none => rw [q158] at H; cases H
       | some w =>
        obtain ⟨r156, s157⟩ := w
        rw [q158] at H
        dsimp only at H
        refine pm_Wg.path (k := 3) (ds := [0]) (f' := (230, [some (.ref 64), some (.int l1), some (.int l2)], [.long 89, .ref 64], mo_h gx s147 gs q)) tk_X9_readLine (by omega) rfl ⟨h151, trivial⟩ ?_
        refine pm_Wg.callV (m' := 169) (ix := 132) (rr := 238) (pl := 1527) (b := 64) (As := [.long 89]) (S := []) (by decide) rfl (pm_dec tk_X9_readLine rfl) rfl rfl (by decide) rfl rfl (by decide) (Nat.le_of_ble_eq_true rfl) rfl (e_X9_takesWord d (by omega) gx gs q _ _ _ _ q158) ?_
        by_cases h159 : r156 = 0
        · rw [if_pos h159] at H
          injection H with H
          injection H with H1 H2
          subst H1
          subst H2
          refine pm_Wg.path (k := 2) (ds := [1]) (f' := (252, [some (.ref 64), some (.int l1), some (.int l2)], [.int 0], mo_h gx s157 gs q)) tk_X9_readLine (by omega) rfl ⟨h159, trivial⟩ ?_
          exact pm_Wg.iret (pm_dec tk_X9_readLine rfl) rfl rfl
        · rw [if_neg h159] at H
          cases b160 : pm_inb l1 500 with
          | false => rw [b160] at H; cases H
          | true =>
           rw [b160] at H
           dsimp only at H
           cases q163 : f_X9_readNumber s157 (s157.2.2.1 18 (Int32.toNatClampNeg l1)) 99999 with
           | none => rw [q163] at H; cases H
           | some w =>
            obtain ⟨r161, s162⟩ := w
            rw [q163] at H
            dsimp only at H
            refine pm_Wg.path (k := 7) (ds := [0]) (f' := (245, [some (.ref 64), some (.int l1), some (.int l2)], [.int 99999, .int (s157.2.2.1 18 (Int32.toNatClampNeg l1)), .ref 64], mo_h gx s157 gs q)) tk_X9_readLine (by omega) rfl ⟨pm_inb_vp b160, h159, trivial⟩ ?_
            refine pm_Wg.callV (m' := 170) (ix := 129) (rr := 246) (pl := 1560) (b := 64) (As := [.int (s157.2.2.1 18 (Int32.toNatClampNeg l1)), .int 99999]) (S := []) (by decide) rfl (pm_dec tk_X9_readLine rfl) rfl rfl (by decide) rfl rfl (by decide) (Nat.le_of_ble_eq_true rfl) rfl (e_X9_readNumber d (by omega) gx gs q _ _ _ _ _ q163) ?_
            by_cases h164 : r161 = 0
            · rw [if_pos h164] at H
              injection H with H
              injection H with H1 H2
              subst H1
              subst H2
              refine pm_Wg.path (k := 2) (ds := [0]) (f' := (252, [some (.ref 64), some (.int l1), some (.int l2)], [.int 0], mo_h gx s162 gs q)) tk_X9_readLine (by omega) rfl ⟨h164, trivial⟩ ?_
              exact pm_Wg.iret (pm_dec tk_X9_readLine rfl) rfl rfl
            · rw [if_neg h164] at H
              cases b165 : pm_inb (l1 + 4) 500 with
              | false => rw [b165] at H; cases H
              | true =>
               rw [b165] at H
               dsimp only at H
               refine pm_Wg.path (k := 14) (ds := [1]) (f' := (272, [some (.ref 64), some (.int l1), some (.int l2)], [.int (((mo_a s162 18 (l1 + 4) (s162.1 13)).1 20) + 1), .ref 64], mo_h gx (mo_a s162 18 (l1 + 4) (s162.1 13)) gs q)) tk_X9_readLine (by omega) rfl ⟨pm_inb_vp b165, h164, trivial⟩ ?_
               exact ec_X9_readLine_c8 (d + 1) (by omega) gx gs q _ _ _ _ _ _ H
set_option maxRecDepth 20000 in
set_option maxHeartbeats 20000000 in
theorem ec_X9_readLine_c10 (d : Nat) (hd : 5 ≤ d) (gx : List pm_E) (gs : List (List pm_E)) (q : Nat × Nat × Nat) (s : mo_S) (l1 : Int32) (l2 : Int32) (k0 : Int32) (r : Int32) (s1 : mo_S) (H : fc_X9_readLine_c10 s l1 l2 k0 = some (r, s1)) : pm_Wg 182 d (.inl (some (.int r))) (mo_h gx s1 gs q) (272, [some (.ref 64), some (.int l1), some (.int l2)], [.int k0, .ref 64], mo_h gx s gs q) := by
  obtain ⟨d, rfl⟩ : ∃ d', d = d' + 1 := ⟨d - 1, by omega⟩
  unfold fc_X9_readLine_c10 at H
  try dsimp only at H
  cases q229 : f_X9_readSemicolon (mo_i s 20 k0) with
  | none => rw [q229] at H; cases H
  | some w =>
   obtain ⟨r227, s228⟩ := w
   rw [q229] at H
   dsimp only at H
   refine pm_Wg.path (k := 2) (ds := []) (f' := (276, [some (.ref 64), some (.int l1), some (.int l2)], [.ref 64], mo_h gx (mo_i s 20 k0) gs q)) tk_X9_readLine (by omega) rfl trivial ?_
   refine pm_Wg.callV (m' := 173) (ix := 154) (rr := 248) (pl := 1570) (b := 64) (As := []) (S := []) (by decide) rfl (pm_dec tk_X9_readLine rfl) rfl rfl (by decide) rfl rfl (by decide) (Nat.le_of_ble_eq_true rfl) rfl (e_X9_readSemicolon d (by omega) gx gs q _ _ _ q229) ?_
   by_cases z230 : r227 &&& 1 = r227
   case neg => rw [if_neg z230] at H; cases H
   rw [if_pos z230] at H
   injection H with H
   injection H with H1 H2
   subst H1
   subst H2
   exact pm_Wg.iret (pm_dec tk_X9_readLine rfl) rfl (pm_nb1 z230)
set_option maxRecDepth 20000 in
set_option maxHeartbeats 20000000 in
theorem ec_X9_readLine_c9 (d : Nat) (hd : 5 ≤ d) (gx : List pm_E) (gs : List (List pm_E)) (q : Nat × Nat × Nat) (s : mo_S) (l1 : Int32) (l2 : Int32) (k0 : Int32) (k1 : Int32) (r : Int32) (s1 : mo_S) (H : fc_X9_readLine_c9 s l1 l2 k0 k1 = some (r, s1)) : pm_Wg 182 d (.inl (some (.int r))) (mo_h gx s1 gs q) (215, [some (.ref 64), some (.int l1), some (.int l2)], [.int k0, .int k1, .ref 73], mo_h gx s gs q) := by
  obtain ⟨d, rfl⟩ : ∃ d', d = d' + 1 := ⟨d - 1, by omega⟩
  unfold fc_X9_readLine_c9 at H
  try dsimp only at H
  cases b206 : pm_inb k1 500 with
  | false => rw [b206] at H; cases H
  | true =>
   rw [b206] at H
   dsimp only at H
   cases q209 : f_X9_peek (mo_a s 18 k1 k0) with
   | none => rw [q209] at H; cases H
   | some w =>
    obtain ⟨r207, s208⟩ := w
    rw [q209] at H
    dsimp only at H
    refine pm_Wg.path (k := 2) (ds := []) (f' := (217, [some (.ref 64), some (.int l1), some (.int l2)], [.ref 64], mo_h gx (mo_a s 18 k1 k0) gs q)) tk_X9_readLine (by omega) rfl ⟨pm_inb_vp b206, trivial⟩ ?_
    refine pm_Wg.callV (m' := 165) (ix := 95) (rr := 240) (pl := 1535) (b := 64) (As := []) (S := []) (by decide) rfl (pm_dec tk_X9_readLine rfl) rfl rfl (by decide) rfl rfl (by decide) (Nat.le_of_ble_eq_true rfl) rfl (e_X9_peek d (by omega) gx gs q _ _ _ q209) ?_
    cases q211 : f_X9_isLetter s208 r207 with
    | none => rw [q211] at H; cases H
    | some r210 =>
     rw [q211] at H
     dsimp only at H
     refine pm_Wg.callS (m' := 163) (ix := 98) (rr := 242) (pl := 1543) (As := [.int r207]) (S := []) (by decide) rfl (pm_dec tk_X9_readLine rfl) rfl rfl rfl (Nat.le_of_ble_eq_true rfl) rfl (e_X9_isLetter d (by omega) gx gs q _ _ _ q211) ?_
     by_cases h212 : r210 = 0
     · rw [if_pos h212] at H
       cases q215 : f_X9_readSemicolon (mo_i s208 20 ((s208.1 20) + 1)) with
       | none => rw [q215] at H; cases H
       | some w =>
        obtain ⟨r213, s214⟩ := w
        rw [q215] at H
        dsimp only at H
        refine pm_Wg.path (k := 8) (ds := [1]) (f' := (276, [some (.ref 64), some (.int l1), some (.int l2)], [.ref 64], mo_h gx (mo_i s208 20 ((s208.1 20) + 1)) gs q)) tk_X9_readLine (by omega) rfl ⟨h212, trivial⟩ ?_
        refine pm_Wg.callV (m' := 173) (ix := 154) (rr := 248) (pl := 1570) (b := 64) (As := []) (S := []) (by decide) rfl (pm_dec tk_X9_readLine rfl) rfl rfl (by decide) rfl rfl (by decide) (Nat.le_of_ble_eq_true rfl) rfl (e_X9_readSemicolon d (by omega) gx gs q _ _ _ q215) ?_
        by_cases z216 : r213 &&& 1 = r213
        case neg => rw [if_neg z216] at H; cases H
        rw [if_pos z216] at H
        injection H with H
        injection H with H1 H2
        subst H1
        subst H2
        exact pm_Wg.iret (pm_dec tk_X9_readLine rfl) rfl (pm_nb1 z216)
     · rw [if_neg h212] at H
       cases q219 : f_X9_takesWord s208 89 with
       | none => rw [q219] at H; cases H
       | some w =>
        obtain ⟨r217, s218⟩ := w
        rw [q219] at H
        dsimp only at H
        refine pm_Wg.path (k := 3) (ds := [0]) (f' := (230, [some (.ref 64), some (.int l1), some (.int l2)], [.long 89, .ref 64], mo_h gx s208 gs q)) tk_X9_readLine (by omega) rfl ⟨h212, trivial⟩ ?_
        refine pm_Wg.callV (m' := 169) (ix := 132) (rr := 238) (pl := 1527) (b := 64) (As := [.long 89]) (S := []) (by decide) rfl (pm_dec tk_X9_readLine rfl) rfl rfl (by decide) rfl rfl (by decide) (Nat.le_of_ble_eq_true rfl) rfl (e_X9_takesWord d (by omega) gx gs q _ _ _ _ q219) ?_
        by_cases h220 : r217 = 0
        · rw [if_pos h220] at H
          injection H with H
          injection H with H1 H2
          subst H1
          subst H2
          refine pm_Wg.path (k := 2) (ds := [1]) (f' := (252, [some (.ref 64), some (.int l1), some (.int l2)], [.int 0], mo_h gx s218 gs q)) tk_X9_readLine (by omega) rfl ⟨h220, trivial⟩ ?_
          exact pm_Wg.iret (pm_dec tk_X9_readLine rfl) rfl rfl
        · rw [if_neg h220] at H
          cases b221 : pm_inb l1 500 with
          | false => rw [b221] at H; cases H
          | true =>
           rw [b221] at H
           dsimp only at H
           cases q224 : f_X9_readNumber s218 (s218.2.2.1 18 (Int32.toNatClampNeg l1)) 99999 with
           | none => rw [q224] at H; cases H
           | some w =>
            obtain ⟨r222, s223⟩ := w
            rw [q224] at H
            dsimp only at H
            refine pm_Wg.path (k := 7) (ds := [0]) (f' := (245, [some (.ref 64), some (.int l1), some (.int l2)], [.int 99999, .int (s218.2.2.1 18 (Int32.toNatClampNeg l1)), .ref 64], mo_h gx s218 gs q)) tk_X9_readLine (by omega) rfl ⟨pm_inb_vp b221, h220, trivial⟩ ?_
            refine pm_Wg.callV (m' := 170) (ix := 129) (rr := 246) (pl := 1560) (b := 64) (As := [.int (s218.2.2.1 18 (Int32.toNatClampNeg l1)), .int 99999]) (S := []) (by decide) rfl (pm_dec tk_X9_readLine rfl) rfl rfl (by decide) rfl rfl (by decide) (Nat.le_of_ble_eq_true rfl) rfl (e_X9_readNumber d (by omega) gx gs q _ _ _ _ _ q224) ?_
            by_cases h225 : r222 = 0
            · rw [if_pos h225] at H
              injection H with H
              injection H with H1 H2
              subst H1
              subst H2
              refine pm_Wg.path (k := 2) (ds := [0]) (f' := (252, [some (.ref 64), some (.int l1), some (.int l2)], [.int 0], mo_h gx s223 gs q)) tk_X9_readLine (by omega) rfl ⟨h225, trivial⟩ ?_
              exact pm_Wg.iret (pm_dec tk_X9_readLine rfl) rfl rfl
            · rw [if_neg h225] at H
              cases b226 : pm_inb (l1 + 4) 500 with
              | false => rw [b226] at H; cases H
              | true =>
               rw [b226] at H
               dsimp only at H
               refine pm_Wg.path (k := 14) (ds := [1]) (f' := (272, [some (.ref 64), some (.int l1), some (.int l2)], [.int (((mo_a s223 18 (l1 + 4) (s223.1 13)).1 20) + 1), .ref 64], mo_h gx (mo_a s223 18 (l1 + 4) (s223.1 13)) gs q)) tk_X9_readLine (by omega) rfl ⟨pm_inb_vp b226, h225, trivial⟩ ?_
               exact ec_X9_readLine_c10 (d + 1) (by omega) gx gs q _ _ _ _ _ _ H
set_option maxRecDepth 20000 in
set_option maxHeartbeats 20000000 in
theorem ec_X9_readLine_c12 (d : Nat) (hd : 5 ≤ d) (gx : List pm_E) (gs : List (List pm_E)) (q : Nat × Nat × Nat) (s : mo_S) (l1 : Int32) (l2 : Int32) (k0 : Int32) (r : Int32) (s1 : mo_S) (H : fc_X9_readLine_c12 s l1 l2 k0 = some (r, s1)) : pm_Wg 182 d (.inl (some (.int r))) (mo_h gx s1 gs q) (272, [some (.ref 64), some (.int l1), some (.int l2)], [.int k0, .ref 64], mo_h gx s gs q) := by
  obtain ⟨d, rfl⟩ : ∃ d', d = d' + 1 := ⟨d - 1, by omega⟩
  unfold fc_X9_readLine_c12 at H
  try dsimp only at H
  cases q263 : f_X9_readSemicolon (mo_i s 20 k0) with
  | none => rw [q263] at H; cases H
  | some w =>
   obtain ⟨r261, s262⟩ := w
   rw [q263] at H
   dsimp only at H
   refine pm_Wg.path (k := 2) (ds := []) (f' := (276, [some (.ref 64), some (.int l1), some (.int l2)], [.ref 64], mo_h gx (mo_i s 20 k0) gs q)) tk_X9_readLine (by omega) rfl trivial ?_
   refine pm_Wg.callV (m' := 173) (ix := 154) (rr := 248) (pl := 1570) (b := 64) (As := []) (S := []) (by decide) rfl (pm_dec tk_X9_readLine rfl) rfl rfl (by decide) rfl rfl (by decide) (Nat.le_of_ble_eq_true rfl) rfl (e_X9_readSemicolon d (by omega) gx gs q _ _ _ q263) ?_
   by_cases z264 : r261 &&& 1 = r261
   case neg => rw [if_neg z264] at H; cases H
   rw [if_pos z264] at H
   injection H with H
   injection H with H1 H2
   subst H1
   subst H2
   exact pm_Wg.iret (pm_dec tk_X9_readLine rfl) rfl (pm_nb1 z264)
set_option maxRecDepth 20000 in
set_option maxHeartbeats 20000000 in
theorem ec_X9_readLine_c11 (d : Nat) (hd : 5 ≤ d) (gx : List pm_E) (gs : List (List pm_E)) (q : Nat × Nat × Nat) (s : mo_S) (l1 : Int32) (l2 : Int32) (k0 : Int32) (k1 : Int32) (r : Int32) (s1 : mo_S) (H : fc_X9_readLine_c11 s l1 l2 k0 k1 = some (r, s1)) : pm_Wg 182 d (.inl (some (.int r))) (mo_h gx s1 gs q) (215, [some (.ref 64), some (.int l1), some (.int l2)], [.int k0, .int k1, .ref 73], mo_h gx s gs q) := by
  obtain ⟨d, rfl⟩ : ∃ d', d = d' + 1 := ⟨d - 1, by omega⟩
  unfold fc_X9_readLine_c11 at H
  try dsimp only at H
  cases b240 : pm_inb k1 500 with
  | false => rw [b240] at H; cases H
  | true =>
   rw [b240] at H
   dsimp only at H
   cases q243 : f_X9_peek (mo_a s 18 k1 k0) with
   | none => rw [q243] at H; cases H
   | some w =>
    obtain ⟨r241, s242⟩ := w
    rw [q243] at H
    dsimp only at H
    refine pm_Wg.path (k := 2) (ds := []) (f' := (217, [some (.ref 64), some (.int l1), some (.int l2)], [.ref 64], mo_h gx (mo_a s 18 k1 k0) gs q)) tk_X9_readLine (by omega) rfl ⟨pm_inb_vp b240, trivial⟩ ?_
    refine pm_Wg.callV (m' := 165) (ix := 95) (rr := 240) (pl := 1535) (b := 64) (As := []) (S := []) (by decide) rfl (pm_dec tk_X9_readLine rfl) rfl rfl (by decide) rfl rfl (by decide) (Nat.le_of_ble_eq_true rfl) rfl (e_X9_peek d (by omega) gx gs q _ _ _ q243) ?_
    cases q245 : f_X9_isLetter s242 r241 with
    | none => rw [q245] at H; cases H
    | some r244 =>
     rw [q245] at H
     dsimp only at H
     refine pm_Wg.callS (m' := 163) (ix := 98) (rr := 242) (pl := 1543) (As := [.int r241]) (S := []) (by decide) rfl (pm_dec tk_X9_readLine rfl) rfl rfl rfl (Nat.le_of_ble_eq_true rfl) rfl (e_X9_isLetter d (by omega) gx gs q _ _ _ q245) ?_
     by_cases h246 : r244 = 0
     · rw [if_pos h246] at H
       cases q249 : f_X9_readSemicolon (mo_i s242 20 ((s242.1 20) + 1)) with
       | none => rw [q249] at H; cases H
       | some w =>
        obtain ⟨r247, s248⟩ := w
        rw [q249] at H
        dsimp only at H
        refine pm_Wg.path (k := 8) (ds := [1]) (f' := (276, [some (.ref 64), some (.int l1), some (.int l2)], [.ref 64], mo_h gx (mo_i s242 20 ((s242.1 20) + 1)) gs q)) tk_X9_readLine (by omega) rfl ⟨h246, trivial⟩ ?_
        refine pm_Wg.callV (m' := 173) (ix := 154) (rr := 248) (pl := 1570) (b := 64) (As := []) (S := []) (by decide) rfl (pm_dec tk_X9_readLine rfl) rfl rfl (by decide) rfl rfl (by decide) (Nat.le_of_ble_eq_true rfl) rfl (e_X9_readSemicolon d (by omega) gx gs q _ _ _ q249) ?_
        by_cases z250 : r247 &&& 1 = r247
        case neg => rw [if_neg z250] at H; cases H
        rw [if_pos z250] at H
        injection H with H
        injection H with H1 H2
        subst H1
        subst H2
        exact pm_Wg.iret (pm_dec tk_X9_readLine rfl) rfl (pm_nb1 z250)
     · rw [if_neg h246] at H
       cases q253 : f_X9_takesWord s242 89 with
       | none => rw [q253] at H; cases H
       | some w =>
        obtain ⟨r251, s252⟩ := w
        rw [q253] at H
        dsimp only at H
        refine pm_Wg.path (k := 3) (ds := [0]) (f' := (230, [some (.ref 64), some (.int l1), some (.int l2)], [.long 89, .ref 64], mo_h gx s242 gs q)) tk_X9_readLine (by omega) rfl ⟨h246, trivial⟩ ?_
        refine pm_Wg.callV (m' := 169) (ix := 132) (rr := 238) (pl := 1527) (b := 64) (As := [.long 89]) (S := []) (by decide) rfl (pm_dec tk_X9_readLine rfl) rfl rfl (by decide) rfl rfl (by decide) (Nat.le_of_ble_eq_true rfl) rfl (e_X9_takesWord d (by omega) gx gs q _ _ _ _ q253) ?_
        by_cases h254 : r251 = 0
        · rw [if_pos h254] at H
          injection H with H
          injection H with H1 H2
          subst H1
          subst H2
          refine pm_Wg.path (k := 2) (ds := [1]) (f' := (252, [some (.ref 64), some (.int l1), some (.int l2)], [.int 0], mo_h gx s252 gs q)) tk_X9_readLine (by omega) rfl ⟨h254, trivial⟩ ?_
          exact pm_Wg.iret (pm_dec tk_X9_readLine rfl) rfl rfl
        · rw [if_neg h254] at H
          cases b255 : pm_inb l1 500 with
          | false => rw [b255] at H; cases H
          | true =>
           rw [b255] at H
           dsimp only at H
           cases q258 : f_X9_readNumber s252 (s252.2.2.1 18 (Int32.toNatClampNeg l1)) 99999 with
           | none => rw [q258] at H; cases H
           | some w =>
            obtain ⟨r256, s257⟩ := w
            rw [q258] at H
            dsimp only at H
            refine pm_Wg.path (k := 7) (ds := [0]) (f' := (245, [some (.ref 64), some (.int l1), some (.int l2)], [.int 99999, .int (s252.2.2.1 18 (Int32.toNatClampNeg l1)), .ref 64], mo_h gx s252 gs q)) tk_X9_readLine (by omega) rfl ⟨pm_inb_vp b255, h254, trivial⟩ ?_
            refine pm_Wg.callV (m' := 170) (ix := 129) (rr := 246) (pl := 1560) (b := 64) (As := [.int (s252.2.2.1 18 (Int32.toNatClampNeg l1)), .int 99999]) (S := []) (by decide) rfl (pm_dec tk_X9_readLine rfl) rfl rfl (by decide) rfl rfl (by decide) (Nat.le_of_ble_eq_true rfl) rfl (e_X9_readNumber d (by omega) gx gs q _ _ _ _ _ q258) ?_
            by_cases h259 : r256 = 0
            · rw [if_pos h259] at H
              injection H with H
              injection H with H1 H2
              subst H1
              subst H2
              refine pm_Wg.path (k := 2) (ds := [0]) (f' := (252, [some (.ref 64), some (.int l1), some (.int l2)], [.int 0], mo_h gx s257 gs q)) tk_X9_readLine (by omega) rfl ⟨h259, trivial⟩ ?_
              exact pm_Wg.iret (pm_dec tk_X9_readLine rfl) rfl rfl
            · rw [if_neg h259] at H
              cases b260 : pm_inb (l1 + 4) 500 with
              | false => rw [b260] at H; cases H
              | true =>
               rw [b260] at H
               dsimp only at H
               refine pm_Wg.path (k := 14) (ds := [1]) (f' := (272, [some (.ref 64), some (.int l1), some (.int l2)], [.int (((mo_a s257 18 (l1 + 4) (s257.1 13)).1 20) + 1), .ref 64], mo_h gx (mo_a s257 18 (l1 + 4) (s257.1 13)) gs q)) tk_X9_readLine (by omega) rfl ⟨pm_inb_vp b260, h259, trivial⟩ ?_
               exact ec_X9_readLine_c12 (d + 1) (by omega) gx gs q _ _ _ _ _ _ H
set_option maxRecDepth 20000 in
set_option maxHeartbeats 20000000 in
theorem ec_X9_readLine_c14 (d : Nat) (hd : 5 ≤ d) (gx : List pm_E) (gs : List (List pm_E)) (q : Nat × Nat × Nat) (s : mo_S) (l1 : Int32) (l2 : Int32) (k0 : Int32) (r : Int32) (s1 : mo_S) (H : fc_X9_readLine_c14 s l1 l2 k0 = some (r, s1)) : pm_Wg 182 d (.inl (some (.int r))) (mo_h gx s1 gs q) (272, [some (.ref 64), some (.int l1), some (.int l2)], [.int k0, .ref 64], mo_h gx s gs q) := by
  obtain ⟨d, rfl⟩ : ∃ d', d = d' + 1 := ⟨d - 1, by omega⟩
  unfold fc_X9_readLine_c14 at H
  try dsimp only at H
  cases q297 : f_X9_readSemicolon (mo_i s 20 k0) with
  | none => rw [q297] at H; cases H
  | some w =>
   obtain ⟨r295, s296⟩ := w
   rw [q297] at H
   dsimp only at H
   refine pm_Wg.path (k := 2) (ds := []) (f' := (276, [some (.ref 64), some (.int l1), some (.int l2)], [.ref 64], mo_h gx (mo_i s 20 k0) gs q)) tk_X9_readLine (by omega) rfl trivial ?_
   refine pm_Wg.callV (m' := 173) (ix := 154) (rr := 248) (pl := 1570) (b := 64) (As := []) (S := []) (by decide) rfl (pm_dec tk_X9_readLine rfl) rfl rfl (by decide) rfl rfl (by decide) (Nat.le_of_ble_eq_true rfl) rfl (e_X9_readSemicolon d (by omega) gx gs q _ _ _ q297) ?_
   by_cases z298 : r295 &&& 1 = r295
   case neg => rw [if_neg z298] at H; cases H
   rw [if_pos z298] at H
   injection H with H
   injection H with H1 H2
   subst H1
   subst H2
   exact pm_Wg.iret (pm_dec tk_X9_readLine rfl) rfl (pm_nb1 z298)
set_option maxRecDepth 20000 in
set_option maxHeartbeats 20000000 in
theorem ec_X9_readLine_c13 (d : Nat) (hd : 5 ≤ d) (gx : List pm_E) (gs : List (List pm_E)) (q : Nat × Nat × Nat) (s : mo_S) (l1 : Int32) (l2 : Int32) (k0 : Int32) (k1 : Int32) (r : Int32) (s1 : mo_S) (H : fc_X9_readLine_c13 s l1 l2 k0 k1 = some (r, s1)) : pm_Wg 182 d (.inl (some (.int r))) (mo_h gx s1 gs q) (215, [some (.ref 64), some (.int l1), some (.int l2)], [.int k0, .int k1, .ref 73], mo_h gx s gs q) := by
  obtain ⟨d, rfl⟩ : ∃ d', d = d' + 1 := ⟨d - 1, by omega⟩
  unfold fc_X9_readLine_c13 at H
  try dsimp only at H
  cases b274 : pm_inb k1 500 with
  | false => rw [b274] at H; cases H
  | true =>
   rw [b274] at H
   dsimp only at H
   cases q277 : f_X9_peek (mo_a s 18 k1 k0) with
   | none => rw [q277] at H; cases H
   | some w =>
    obtain ⟨r275, s276⟩ := w
    rw [q277] at H
    dsimp only at H
    refine pm_Wg.path (k := 2) (ds := []) (f' := (217, [some (.ref 64), some (.int l1), some (.int l2)], [.ref 64], mo_h gx (mo_a s 18 k1 k0) gs q)) tk_X9_readLine (by omega) rfl ⟨pm_inb_vp b274, trivial⟩ ?_
    refine pm_Wg.callV (m' := 165) (ix := 95) (rr := 240) (pl := 1535) (b := 64) (As := []) (S := []) (by decide) rfl (pm_dec tk_X9_readLine rfl) rfl rfl (by decide) rfl rfl (by decide) (Nat.le_of_ble_eq_true rfl) rfl (e_X9_peek d (by omega) gx gs q _ _ _ q277) ?_
    cases q279 : f_X9_isLetter s276 r275 with
    | none => rw [q279] at H; cases H
    | some r278 =>
     rw [q279] at H
     dsimp only at H
     refine pm_Wg.callS (m' := 163) (ix := 98) (rr := 242) (pl := 1543) (As := [.int r275]) (S := []) (by decide) rfl (pm_dec tk_X9_readLine rfl) rfl rfl rfl (Nat.le_of_ble_eq_true rfl) rfl (e_X9_isLetter d (by omega) gx gs q _ _ _ q279) ?_
     by_cases h280 : r278 = 0
     · rw [if_pos h280] at H
       cases q283 : f_X9_readSemicolon (mo_i s276 20 ((s276.1 20) + 1)) with
       | none => rw [q283] at H; cases H
       | some w =>
        obtain ⟨r281, s282⟩ := w
        rw [q283] at H
        dsimp only at H
        refine pm_Wg.path (k := 8) (ds := [1]) (f' := (276, [some (.ref 64), some (.int l1), some (.int l2)], [.ref 64], mo_h gx (mo_i s276 20 ((s276.1 20) + 1)) gs q)) tk_X9_readLine (by omega) rfl ⟨h280, trivial⟩ ?_
        refine pm_Wg.callV (m' := 173) (ix := 154) (rr := 248) (pl := 1570) (b := 64) (As := []) (S := []) (by decide) rfl (pm_dec tk_X9_readLine rfl) rfl rfl (by decide) rfl rfl (by decide) (Nat.le_of_ble_eq_true rfl) rfl (e_X9_readSemicolon d (by omega) gx gs q _ _ _ q283) ?_
        by_cases z284 : r281 &&& 1 = r281
        case neg => rw [if_neg z284] at H; cases H
        rw [if_pos z284] at H
        injection H with H
        injection H with H1 H2
        subst H1
        subst H2
        exact pm_Wg.iret (pm_dec tk_X9_readLine rfl) rfl (pm_nb1 z284)
     · rw [if_neg h280] at H
       cases q287 : f_X9_takesWord s276 89 with
       | none => rw [q287] at H; cases H
       | some w =>
        obtain ⟨r285, s286⟩ := w
        rw [q287] at H
        dsimp only at H
        refine pm_Wg.path (k := 3) (ds := [0]) (f' := (230, [some (.ref 64), some (.int l1), some (.int l2)], [.long 89, .ref 64], mo_h gx s276 gs q)) tk_X9_readLine (by omega) rfl ⟨h280, trivial⟩ ?_
        refine pm_Wg.callV (m' := 169) (ix := 132) (rr := 238) (pl := 1527) (b := 64) (As := [.long 89]) (S := []) (by decide) rfl (pm_dec tk_X9_readLine rfl) rfl rfl (by decide) rfl rfl (by decide) (Nat.le_of_ble_eq_true rfl) rfl (e_X9_takesWord d (by omega) gx gs q _ _ _ _ q287) ?_
        by_cases h288 : r285 = 0
        · rw [if_pos h288] at H
          injection H with H
          injection H with H1 H2
          subst H1
          subst H2
          refine pm_Wg.path (k := 2) (ds := [1]) (f' := (252, [some (.ref 64), some (.int l1), some (.int l2)], [.int 0], mo_h gx s286 gs q)) tk_X9_readLine (by omega) rfl ⟨h288, trivial⟩ ?_
          exact pm_Wg.iret (pm_dec tk_X9_readLine rfl) rfl rfl
        · rw [if_neg h288] at H
          cases b289 : pm_inb l1 500 with
          | false => rw [b289] at H; cases H
          | true =>
           rw [b289] at H
           dsimp only at H
           cases q292 : f_X9_readNumber s286 (s286.2.2.1 18 (Int32.toNatClampNeg l1)) 99999 with
           | none => rw [q292] at H; cases H
           | some w =>
            obtain ⟨r290, s291⟩ := w
            rw [q292] at H
            dsimp only at H
            refine pm_Wg.path (k := 7) (ds := [0]) (f' := (245, [some (.ref 64), some (.int l1), some (.int l2)], [.int 99999, .int (s286.2.2.1 18 (Int32.toNatClampNeg l1)), .ref 64], mo_h gx s286 gs q)) tk_X9_readLine (by omega) rfl ⟨pm_inb_vp b289, h288, trivial⟩ ?_
            refine pm_Wg.callV (m' := 170) (ix := 129) (rr := 246) (pl := 1560) (b := 64) (As := [.int (s286.2.2.1 18 (Int32.toNatClampNeg l1)), .int 99999]) (S := []) (by decide) rfl (pm_dec tk_X9_readLine rfl) rfl rfl (by decide) rfl rfl (by decide) (Nat.le_of_ble_eq_true rfl) rfl (e_X9_readNumber d (by omega) gx gs q _ _ _ _ _ q292) ?_
            by_cases h293 : r290 = 0
            · rw [if_pos h293] at H
              injection H with H
              injection H with H1 H2
              subst H1
              subst H2
              refine pm_Wg.path (k := 2) (ds := [0]) (f' := (252, [some (.ref 64), some (.int l1), some (.int l2)], [.int 0], mo_h gx s291 gs q)) tk_X9_readLine (by omega) rfl ⟨h293, trivial⟩ ?_
              exact pm_Wg.iret (pm_dec tk_X9_readLine rfl) rfl rfl
            · rw [if_neg h293] at H
              cases b294 : pm_inb (l1 + 4) 500 with
              | false => rw [b294] at H; cases H
              | true =>
               rw [b294] at H
               dsimp only at H
               refine pm_Wg.path (k := 14) (ds := [1]) (f' := (272, [some (.ref 64), some (.int l1), some (.int l2)], [.int (((mo_a s291 18 (l1 + 4) (s291.1 13)).1 20) + 1), .ref 64], mo_h gx (mo_a s291 18 (l1 + 4) (s291.1 13)) gs q)) tk_X9_readLine (by omega) rfl ⟨pm_inb_vp b294, h293, trivial⟩ ?_
               exact ec_X9_readLine_c14 (d + 1) (by omega) gx gs q _ _ _ _ _ _ H
set_option maxRecDepth 20000 in
set_option maxHeartbeats 20000000 in
theorem ec_X9_readLine_c16 (d : Nat) (hd : 5 ≤ d) (gx : List pm_E) (gs : List (List pm_E)) (q : Nat × Nat × Nat) (s : mo_S) (l1 : Int32) (l2 : Int32) (k0 : Int32) (r : Int32) (s1 : mo_S) (H : fc_X9_readLine_c16 s l1 l2 k0 = some (r, s1)) : pm_Wg 182 d (.inl (some (.int r))) (mo_h gx s1 gs q) (272, [some (.ref 64), some (.int l1), some (.int l2)], [.int k0, .ref 64], mo_h gx s gs q) := by
  obtain ⟨d, rfl⟩ : ∃ d', d = d' + 1 := ⟨d - 1, by omega⟩
  unfold fc_X9_readLine_c16 at H
  try dsimp only at H
  cases q331 : f_X9_readSemicolon (mo_i s 20 k0) with
  | none => rw [q331] at H; cases H
  | some w =>
   obtain ⟨r329, s330⟩ := w
   rw [q331] at H
   dsimp only at H
   refine pm_Wg.path (k := 2) (ds := []) (f' := (276, [some (.ref 64), some (.int l1), some (.int l2)], [.ref 64], mo_h gx (mo_i s 20 k0) gs q)) tk_X9_readLine (by omega) rfl trivial ?_
   refine pm_Wg.callV (m' := 173) (ix := 154) (rr := 248) (pl := 1570) (b := 64) (As := []) (S := []) (by decide) rfl (pm_dec tk_X9_readLine rfl) rfl rfl (by decide) rfl rfl (by decide) (Nat.le_of_ble_eq_true rfl) rfl (e_X9_readSemicolon d (by omega) gx gs q _ _ _ q331) ?_
   by_cases z332 : r329 &&& 1 = r329
   case neg => rw [if_neg z332] at H; cases H
   rw [if_pos z332] at H
   injection H with H
   injection H with H1 H2
   subst H1
   subst H2
   exact pm_Wg.iret (pm_dec tk_X9_readLine rfl) rfl (pm_nb1 z332)
set_option maxRecDepth 20000 in
set_option maxHeartbeats 20000000 in
theorem ec_X9_readLine_c15 (d : Nat) (hd : 5 ≤ d) (gx : List pm_E) (gs : List (List pm_E)) (q : Nat × Nat × Nat) (s : mo_S) (l1 : Int32) (l2 : Int32) (k0 : Int32) (k1 : Int32) (r : Int32) (s1 : mo_S) (H : fc_X9_readLine_c15 s l1 l2 k0 k1 = some (r, s1)) : pm_Wg 182 d (.inl (some (.int r))) (mo_h gx s1 gs q) (215, [some (.ref 64), some (.int l1), some (.int l2)], [.int k0, .int k1, .ref 73], mo_h gx s gs q) := by
  obtain ⟨d, rfl⟩ : ∃ d', d = d' + 1 := ⟨d - 1, by omega⟩
  unfold fc_X9_readLine_c15 at H
  try dsimp only at H
  cases b308 : pm_inb k1 500 with
  | false => rw [b308] at H; cases H
  | true =>
   rw [b308] at H
   dsimp only at H
   cases q311 : f_X9_peek (mo_a s 18 k1 k0) with
   | none => rw [q311] at H; cases H
   | some w =>
    obtain ⟨r309, s310⟩ := w
    rw [q311] at H
    dsimp only at H
    refine pm_Wg.path (k := 2) (ds := []) (f' := (217, [some (.ref 64), some (.int l1), some (.int l2)], [.ref 64], mo_h gx (mo_a s 18 k1 k0) gs q)) tk_X9_readLine (by omega) rfl ⟨pm_inb_vp b308, trivial⟩ ?_
    refine pm_Wg.callV (m' := 165) (ix := 95) (rr := 240) (pl := 1535) (b := 64) (As := []) (S := []) (by decide) rfl (pm_dec tk_X9_readLine rfl) rfl rfl (by decide) rfl rfl (by decide) (Nat.le_of_ble_eq_true rfl) rfl (e_X9_peek d (by omega) gx gs q _ _ _ q311) ?_
    cases q313 : f_X9_isLetter s310 r309 with
    | none => rw [q313] at H; cases H
    | some r312 =>
     rw [q313] at H
     dsimp only at H
     refine pm_Wg.callS (m' := 163) (ix := 98) (rr := 242) (pl := 1543) (As := [.int r309]) (S := []) (by decide) rfl (pm_dec tk_X9_readLine rfl) rfl rfl rfl (Nat.le_of_ble_eq_true rfl) rfl (e_X9_isLetter d (by omega) gx gs q _ _ _ q313) ?_
     by_cases h314 : r312 = 0
     · rw [if_pos h314] at H
       cases q317 : f_X9_readSemicolon (mo_i s310 20 ((s310.1 20) + 1)) with
       | none => rw [q317] at H; cases H
       | some w =>
        obtain ⟨r315, s316⟩ := w
        rw [q317] at H
        dsimp only at H
        refine pm_Wg.path (k := 8) (ds := [1]) (f' := (276, [some (.ref 64), some (.int l1), some (.int l2)], [.ref 64], mo_h gx (mo_i s310 20 ((s310.1 20) + 1)) gs q)) tk_X9_readLine (by omega) rfl ⟨h314, trivial⟩ ?_
        refine pm_Wg.callV (m' := 173) (ix := 154) (rr := 248) (pl := 1570) (b := 64) (As := []) (S := []) (by decide) rfl (pm_dec tk_X9_readLine rfl) rfl rfl (by decide) rfl rfl (by decide) (Nat.le_of_ble_eq_true rfl) rfl (e_X9_readSemicolon d (by omega) gx gs q _ _ _ q317) ?_
        by_cases z318 : r315 &&& 1 = r315
        case neg => rw [if_neg z318] at H; cases H
        rw [if_pos z318] at H
        injection H with H
        injection H with H1 H2
        subst H1
        subst H2
        exact pm_Wg.iret (pm_dec tk_X9_readLine rfl) rfl (pm_nb1 z318)
     · rw [if_neg h314] at H
       cases q321 : f_X9_takesWord s310 89 with
       | none => rw [q321] at H; cases H
       | some w =>
        obtain ⟨r319, s320⟩ := w
        rw [q321] at H
        dsimp only at H
        refine pm_Wg.path (k := 3) (ds := [0]) (f' := (230, [some (.ref 64), some (.int l1), some (.int l2)], [.long 89, .ref 64], mo_h gx s310 gs q)) tk_X9_readLine (by omega) rfl ⟨h314, trivial⟩ ?_
        refine pm_Wg.callV (m' := 169) (ix := 132) (rr := 238) (pl := 1527) (b := 64) (As := [.long 89]) (S := []) (by decide) rfl (pm_dec tk_X9_readLine rfl) rfl rfl (by decide) rfl rfl (by decide) (Nat.le_of_ble_eq_true rfl) rfl (e_X9_takesWord d (by omega) gx gs q _ _ _ _ q321) ?_
        by_cases h322 : r319 = 0
        · rw [if_pos h322] at H
          injection H with H
          injection H with H1 H2
          subst H1
          subst H2
          refine pm_Wg.path (k := 2) (ds := [1]) (f' := (252, [some (.ref 64), some (.int l1), some (.int l2)], [.int 0], mo_h gx s320 gs q)) tk_X9_readLine (by omega) rfl ⟨h322, trivial⟩ ?_
          exact pm_Wg.iret (pm_dec tk_X9_readLine rfl) rfl rfl
        · rw [if_neg h322] at H
          cases b323 : pm_inb l1 500 with
          | false => rw [b323] at H; cases H
          | true =>
           rw [b323] at H
           dsimp only at H
           cases q326 : f_X9_readNumber s320 (s320.2.2.1 18 (Int32.toNatClampNeg l1)) 99999 with
           | none => rw [q326] at H; cases H
           | some w =>
            obtain ⟨r324, s325⟩ := w
            rw [q326] at H
            dsimp only at H
            refine pm_Wg.path (k := 7) (ds := [0]) (f' := (245, [some (.ref 64), some (.int l1), some (.int l2)], [.int 99999, .int (s320.2.2.1 18 (Int32.toNatClampNeg l1)), .ref 64], mo_h gx s320 gs q)) tk_X9_readLine (by omega) rfl ⟨pm_inb_vp b323, h322, trivial⟩ ?_
            refine pm_Wg.callV (m' := 170) (ix := 129) (rr := 246) (pl := 1560) (b := 64) (As := [.int (s320.2.2.1 18 (Int32.toNatClampNeg l1)), .int 99999]) (S := []) (by decide) rfl (pm_dec tk_X9_readLine rfl) rfl rfl (by decide) rfl rfl (by decide) (Nat.le_of_ble_eq_true rfl) rfl (e_X9_readNumber d (by omega) gx gs q _ _ _ _ _ q326) ?_
            by_cases h327 : r324 = 0
            · rw [if_pos h327] at H
              injection H with H
              injection H with H1 H2
              subst H1
              subst H2
              refine pm_Wg.path (k := 2) (ds := [0]) (f' := (252, [some (.ref 64), some (.int l1), some (.int l2)], [.int 0], mo_h gx s325 gs q)) tk_X9_readLine (by omega) rfl ⟨h327, trivial⟩ ?_
              exact pm_Wg.iret (pm_dec tk_X9_readLine rfl) rfl rfl
            · rw [if_neg h327] at H
              cases b328 : pm_inb (l1 + 4) 500 with
              | false => rw [b328] at H; cases H
              | true =>
               rw [b328] at H
               dsimp only at H
               refine pm_Wg.path (k := 14) (ds := [1]) (f' := (272, [some (.ref 64), some (.int l1), some (.int l2)], [.int (((mo_a s325 18 (l1 + 4) (s325.1 13)).1 20) + 1), .ref 64], mo_h gx (mo_a s325 18 (l1 + 4) (s325.1 13)) gs q)) tk_X9_readLine (by omega) rfl ⟨pm_inb_vp b328, h327, trivial⟩ ?_
               exact ec_X9_readLine_c16 (d + 1) (by omega) gx gs q _ _ _ _ _ _ H
set_option maxRecDepth 20000 in
set_option maxHeartbeats 20000000 in
theorem e_X9_readLine (d : Nat) (hd : 5 ≤ d) (gx : List pm_E) (gs : List (List pm_E)) (q : Nat × Nat × Nat) (s : mo_S) (r : Int32) (s1 : mo_S) (H : f_X9_readLine s = some (r, s1)) : pm_Mt 182 d [.ref 64] (mo_h gx s gs q) (.inl (some (.int r))) (mo_h gx s1 gs q) := by
  refine pm_Mt.of (by decide) (by decide +kernel) rfl rfl ?_
  obtain ⟨d, rfl⟩ : ∃ d', d = d' + 1 := ⟨d - 1, by omega⟩
  unfold f_X9_readLine at H
  by_cases h1 : (s.1 20) = 100
  · rw [if_pos h1] at H
    cases q4 : f_X9_fails s 3 (s.1 12) with
    | none => rw [q4] at H; cases H
    | some w =>
     obtain ⟨r2, s3⟩ := w
     rw [q4] at H
     dsimp only at H
     refine pm_Wg.path (k := 8) (ds := [0]) (f' := (15, [some (.ref 64), none, none], [.int (s.1 12), .int 3, .ref 64], mo_h gx s gs q)) tk_X9_readLine (by omega) rfl ⟨h1, trivial⟩ ?_
     refine pm_Wg.callV (m' := 166) (ix := 105) (rr := 243) (pl := 1546) (b := 64) (As := [.int 3, .int (s.1 12)]) (S := []) (by decide) rfl (pm_dec tk_X9_readLine rfl) rfl rfl (by decide) rfl rfl (by decide) (Nat.le_of_ble_eq_true rfl) rfl (e_X9_fails d (by omega) gx gs q _ _ _ _ _ q4) ?_
     by_cases z5 : r2 &&& 1 = r2
     case neg => rw [if_neg z5] at H; cases H
     rw [if_pos z5] at H
     injection H with H
     injection H with H1 H2
     subst H1
     subst H2
     exact pm_Wg.iret (pm_dec tk_X9_readLine rfl) rfl (pm_nb1 z5)
  · rw [if_neg h1] at H
    cases q7 : f_X9_passWord s with
    | none => rw [q7] at H; cases H
    | some s6 =>
     rw [q7] at H
     dsimp only at H
     refine pm_Wg.path (k := 5) (ds := [1]) (f' := (20, [some (.ref 64), none, none], [.ref 64], mo_h gx s gs q)) tk_X9_readLine (by omega) rfl ⟨h1, trivial⟩ ?_
     refine pm_Wg.callV (m' := 168) (ix := 120) (rr := 244) (pl := 1552) (b := 64) (As := []) (S := []) (by decide) rfl (pm_dec tk_X9_readLine rfl) rfl rfl (by decide) rfl rfl (by decide) (Nat.le_of_ble_eq_true rfl) rfl (e_X9_passWord d (by omega) gx gs q _ _ q7) ?_
     by_cases h8 : (s6.1 20) = 0
     · rw [if_pos h8] at H
       cases b9 : pm_inb 0 18186 with
       | false => rw [b9] at H; cases H
       | true =>
        rw [b9] at H
        dsimp only at H
        cases q13 : f_X9_readNumber s6 ((s6.2.2.1 3 (Int32.toNatClampNeg 0)) + 1) 99999 with
        | none => rw [q13] at H; cases H
        | some w =>
         obtain ⟨r11, s12⟩ := w
         rw [q13] at H
         dsimp only at H
         refine pm_Wg.path (k := 19) (ds := [0]) (f' := (61, [some (.ref 64), some (.int (5 * (s6.1 20))), some (.int ((s6.2.2.1 3 (Int32.toNatClampNeg 0)) + 1))], [.int 99999, .int ((s6.2.2.1 3 (Int32.toNatClampNeg 0)) + 1), .ref 64], mo_h gx s6 gs q)) tk_X9_readLine (by omega) rfl ⟨pm_inb_vp b9, h8, trivial⟩ ?_
         refine pm_Wg.callV (m' := 170) (ix := 129) (rr := 246) (pl := 1560) (b := 64) (As := [.int ((s6.2.2.1 3 (Int32.toNatClampNeg 0)) + 1), .int 99999]) (S := []) (by decide) rfl (pm_dec tk_X9_readLine rfl) rfl rfl (by decide) rfl rfl (by decide) (Nat.le_of_ble_eq_true rfl) rfl (e_X9_readNumber d (by omega) gx gs q _ _ _ _ _ q13) ?_
         by_cases h14 : r11 = 0
         · rw [if_pos h14] at H
           injection H with H
           injection H with H1 H2
           subst H1
           subst H2
           refine pm_Wg.path (k := 2) (ds := [0]) (f' := (68, [some (.ref 64), some (.int (5 * (s6.1 20))), some (.int ((s6.2.2.1 3 (Int32.toNatClampNeg 0)) + 1))], [.int 0], mo_h gx s12 gs q)) tk_X9_readLine (by omega) rfl ⟨h14, trivial⟩ ?_
           exact pm_Wg.iret (pm_dec tk_X9_readLine rfl) rfl rfl
         · rw [if_neg h14] at H
           cases b15 : pm_inb (5 * (s6.1 20)) 500 with
           | false => rw [b15] at H; cases H
           | true =>
            rw [b15] at H
            dsimp only at H
            cases b16 : pm_inb 6 26 with
            | false => rw [b16] at H; cases H
            | true =>
             rw [b16] at H
             dsimp only at H
             cases q19 : f_X9_readNumber (mo_a s12 18 (5 * (s6.1 20)) (s12.1 13)) 1 (((mo_a s12 18 (5 * (s6.1 20)) (s12.1 13)).2.2.1 0 (Int32.toNatClampNeg 6)) - 1) with
             | none => rw [q19] at H; cases H
             | some w =>
              obtain ⟨r17, s18⟩ := w
              rw [q19] at H
              dsimp only at H
              refine pm_Wg.path (k := 15) (ds := [1]) (f' := (90, [some (.ref 64), some (.int (5 * (s6.1 20))), some (.int ((s6.2.2.1 3 (Int32.toNatClampNeg 0)) + 1))], [.int (((mo_a s12 18 (5 * (s6.1 20)) (s12.1 13)).2.2.1 0 (Int32.toNatClampNeg 6)) - 1), .int 1, .ref 64], mo_h gx (mo_a s12 18 (5 * (s6.1 20)) (s12.1 13)) gs q)) tk_X9_readLine (by omega) rfl ⟨pm_inb_vp b16, pm_inb_vp b15, h14, trivial⟩ ?_
              refine pm_Wg.callV (m' := 170) (ix := 129) (rr := 246) (pl := 1560) (b := 64) (As := [.int 1, .int (((mo_a s12 18 (5 * (s6.1 20)) (s12.1 13)).2.2.1 0 (Int32.toNatClampNeg 6)) - 1)]) (S := []) (by decide) rfl (pm_dec tk_X9_readLine rfl) rfl rfl (by decide) rfl rfl (by decide) (Nat.le_of_ble_eq_true rfl) rfl (e_X9_readNumber d (by omega) gx gs q _ _ _ _ _ q19) ?_
              by_cases h20 : r17 = 0
              · rw [if_pos h20] at H
                injection H with H
                injection H with H1 H2
                subst H1
                subst H2
                refine pm_Wg.path (k := 2) (ds := [0]) (f' := (97, [some (.ref 64), some (.int (5 * (s6.1 20))), some (.int ((s6.2.2.1 3 (Int32.toNatClampNeg 0)) + 1))], [.int 0], mo_h gx s18 gs q)) tk_X9_readLine (by omega) rfl ⟨h20, trivial⟩ ?_
                exact pm_Wg.iret (pm_dec tk_X9_readLine rfl) rfl rfl
              · rw [if_neg h20] at H
                cases b21 : pm_inb ((5 * (s6.1 20)) + 1) 500 with
                | false => rw [b21] at H; cases H
                | true =>
                 rw [b21] at H
                 dsimp only at H
                 cases q24 : f_X9_seesWord (mo_a s18 18 ((5 * (s6.1 20)) + 1) (s18.1 13)) with
                 | none => rw [q24] at H; cases H
                 | some w =>
                  obtain ⟨r22, s23⟩ := w
                  rw [q24] at H
                  dsimp only at H
                  refine pm_Wg.path (k := 10) (ds := [1]) (f' := (111, [some (.ref 64), some (.int (5 * (s6.1 20))), some (.int ((s6.2.2.1 3 (Int32.toNatClampNeg 0)) + 1))], [.ref 64], mo_h gx (mo_a s18 18 ((5 * (s6.1 20)) + 1) (s18.1 13)) gs q)) tk_X9_readLine (by omega) rfl ⟨pm_inb_vp b21, h20, trivial⟩ ?_
                  refine pm_Wg.callV (m' := 167) (ix := 117) (rr := 239) (pl := 1531) (b := 64) (As := []) (S := []) (by decide) rfl (pm_dec tk_X9_readLine rfl) rfl rfl (by decide) rfl rfl (by decide) (Nat.le_of_ble_eq_true rfl) rfl (e_X9_seesWord d (by omega) gx gs q _ _ _ q24) ?_
                  by_cases h25 : r22 = 0
                  · rw [if_pos h25] at H
                    injection H with H
                    injection H with H1 H2
                    subst H1
                    subst H2
                    refine pm_Wg.path (k := 2) (ds := [0]) (f' := (118, [some (.ref 64), some (.int (5 * (s6.1 20))), some (.int ((s6.2.2.1 3 (Int32.toNatClampNeg 0)) + 1))], [.int 0], mo_h gx s23 gs q)) tk_X9_readLine (by omega) rfl ⟨h25, trivial⟩ ?_
                    exact pm_Wg.iret (pm_dec tk_X9_readLine rfl) rfl rfl
                  · rw [if_neg h25] at H
                    by_cases h26 : (lg_cmp s23.2.1 19039379) = 0
                    · rw [if_pos h26] at H
                      by_cases h27 : (lg_cmp s23.2.1 790941875) = 0
                      · rw [if_pos h27] at H
                        cases b28 : pm_inb ((5 * (s6.1 20)) + 2) 500 with
                        | false => rw [b28] at H; cases H
                        | true =>
                         rw [b28] at H
                         dsimp only at H
                         cases q35 : f_X9_passWord (mo_a s23 18 ((5 * (s6.1 20)) + 2) 1) with
                         | none => rw [q35] at H; cases H
                         | some s34 =>
                          rw [q35] at H
                          dsimp only at H
                          refine pm_Wg.path (k := 20) (ds := [1, 1, 0]) (f' := (176, [some (.ref 64), some (.int (5 * (s6.1 20))), some (.int ((s6.2.2.1 3 (Int32.toNatClampNeg 0)) + 1))], [.ref 64], mo_h gx (mo_a s23 18 ((5 * (s6.1 20)) + 2) 1) gs q)) tk_X9_readLine (by omega) rfl ⟨pm_inb_vp b28, h27, h26, h25, trivial⟩ ?_
                          refine pm_Wg.callV (m' := 168) (ix := 120) (rr := 244) (pl := 1552) (b := 64) (As := []) (S := []) (by decide) rfl (pm_dec tk_X9_readLine rfl) rfl rfl (by decide) rfl rfl (by decide) (Nat.le_of_ble_eq_true rfl) rfl (e_X9_passWord d (by omega) gx gs q _ _ q35) ?_
                          cases q37 : f_X9_units s34 with
                          | none => rw [q37] at H; cases H
                          | some r36 =>
                           rw [q37] at H
                           dsimp only at H
                           refine pm_Wg.path (k := 3) (ds := []) (f' := (182, [some (.ref 64), some (.int (5 * (s6.1 20))), some (.int ((s6.2.2.1 3 (Int32.toNatClampNeg 0)) + 1))], [.ref 64, .int 0, .ref 64], mo_h gx s34 gs q)) tk_X9_readLine (by omega) rfl trivial ?_
                           refine pm_Wg.callV (m' := 154) (ix := 63) (rr := 257) (pl := 1614) (b := 64) (As := []) (S := [.int 0, .ref 64]) (by decide) rfl (pm_dec tk_X9_readLine rfl) rfl rfl (by decide) rfl rfl (by decide) (Nat.le_of_ble_eq_true rfl) rfl (e_X9_units d (by omega) gx gs q _ _ q37) ?_
                           cases q40 : f_X9_readNumber s34 0 (r36 - 1) with
                           | none => rw [q40] at H; cases H
                           | some w =>
                            obtain ⟨r38, s39⟩ := w
                            rw [q40] at H
                            dsimp only at H
                            refine pm_Wg.path (k := 2) (ds := []) (f' := (187, [some (.ref 64), some (.int (5 * (s6.1 20))), some (.int ((s6.2.2.1 3 (Int32.toNatClampNeg 0)) + 1))], [.int (r36 - 1), .int 0, .ref 64], mo_h gx s34 gs q)) tk_X9_readLine (by omega) rfl trivial ?_
                            refine pm_Wg.callV (m' := 170) (ix := 129) (rr := 246) (pl := 1560) (b := 64) (As := [.int 0, .int (r36 - 1)]) (S := []) (by decide) rfl (pm_dec tk_X9_readLine rfl) rfl rfl (by decide) rfl rfl (by decide) (Nat.le_of_ble_eq_true rfl) rfl (e_X9_readNumber d (by omega) gx gs q _ _ _ _ _ q40) ?_
                            by_cases h41 : r38 = 0
                            · rw [if_pos h41] at H
                              injection H with H
                              injection H with H1 H2
                              subst H1
                              subst H2
                              refine pm_Wg.path (k := 2) (ds := [0]) (f' := (194, [some (.ref 64), some (.int (5 * (s6.1 20))), some (.int ((s6.2.2.1 3 (Int32.toNatClampNeg 0)) + 1))], [.int 0], mo_h gx s39 gs q)) tk_X9_readLine (by omega) rfl ⟨h41, trivial⟩ ?_
                              exact pm_Wg.iret (pm_dec tk_X9_readLine rfl) rfl rfl
                            · rw [if_neg h41] at H
                              cases b42 : pm_inb ((5 * (s6.1 20)) + 3) 500 with
                              | false => rw [b42] at H; cases H
                              | true =>
                               rw [b42] at H
                               dsimp only at H
                               refine pm_Wg.path (k := 15) (ds := [1]) (f' := (215, [some (.ref 64), some (.int (5 * (s6.1 20))), some (.int ((s6.2.2.1 3 (Int32.toNatClampNeg 0)) + 1))], [.int (-1), .int ((5 * (s6.1 20)) + 4), .ref 73], mo_h gx (mo_a s39 18 ((5 * (s6.1 20)) + 3) (s39.1 13)) gs q)) tk_X9_readLine (by omega) rfl ⟨pm_inb_vp b42, h41, trivial⟩ ?_
                               exact ec_X9_readLine_c1 (d + 1) (by omega) gx gs q _ _ _ _ _ _ _ H
                      · rw [if_neg h27] at H
                        cases b29 : pm_inb ((5 * (s6.1 20)) + 2) 500 with
                        | false => rw [b29] at H; cases H
                        | true =>
                         rw [b29] at H
                         dsimp only at H
                         cases q69 : f_X9_passWord (mo_a s23 18 ((5 * (s6.1 20)) + 2) 0) with
                         | none => rw [q69] at H; cases H
                         | some s68 =>
                          rw [q69] at H
                          dsimp only at H
                          refine pm_Wg.path (k := 19) (ds := [1, 1, 1]) (f' := (176, [some (.ref 64), some (.int (5 * (s6.1 20))), some (.int ((s6.2.2.1 3 (Int32.toNatClampNeg 0)) + 1))], [.ref 64], mo_h gx (mo_a s23 18 ((5 * (s6.1 20)) + 2) 0) gs q)) tk_X9_readLine (by omega) rfl ⟨pm_inb_vp b29, h27, h26, h25, trivial⟩ ?_
                          refine pm_Wg.callV (m' := 168) (ix := 120) (rr := 244) (pl := 1552) (b := 64) (As := []) (S := []) (by decide) rfl (pm_dec tk_X9_readLine rfl) rfl rfl (by decide) rfl rfl (by decide) (Nat.le_of_ble_eq_true rfl) rfl (e_X9_passWord d (by omega) gx gs q _ _ q69) ?_
                          cases q71 : f_X9_units s68 with
                          | none => rw [q71] at H; cases H
                          | some r70 =>
                           rw [q71] at H
                           dsimp only at H
                           refine pm_Wg.path (k := 3) (ds := []) (f' := (182, [some (.ref 64), some (.int (5 * (s6.1 20))), some (.int ((s6.2.2.1 3 (Int32.toNatClampNeg 0)) + 1))], [.ref 64, .int 0, .ref 64], mo_h gx s68 gs q)) tk_X9_readLine (by omega) rfl trivial ?_
                           refine pm_Wg.callV (m' := 154) (ix := 63) (rr := 257) (pl := 1614) (b := 64) (As := []) (S := [.int 0, .ref 64]) (by decide) rfl (pm_dec tk_X9_readLine rfl) rfl rfl (by decide) rfl rfl (by decide) (Nat.le_of_ble_eq_true rfl) rfl (e_X9_units d (by omega) gx gs q _ _ q71) ?_
                           cases q74 : f_X9_readNumber s68 0 (r70 - 1) with
                           | none => rw [q74] at H; cases H
                           | some w =>
                            obtain ⟨r72, s73⟩ := w
                            rw [q74] at H
                            dsimp only at H
                            refine pm_Wg.path (k := 2) (ds := []) (f' := (187, [some (.ref 64), some (.int (5 * (s6.1 20))), some (.int ((s6.2.2.1 3 (Int32.toNatClampNeg 0)) + 1))], [.int (r70 - 1), .int 0, .ref 64], mo_h gx s68 gs q)) tk_X9_readLine (by omega) rfl trivial ?_
                            refine pm_Wg.callV (m' := 170) (ix := 129) (rr := 246) (pl := 1560) (b := 64) (As := [.int 0, .int (r70 - 1)]) (S := []) (by decide) rfl (pm_dec tk_X9_readLine rfl) rfl rfl (by decide) rfl rfl (by decide) (Nat.le_of_ble_eq_true rfl) rfl (e_X9_readNumber d (by omega) gx gs q _ _ _ _ _ q74) ?_
                            by_cases h75 : r72 = 0
                            · rw [if_pos h75] at H
                              injection H with H
                              injection H with H1 H2
                              subst H1
                              subst H2
                              refine pm_Wg.path (k := 2) (ds := [0]) (f' := (194, [some (.ref 64), some (.int (5 * (s6.1 20))), some (.int ((s6.2.2.1 3 (Int32.toNatClampNeg 0)) + 1))], [.int 0], mo_h gx s73 gs q)) tk_X9_readLine (by omega) rfl ⟨h75, trivial⟩ ?_
                              exact pm_Wg.iret (pm_dec tk_X9_readLine rfl) rfl rfl
                            · rw [if_neg h75] at H
                              cases b76 : pm_inb ((5 * (s6.1 20)) + 3) 500 with
                              | false => rw [b76] at H; cases H
                              | true =>
                               rw [b76] at H
                               dsimp only at H
                               refine pm_Wg.path (k := 15) (ds := [1]) (f' := (215, [some (.ref 64), some (.int (5 * (s6.1 20))), some (.int ((s6.2.2.1 3 (Int32.toNatClampNeg 0)) + 1))], [.int (-1), .int ((5 * (s6.1 20)) + 4), .ref 73], mo_h gx (mo_a s73 18 ((5 * (s6.1 20)) + 3) (s73.1 13)) gs q)) tk_X9_readLine (by omega) rfl ⟨pm_inb_vp b76, h75, trivial⟩ ?_
                               exact ec_X9_readLine_c3 (d + 1) (by omega) gx gs q _ _ _ _ _ _ _ H
                    · rw [if_neg h26] at H
                      by_cases h30 : (lg_cmp s23.2.1 790941875) = 0
                      · rw [if_pos h30] at H
                        by_cases h31 : (lg_cmp s23.2.1 790941875) = 0
                        · rw [if_pos h31] at H
                          cases b32 : pm_inb ((5 * (s6.1 20)) + 2) 500 with
                          | false => rw [b32] at H; cases H
                          | true =>
                           rw [b32] at H
                           dsimp only at H
                           cases q103 : f_X9_passWord (mo_a s23 18 ((5 * (s6.1 20)) + 2) 1) with
                           | none => rw [q103] at H; cases H
                           | some s102 =>
                            rw [q103] at H
                            dsimp only at H
                            refine pm_Wg.path (k := 25) (ds := [1, 0, 1, 0]) (f' := (176, [some (.ref 64), some (.int (5 * (s6.1 20))), some (.int ((s6.2.2.1 3 (Int32.toNatClampNeg 0)) + 1))], [.ref 64], mo_h gx (mo_a s23 18 ((5 * (s6.1 20)) + 2) 1) gs q)) tk_X9_readLine (by omega) rfl ⟨pm_inb_vp b32, h31, h30, h26, h25, trivial⟩ ?_
                            refine pm_Wg.callV (m' := 168) (ix := 120) (rr := 244) (pl := 1552) (b := 64) (As := []) (S := []) (by decide) rfl (pm_dec tk_X9_readLine rfl) rfl rfl (by decide) rfl rfl (by decide) (Nat.le_of_ble_eq_true rfl) rfl (e_X9_passWord d (by omega) gx gs q _ _ q103) ?_
                            cases q105 : f_X9_units s102 with
                            | none => rw [q105] at H; cases H
                            | some r104 =>
                             rw [q105] at H
                             dsimp only at H
                             refine pm_Wg.path (k := 3) (ds := []) (f' := (182, [some (.ref 64), some (.int (5 * (s6.1 20))), some (.int ((s6.2.2.1 3 (Int32.toNatClampNeg 0)) + 1))], [.ref 64, .int 0, .ref 64], mo_h gx s102 gs q)) tk_X9_readLine (by omega) rfl trivial ?_
                             refine pm_Wg.callV (m' := 154) (ix := 63) (rr := 257) (pl := 1614) (b := 64) (As := []) (S := [.int 0, .ref 64]) (by decide) rfl (pm_dec tk_X9_readLine rfl) rfl rfl (by decide) rfl rfl (by decide) (Nat.le_of_ble_eq_true rfl) rfl (e_X9_units d (by omega) gx gs q _ _ q105) ?_
                             cases q108 : f_X9_readNumber s102 0 (r104 - 1) with
                             | none => rw [q108] at H; cases H
                             | some w =>
                              obtain ⟨r106, s107⟩ := w
                              rw [q108] at H
                              dsimp only at H
                              refine pm_Wg.path (k := 2) (ds := []) (f' := (187, [some (.ref 64), some (.int (5 * (s6.1 20))), some (.int ((s6.2.2.1 3 (Int32.toNatClampNeg 0)) + 1))], [.int (r104 - 1), .int 0, .ref 64], mo_h gx s102 gs q)) tk_X9_readLine (by omega) rfl trivial ?_
                              refine pm_Wg.callV (m' := 170) (ix := 129) (rr := 246) (pl := 1560) (b := 64) (As := [.int 0, .int (r104 - 1)]) (S := []) (by decide) rfl (pm_dec tk_X9_readLine rfl) rfl rfl (by decide) rfl rfl (by decide) (Nat.le_of_ble_eq_true rfl) rfl (e_X9_readNumber d (by omega) gx gs q _ _ _ _ _ q108) ?_
                              by_cases h109 : r106 = 0
                              · rw [if_pos h109] at H
                                injection H with H
                                injection H with H1 H2
                                subst H1
                                subst H2
                                refine pm_Wg.path (k := 2) (ds := [0]) (f' := (194, [some (.ref 64), some (.int (5 * (s6.1 20))), some (.int ((s6.2.2.1 3 (Int32.toNatClampNeg 0)) + 1))], [.int 0], mo_h gx s107 gs q)) tk_X9_readLine (by omega) rfl ⟨h109, trivial⟩ ?_
                                exact pm_Wg.iret (pm_dec tk_X9_readLine rfl) rfl rfl
                              · rw [if_neg h109] at H
                                cases b110 : pm_inb ((5 * (s6.1 20)) + 3) 500 with
                                | false => rw [b110] at H; cases H
                                | true =>
                                 rw [b110] at H
                                 dsimp only at H
                                 refine pm_Wg.path (k := 15) (ds := [1]) (f' := (215, [some (.ref 64), some (.int (5 * (s6.1 20))), some (.int ((s6.2.2.1 3 (Int32.toNatClampNeg 0)) + 1))], [.int (-1), .int ((5 * (s6.1 20)) + 4), .ref 73], mo_h gx (mo_a s107 18 ((5 * (s6.1 20)) + 3) (s107.1 13)) gs q)) tk_X9_readLine (by omega) rfl ⟨pm_inb_vp b110, h109, trivial⟩ ?_
                                 exact ec_X9_readLine_c5 (d + 1) (by omega) gx gs q _ _ _ _ _ _ _ H
                        · rw [if_neg h31] at H
                          cases b33 : pm_inb ((5 * (s6.1 20)) + 2) 500 with
                          | false => rw [b33] at H; cases H
                          | true =>
                           rw [b33] at H
                           dsimp only at H
                           cases q137 : f_X9_passWord (mo_a s23 18 ((5 * (s6.1 20)) + 2) 0) with
                           | none => rw [q137] at H; cases H
                           | some s136 =>
                            rw [q137] at H
                            dsimp only at H
                            refine pm_Wg.path (k := 24) (ds := [1, 0, 1, 1]) (f' := (176, [some (.ref 64), some (.int (5 * (s6.1 20))), some (.int ((s6.2.2.1 3 (Int32.toNatClampNeg 0)) + 1))], [.ref 64], mo_h gx (mo_a s23 18 ((5 * (s6.1 20)) + 2) 0) gs q)) tk_X9_readLine (by omega) rfl ⟨pm_inb_vp b33, h31, h30, h26, h25, trivial⟩ ?_
                            refine pm_Wg.callV (m' := 168) (ix := 120) (rr := 244) (pl := 1552) (b := 64) (As := []) (S := []) (by decide) rfl (pm_dec tk_X9_readLine rfl) rfl rfl (by decide) rfl rfl (by decide) (Nat.le_of_ble_eq_true rfl) rfl (e_X9_passWord d (by omega) gx gs q _ _ q137) ?_
                            cases q139 : f_X9_units s136 with
                            | none => rw [q139] at H; cases H
                            | some r138 =>
                             rw [q139] at H
                             dsimp only at H
                             refine pm_Wg.path (k := 3) (ds := []) (f' := (182, [some (.ref 64), some (.int (5 * (s6.1 20))), some (.int ((s6.2.2.1 3 (Int32.toNatClampNeg 0)) + 1))], [.ref 64, .int 0, .ref 64], mo_h gx s136 gs q)) tk_X9_readLine (by omega) rfl trivial ?_
                             refine pm_Wg.callV (m' := 154) (ix := 63) (rr := 257) (pl := 1614) (b := 64) (As := []) (S := [.int 0, .ref 64]) (by decide) rfl (pm_dec tk_X9_readLine rfl) rfl rfl (by decide) rfl rfl (by decide) (Nat.le_of_ble_eq_true rfl) rfl (e_X9_units d (by omega) gx gs q _ _ q139) ?_
                             cases q142 : f_X9_readNumber s136 0 (r138 - 1) with
                             | none => rw [q142] at H; cases H
                             | some w =>
                              obtain ⟨r140, s141⟩ := w
                              rw [q142] at H
                              dsimp only at H
                              refine pm_Wg.path (k := 2) (ds := []) (f' := (187, [some (.ref 64), some (.int (5 * (s6.1 20))), some (.int ((s6.2.2.1 3 (Int32.toNatClampNeg 0)) + 1))], [.int (r138 - 1), .int 0, .ref 64], mo_h gx s136 gs q)) tk_X9_readLine (by omega) rfl trivial ?_
                              refine pm_Wg.callV (m' := 170) (ix := 129) (rr := 246) (pl := 1560) (b := 64) (As := [.int 0, .int (r138 - 1)]) (S := []) (by decide) rfl (pm_dec tk_X9_readLine rfl) rfl rfl (by decide) rfl rfl (by decide) (Nat.le_of_ble_eq_true rfl) rfl (e_X9_readNumber d (by omega) gx gs q _ _ _ _ _ q142) ?_
                              by_cases h143 : r140 = 0
                              · rw [if_pos h143] at H
                                injection H with H
                                injection H with H1 H2
                                subst H1
                                subst H2
                                refine pm_Wg.path (k := 2) (ds := [0]) (f' := (194, [some (.ref 64), some (.int (5 * (s6.1 20))), some (.int ((s6.2.2.1 3 (Int32.toNatClampNeg 0)) + 1))], [.int 0], mo_h gx s141 gs q)) tk_X9_readLine (by omega) rfl ⟨h143, trivial⟩ ?_
                                exact pm_Wg.iret (pm_dec tk_X9_readLine rfl) rfl rfl
                              · rw [if_neg h143] at H
                                cases b144 : pm_inb ((5 * (s6.1 20)) + 3) 500 with
                                | false => rw [b144] at H; cases H
                                | true =>
                                 rw [b144] at H
                                 dsimp only at H
                                 refine pm_Wg.path (k := 15) (ds := [1]) (f' := (215, [some (.ref 64), some (.int (5 * (s6.1 20))), some (.int ((s6.2.2.1 3 (Int32.toNatClampNeg 0)) + 1))], [.int (-1), .int ((5 * (s6.1 20)) + 4), .ref 73], mo_h gx (mo_a s141 18 ((5 * (s6.1 20)) + 3) (s141.1 13)) gs q)) tk_X9_readLine (by omega) rfl ⟨pm_inb_vp b144, h143, trivial⟩ ?_
                                 exact ec_X9_readLine_c7 (d + 1) (by omega) gx gs q _ _ _ _ _ _ _ H
                      · rw [if_neg h30] at H
                        cases q172 : f_X9_fails s23 1 (s23.1 12) with
                        | none => rw [q172] at H; cases H
                        | some w =>
                         obtain ⟨r170, s171⟩ := w
                         rw [q172] at H
                         dsimp only at H
                         refine pm_Wg.path (k := 15) (ds := [1, 0, 0]) (f' := (147, [some (.ref 64), some (.int (5 * (s6.1 20))), some (.int ((s6.2.2.1 3 (Int32.toNatClampNeg 0)) + 1))], [.int (s23.1 12), .int 1, .ref 64], mo_h gx s23 gs q)) tk_X9_readLine (by omega) rfl ⟨h30, h26, h25, trivial⟩ ?_
                         refine pm_Wg.callV (m' := 166) (ix := 105) (rr := 243) (pl := 1546) (b := 64) (As := [.int 1, .int (s23.1 12)]) (S := []) (by decide) rfl (pm_dec tk_X9_readLine rfl) rfl rfl (by decide) rfl rfl (by decide) (Nat.le_of_ble_eq_true rfl) rfl (e_X9_fails d (by omega) gx gs q _ _ _ _ _ q172) ?_
                         by_cases z173 : r170 &&& 1 = r170
                         case neg => rw [if_neg z173] at H; cases H
                         rw [if_pos z173] at H
                         injection H with H
                         injection H with H1 H2
                         subst H1
                         subst H2
                         exact pm_Wg.iret (pm_dec tk_X9_readLine rfl) rfl (pm_nb1 z173)
     · rw [if_neg h8] at H
       cases b10 : pm_inb ((5 * (s6.1 20)) - 5) 500 with
       | false => rw [b10] at H; cases H
       | true =>
        rw [b10] at H
        dsimp only at H
        cases q176 : f_X9_readNumber s6 (s6.2.2.1 18 (Int32.toNatClampNeg ((5 * (s6.1 20)) - 5))) 99999 with
        | none => rw [q176] at H; cases H
        | some w =>
         obtain ⟨r174, s175⟩ := w
         rw [q176] at H
         dsimp only at H
         refine pm_Wg.path (k := 18) (ds := [1]) (f' := (61, [some (.ref 64), some (.int (5 * (s6.1 20))), some (.int (s6.2.2.1 18 (Int32.toNatClampNeg ((5 * (s6.1 20)) - 5))))], [.int 99999, .int (s6.2.2.1 18 (Int32.toNatClampNeg ((5 * (s6.1 20)) - 5))), .ref 64], mo_h gx s6 gs q)) tk_X9_readLine (by omega) rfl ⟨pm_inb_vp b10, h8, trivial⟩ ?_
         refine pm_Wg.callV (m' := 170) (ix := 129) (rr := 246) (pl := 1560) (b := 64) (As := [.int (s6.2.2.1 18 (Int32.toNatClampNeg ((5 * (s6.1 20)) - 5))), .int 99999]) (S := []) (by decide) rfl (pm_dec tk_X9_readLine rfl) rfl rfl (by decide) rfl rfl (by decide) (Nat.le_of_ble_eq_true rfl) rfl (e_X9_readNumber d (by omega) gx gs q _ _ _ _ _ q176) ?_
         by_cases h177 : r174 = 0
         · rw [if_pos h177] at H
           injection H with H
           injection H with H1 H2
           subst H1
           subst H2
           refine pm_Wg.path (k := 2) (ds := [0]) (f' := (68, [some (.ref 64), some (.int (5 * (s6.1 20))), some (.int (s6.2.2.1 18 (Int32.toNatClampNeg ((5 * (s6.1 20)) - 5))))], [.int 0], mo_h gx s175 gs q)) tk_X9_readLine (by omega) rfl ⟨h177, trivial⟩ ?_
           exact pm_Wg.iret (pm_dec tk_X9_readLine rfl) rfl rfl
         · rw [if_neg h177] at H
           cases b178 : pm_inb (5 * (s6.1 20)) 500 with
           | false => rw [b178] at H; cases H
           | true =>
            rw [b178] at H
            dsimp only at H
            cases b179 : pm_inb 6 26 with
            | false => rw [b179] at H; cases H
            | true =>
             rw [b179] at H
             dsimp only at H
             cases q182 : f_X9_readNumber (mo_a s175 18 (5 * (s6.1 20)) (s175.1 13)) 1 (((mo_a s175 18 (5 * (s6.1 20)) (s175.1 13)).2.2.1 0 (Int32.toNatClampNeg 6)) - 1) with
             | none => rw [q182] at H; cases H
             | some w =>
              obtain ⟨r180, s181⟩ := w
              rw [q182] at H
              dsimp only at H
              refine pm_Wg.path (k := 15) (ds := [1]) (f' := (90, [some (.ref 64), some (.int (5 * (s6.1 20))), some (.int (s6.2.2.1 18 (Int32.toNatClampNeg ((5 * (s6.1 20)) - 5))))], [.int (((mo_a s175 18 (5 * (s6.1 20)) (s175.1 13)).2.2.1 0 (Int32.toNatClampNeg 6)) - 1), .int 1, .ref 64], mo_h gx (mo_a s175 18 (5 * (s6.1 20)) (s175.1 13)) gs q)) tk_X9_readLine (by omega) rfl ⟨pm_inb_vp b179, pm_inb_vp b178, h177, trivial⟩ ?_
              refine pm_Wg.callV (m' := 170) (ix := 129) (rr := 246) (pl := 1560) (b := 64) (As := [.int 1, .int (((mo_a s175 18 (5 * (s6.1 20)) (s175.1 13)).2.2.1 0 (Int32.toNatClampNeg 6)) - 1)]) (S := []) (by decide) rfl (pm_dec tk_X9_readLine rfl) rfl rfl (by decide) rfl rfl (by decide) (Nat.le_of_ble_eq_true rfl) rfl (e_X9_readNumber d (by omega) gx gs q _ _ _ _ _ q182) ?_
              by_cases h183 : r180 = 0
              · rw [if_pos h183] at H
                injection H with H
                injection H with H1 H2
                subst H1
                subst H2
                refine pm_Wg.path (k := 2) (ds := [0]) (f' := (97, [some (.ref 64), some (.int (5 * (s6.1 20))), some (.int (s6.2.2.1 18 (Int32.toNatClampNeg ((5 * (s6.1 20)) - 5))))], [.int 0], mo_h gx s181 gs q)) tk_X9_readLine (by omega) rfl ⟨h183, trivial⟩ ?_
                exact pm_Wg.iret (pm_dec tk_X9_readLine rfl) rfl rfl
              · rw [if_neg h183] at H
                cases b184 : pm_inb ((5 * (s6.1 20)) + 1) 500 with
                | false => rw [b184] at H; cases H
                | true =>
                 rw [b184] at H
                 dsimp only at H
                 cases q187 : f_X9_seesWord (mo_a s181 18 ((5 * (s6.1 20)) + 1) (s181.1 13)) with
                 | none => rw [q187] at H; cases H
                 | some w =>
                  obtain ⟨r185, s186⟩ := w
                  rw [q187] at H
                  dsimp only at H
                  refine pm_Wg.path (k := 10) (ds := [1]) (f' := (111, [some (.ref 64), some (.int (5 * (s6.1 20))), some (.int (s6.2.2.1 18 (Int32.toNatClampNeg ((5 * (s6.1 20)) - 5))))], [.ref 64], mo_h gx (mo_a s181 18 ((5 * (s6.1 20)) + 1) (s181.1 13)) gs q)) tk_X9_readLine (by omega) rfl ⟨pm_inb_vp b184, h183, trivial⟩ ?_
                  refine pm_Wg.callV (m' := 167) (ix := 117) (rr := 239) (pl := 1531) (b := 64) (As := []) (S := []) (by decide) rfl (pm_dec tk_X9_readLine rfl) rfl rfl (by decide) rfl rfl (by decide) (Nat.le_of_ble_eq_true rfl) rfl (e_X9_seesWord d (by omega) gx gs q _ _ _ q187) ?_
                  by_cases h188 : r185 = 0
                  · rw [if_pos h188] at H
                    injection H with H
                    injection H with H1 H2
                    subst H1
                    subst H2
                    refine pm_Wg.path (k := 2) (ds := [0]) (f' := (118, [some (.ref 64), some (.int (5 * (s6.1 20))), some (.int (s6.2.2.1 18 (Int32.toNatClampNeg ((5 * (s6.1 20)) - 5))))], [.int 0], mo_h gx s186 gs q)) tk_X9_readLine (by omega) rfl ⟨h188, trivial⟩ ?_
                    exact pm_Wg.iret (pm_dec tk_X9_readLine rfl) rfl rfl
                  · rw [if_neg h188] at H
                    by_cases h189 : (lg_cmp s186.2.1 19039379) = 0
                    · rw [if_pos h189] at H
                      by_cases h190 : (lg_cmp s186.2.1 790941875) = 0
                      · rw [if_pos h190] at H
                        cases b191 : pm_inb ((5 * (s6.1 20)) + 2) 500 with
                        | false => rw [b191] at H; cases H
                        | true =>
                         rw [b191] at H
                         dsimp only at H
                         cases q198 : f_X9_passWord (mo_a s186 18 ((5 * (s6.1 20)) + 2) 1) with
                         | none => rw [q198] at H; cases H
                         | some s197 =>
                          rw [q198] at H
                          dsimp only at H
                          refine pm_Wg.path (k := 20) (ds := [1, 1, 0]) (f' := (176, [some (.ref 64), some (.int (5 * (s6.1 20))), some (.int (s6.2.2.1 18 (Int32.toNatClampNeg ((5 * (s6.1 20)) - 5))))], [.ref 64], mo_h gx (mo_a s186 18 ((5 * (s6.1 20)) + 2) 1) gs q)) tk_X9_readLine (by omega) rfl ⟨pm_inb_vp b191, h190, h189, h188, trivial⟩ ?_
                          refine pm_Wg.callV (m' := 168) (ix := 120) (rr := 244) (pl := 1552) (b := 64) (As := []) (S := []) (by decide) rfl (pm_dec tk_X9_readLine rfl) rfl rfl (by decide) rfl rfl (by decide) (Nat.le_of_ble_eq_true rfl) rfl (e_X9_passWord d (by omega) gx gs q _ _ q198) ?_
                          cases q200 : f_X9_units s197 with
                          | none => rw [q200] at H; cases H
                          | some r199 =>
                           rw [q200] at H
                           dsimp only at H
                           refine pm_Wg.path (k := 3) (ds := []) (f' := (182, [some (.ref 64), some (.int (5 * (s6.1 20))), some (.int (s6.2.2.1 18 (Int32.toNatClampNeg ((5 * (s6.1 20)) - 5))))], [.ref 64, .int 0, .ref 64], mo_h gx s197 gs q)) tk_X9_readLine (by omega) rfl trivial ?_
                           refine pm_Wg.callV (m' := 154) (ix := 63) (rr := 257) (pl := 1614) (b := 64) (As := []) (S := [.int 0, .ref 64]) (by decide) rfl (pm_dec tk_X9_readLine rfl) rfl rfl (by decide) rfl rfl (by decide) (Nat.le_of_ble_eq_true rfl) rfl (e_X9_units d (by omega) gx gs q _ _ q200) ?_
                           cases q203 : f_X9_readNumber s197 0 (r199 - 1) with
                           | none => rw [q203] at H; cases H
                           | some w =>
                            obtain ⟨r201, s202⟩ := w
                            rw [q203] at H
                            dsimp only at H
                            refine pm_Wg.path (k := 2) (ds := []) (f' := (187, [some (.ref 64), some (.int (5 * (s6.1 20))), some (.int (s6.2.2.1 18 (Int32.toNatClampNeg ((5 * (s6.1 20)) - 5))))], [.int (r199 - 1), .int 0, .ref 64], mo_h gx s197 gs q)) tk_X9_readLine (by omega) rfl trivial ?_
                            refine pm_Wg.callV (m' := 170) (ix := 129) (rr := 246) (pl := 1560) (b := 64) (As := [.int 0, .int (r199 - 1)]) (S := []) (by decide) rfl (pm_dec tk_X9_readLine rfl) rfl rfl (by decide) rfl rfl (by decide) (Nat.le_of_ble_eq_true rfl) rfl (e_X9_readNumber d (by omega) gx gs q _ _ _ _ _ q203) ?_
                            by_cases h204 : r201 = 0
                            · rw [if_pos h204] at H
                              injection H with H
                              injection H with H1 H2
                              subst H1
                              subst H2
                              refine pm_Wg.path (k := 2) (ds := [0]) (f' := (194, [some (.ref 64), some (.int (5 * (s6.1 20))), some (.int (s6.2.2.1 18 (Int32.toNatClampNeg ((5 * (s6.1 20)) - 5))))], [.int 0], mo_h gx s202 gs q)) tk_X9_readLine (by omega) rfl ⟨h204, trivial⟩ ?_
                              exact pm_Wg.iret (pm_dec tk_X9_readLine rfl) rfl rfl
                            · rw [if_neg h204] at H
                              cases b205 : pm_inb ((5 * (s6.1 20)) + 3) 500 with
                              | false => rw [b205] at H; cases H
                              | true =>
                               rw [b205] at H
                               dsimp only at H
                               refine pm_Wg.path (k := 15) (ds := [1]) (f' := (215, [some (.ref 64), some (.int (5 * (s6.1 20))), some (.int (s6.2.2.1 18 (Int32.toNatClampNeg ((5 * (s6.1 20)) - 5))))], [.int (-1), .int ((5 * (s6.1 20)) + 4), .ref 73], mo_h gx (mo_a s202 18 ((5 * (s6.1 20)) + 3) (s202.1 13)) gs q)) tk_X9_readLine (by omega) rfl ⟨pm_inb_vp b205, h204, trivial⟩ ?_
                               exact ec_X9_readLine_c9 (d + 1) (by omega) gx gs q _ _ _ _ _ _ _ H
                      · rw [if_neg h190] at H
                        cases b192 : pm_inb ((5 * (s6.1 20)) + 2) 500 with
                        | false => rw [b192] at H; cases H
                        | true =>
                         rw [b192] at H
                         dsimp only at H
                         cases q232 : f_X9_passWord (mo_a s186 18 ((5 * (s6.1 20)) + 2) 0) with
                         | none => rw [q232] at H; cases H
                         | some s231 =>
                          rw [q232] at H
                          dsimp only at H
                          refine pm_Wg.path (k := 19) (ds := [1, 1, 1]) (f' := (176, [some (.ref 64), some (.int (5 * (s6.1 20))), some (.int (s6.2.2.1 18 (Int32.toNatClampNeg ((5 * (s6.1 20)) - 5))))], [.ref 64], mo_h gx (mo_a s186 18 ((5 * (s6.1 20)) + 2) 0) gs q)) tk_X9_readLine (by omega) rfl ⟨pm_inb_vp b192, h190, h189, h188, trivial⟩ ?_
                          refine pm_Wg.callV (m' := 168) (ix := 120) (rr := 244) (pl := 1552) (b := 64) (As := []) (S := []) (by decide) rfl (pm_dec tk_X9_readLine rfl) rfl rfl (by decide) rfl rfl (by decide) (Nat.le_of_ble_eq_true rfl) rfl (e_X9_passWord d (by omega) gx gs q _ _ q232) ?_
                          cases q234 : f_X9_units s231 with
                          | none => rw [q234] at H; cases H
                          | some r233 =>
                           rw [q234] at H
                           dsimp only at H
                           refine pm_Wg.path (k := 3) (ds := []) (f' := (182, [some (.ref 64), some (.int (5 * (s6.1 20))), some (.int (s6.2.2.1 18 (Int32.toNatClampNeg ((5 * (s6.1 20)) - 5))))], [.ref 64, .int 0, .ref 64], mo_h gx s231 gs q)) tk_X9_readLine (by omega) rfl trivial ?_
                           refine pm_Wg.callV (m' := 154) (ix := 63) (rr := 257) (pl := 1614) (b := 64) (As := []) (S := [.int 0, .ref 64]) (by decide) rfl (pm_dec tk_X9_readLine rfl) rfl rfl (by decide) rfl rfl (by decide) (Nat.le_of_ble_eq_true rfl) rfl (e_X9_units d (by omega) gx gs q _ _ q234) ?_
                           cases q237 : f_X9_readNumber s231 0 (r233 - 1) with
                           | none => rw [q237] at H; cases H
                           | some w =>
                            obtain ⟨r235, s236⟩ := w
                            rw [q237] at H
                            dsimp only at H
                            refine pm_Wg.path (k := 2) (ds := []) (f' := (187, [some (.ref 64), some (.int (5 * (s6.1 20))), some (.int (s6.2.2.1 18 (Int32.toNatClampNeg ((5 * (s6.1 20)) - 5))))], [.int (r233 - 1), .int 0, .ref 64], mo_h gx s231 gs q)) tk_X9_readLine (by omega) rfl trivial ?_
                            refine pm_Wg.callV (m' := 170) (ix := 129) (rr := 246) (pl := 1560) (b := 64) (As := [.int 0, .int (r233 - 1)]) (S := []) (by decide) rfl (pm_dec tk_X9_readLine rfl) rfl rfl (by decide) rfl rfl (by decide) (Nat.le_of_ble_eq_true rfl) rfl (e_X9_readNumber d (by omega) gx gs q _ _ _ _ _ q237) ?_
                            by_cases h238 : r235 = 0
                            · rw [if_pos h238] at H
                              injection H with H
                              injection H with H1 H2
                              subst H1
                              subst H2
                              refine pm_Wg.path (k := 2) (ds := [0]) (f' := (194, [some (.ref 64), some (.int (5 * (s6.1 20))), some (.int (s6.2.2.1 18 (Int32.toNatClampNeg ((5 * (s6.1 20)) - 5))))], [.int 0], mo_h gx s236 gs q)) tk_X9_readLine (by omega) rfl ⟨h238, trivial⟩ ?_
                              exact pm_Wg.iret (pm_dec tk_X9_readLine rfl) rfl rfl
                            · rw [if_neg h238] at H
                              cases b239 : pm_inb ((5 * (s6.1 20)) + 3) 500 with
                              | false => rw [b239] at H; cases H
                              | true =>
                               rw [b239] at H
                               dsimp only at H
                               refine pm_Wg.path (k := 15) (ds := [1]) (f' := (215, [some (.ref 64), some (.int (5 * (s6.1 20))), some (.int (s6.2.2.1 18 (Int32.toNatClampNeg ((5 * (s6.1 20)) - 5))))], [.int (-1), .int ((5 * (s6.1 20)) + 4), .ref 73], mo_h gx (mo_a s236 18 ((5 * (s6.1 20)) + 3) (s236.1 13)) gs q)) tk_X9_readLine (by omega) rfl ⟨pm_inb_vp b239, h238, trivial⟩ ?_
                               exact ec_X9_readLine_c11 (d + 1) (by omega) gx gs q _ _ _ _ _ _ _ H
                    · rw [if_neg h189] at H
                      by_cases h193 : (lg_cmp s186.2.1 790941875) = 0
                      · rw [if_pos h193] at H
                        by_cases h194 : (lg_cmp s186.2.1 790941875) = 0
                        · rw [if_pos h194] at H
                          cases b195 : pm_inb ((5 * (s6.1 20)) + 2) 500 with
                          | false => rw [b195] at H; cases H
                          | true =>
                           rw [b195] at H
                           dsimp only at H
                           cases q266 : f_X9_passWord (mo_a s186 18 ((5 * (s6.1 20)) + 2) 1) with
                           | none => rw [q266] at H; cases H
                           | some s265 =>
                            rw [q266] at H
                            dsimp only at H
                            refine pm_Wg.path (k := 25) (ds := [1, 0, 1, 0]) (f' := (176, [some (.ref 64), some (.int (5 * (s6.1 20))), some (.int (s6.2.2.1 18 (Int32.toNatClampNeg ((5 * (s6.1 20)) - 5))))], [.ref 64], mo_h gx (mo_a s186 18 ((5 * (s6.1 20)) + 2) 1) gs q)) tk_X9_readLine (by omega) rfl ⟨pm_inb_vp b195, h194, h193, h189, h188, trivial⟩ ?_
                            refine pm_Wg.callV (m' := 168) (ix := 120) (rr := 244) (pl := 1552) (b := 64) (As := []) (S := []) (by decide) rfl (pm_dec tk_X9_readLine rfl) rfl rfl (by decide) rfl rfl (by decide) (Nat.le_of_ble_eq_true rfl) rfl (e_X9_passWord d (by omega) gx gs q _ _ q266) ?_
                            cases q268 : f_X9_units s265 with
                            | none => rw [q268] at H; cases H
                            | some r267 =>
                             rw [q268] at H
                             dsimp only at H
                             refine pm_Wg.path (k := 3) (ds := []) (f' := (182, [some (.ref 64), some (.int (5 * (s6.1 20))), some (.int (s6.2.2.1 18 (Int32.toNatClampNeg ((5 * (s6.1 20)) - 5))))], [.ref 64, .int 0, .ref 64], mo_h gx s265 gs q)) tk_X9_readLine (by omega) rfl trivial ?_
                             refine pm_Wg.callV (m' := 154) (ix := 63) (rr := 257) (pl := 1614) (b := 64) (As := []) (S := [.int 0, .ref 64]) (by decide) rfl (pm_dec tk_X9_readLine rfl) rfl rfl (by decide) rfl rfl (by decide) (Nat.le_of_ble_eq_true rfl) rfl (e_X9_units d (by omega) gx gs q _ _ q268) ?_
                             cases q271 : f_X9_readNumber s265 0 (r267 - 1) with
                             | none => rw [q271] at H; cases H
                             | some w =>
                              obtain ⟨r269, s270⟩ := w
                              rw [q271] at H
                              dsimp only at H
                              refine pm_Wg.path (k := 2) (ds := []) (f' := (187, [some (.ref 64), some (.int (5 * (s6.1 20))), some (.int (s6.2.2.1 18 (Int32.toNatClampNeg ((5 * (s6.1 20)) - 5))))], [.int (r267 - 1), .int 0, .ref 64], mo_h gx s265 gs q)) tk_X9_readLine (by omega) rfl trivial ?_
                              refine pm_Wg.callV (m' := 170) (ix := 129) (rr := 246) (pl := 1560) (b := 64) (As := [.int 0, .int (r267 - 1)]) (S := []) (by decide) rfl (pm_dec tk_X9_readLine rfl) rfl rfl (by decide) rfl rfl (by decide) (Nat.le_of_ble_eq_true rfl) rfl (e_X9_readNumber d (by omega) gx gs q _ _ _ _ _ q271) ?_
                              by_cases h272 : r269 = 0
                              · rw [if_pos h272] at H
                                injection H with H
                                injection H with H1 H2
                                subst H1
                                subst H2
                                refine pm_Wg.path (k := 2) (ds := [0]) (f' := (194, [some (.ref 64), some (.int (5 * (s6.1 20))), some (.int (s6.2.2.1 18 (Int32.toNatClampNeg ((5 * (s6.1 20)) - 5))))], [.int 0], mo_h gx s270 gs q)) tk_X9_readLine (by omega) rfl ⟨h272, trivial⟩ ?_
                                exact pm_Wg.iret (pm_dec tk_X9_readLine rfl) rfl rfl
                              · rw [if_neg h272] at H
                                cases b273 : pm_inb ((5 * (s6.1 20)) + 3) 500 with
                                | false => rw [b273] at H; cases H
                                | true =>
                                 rw [b273] at H
                                 dsimp only at H
                                 refine pm_Wg.path (k := 15) (ds := [1]) (f' := (215, [some (.ref 64), some (.int (5 * (s6.1 20))), some (.int (s6.2.2.1 18 (Int32.toNatClampNeg ((5 * (s6.1 20)) - 5))))], [.int (-1), .int ((5 * (s6.1 20)) + 4), .ref 73], mo_h gx (mo_a s270 18 ((5 * (s6.1 20)) + 3) (s270.1 13)) gs q)) tk_X9_readLine (by omega) rfl ⟨pm_inb_vp b273, h272, trivial⟩ ?_
                                 exact ec_X9_readLine_c13 (d + 1) (by omega) gx gs q _ _ _ _ _ _ _ H
                        · rw [if_neg h194] at H
                          cases b196 : pm_inb ((5 * (s6.1 20)) + 2) 500 with
                          | false => rw [b196] at H; cases H
                          | true =>
                           rw [b196] at H
                           dsimp only at H
                           cases q300 : f_X9_passWord (mo_a s186 18 ((5 * (s6.1 20)) + 2) 0) with
                           | none => rw [q300] at H; cases H
                           | some s299 =>
                            rw [q300] at H
                            dsimp only at H
                            refine pm_Wg.path (k := 24) (ds := [1, 0, 1, 1]) (f' := (176, [some (.ref 64), some (.int (5 * (s6.1 20))), some (.int (s6.2.2.1 18 (Int32.toNatClampNeg ((5 * (s6.1 20)) - 5))))], [.ref 64], mo_h gx (mo_a s186 18 ((5 * (s6.1 20)) + 2) 0) gs q)) tk_X9_readLine (by omega) rfl ⟨pm_inb_vp b196, h194, h193, h189, h188, trivial⟩ ?_
                            refine pm_Wg.callV (m' := 168) (ix := 120) (rr := 244) (pl := 1552) (b := 64) (As := []) (S := []) (by decide) rfl (pm_dec tk_X9_readLine rfl) rfl rfl (by decide) rfl rfl (by decide) (Nat.le_of_ble_eq_true rfl) rfl (e_X9_passWord d (by omega) gx gs q _ _ q300) ?_
                            cases q302 : f_X9_units s299 with
                            | none => rw [q302] at H; cases H
                            | some r301 =>
                             rw [q302] at H
                             dsimp only at H
                             refine pm_Wg.path (k := 3) (ds := []) (f' := (182, [some (.ref 64), some (.int (5 * (s6.1 20))), some (.int (s6.2.2.1 18 (Int32.toNatClampNeg ((5 * (s6.1 20)) - 5))))], [.ref 64, .int 0, .ref 64], mo_h gx s299 gs q)) tk_X9_readLine (by omega) rfl trivial ?_
                             refine pm_Wg.callV (m' := 154) (ix := 63) (rr := 257) (pl := 1614) (b := 64) (As := []) (S := [.int 0, .ref 64]) (by decide) rfl (pm_dec tk_X9_readLine rfl) rfl rfl (by decide) rfl rfl (by decide) (Nat.le_of_ble_eq_true rfl) rfl (e_X9_units d (by omega) gx gs q _ _ q302) ?_
                             cases q305 : f_X9_readNumber s299 0 (r301 - 1) with
                             | none => rw [q305] at H; cases H
                             | some w =>
                              obtain ⟨r303, s304⟩ := w
                              rw [q305] at H
                              dsimp only at H
                              refine pm_Wg.path (k := 2) (ds := []) (f' := (187, [some (.ref 64), some (.int (5 * (s6.1 20))), some (.int (s6.2.2.1 18 (Int32.toNatClampNeg ((5 * (s6.1 20)) - 5))))], [.int (r301 - 1), .int 0, .ref 64], mo_h gx s299 gs q)) tk_X9_readLine (by omega) rfl trivial ?_
                              refine pm_Wg.callV (m' := 170) (ix := 129) (rr := 246) (pl := 1560) (b := 64) (As := [.int 0, .int (r301 - 1)]) (S := []) (by decide) rfl (pm_dec tk_X9_readLine rfl) rfl rfl (by decide) rfl rfl (by decide) (Nat.le_of_ble_eq_true rfl) rfl (e_X9_readNumber d (by omega) gx gs q _ _ _ _ _ q305) ?_
                              by_cases h306 : r303 = 0
                              · rw [if_pos h306] at H
                                injection H with H
                                injection H with H1 H2
                                subst H1
                                subst H2
                                refine pm_Wg.path (k := 2) (ds := [0]) (f' := (194, [some (.ref 64), some (.int (5 * (s6.1 20))), some (.int (s6.2.2.1 18 (Int32.toNatClampNeg ((5 * (s6.1 20)) - 5))))], [.int 0], mo_h gx s304 gs q)) tk_X9_readLine (by omega) rfl ⟨h306, trivial⟩ ?_
                                exact pm_Wg.iret (pm_dec tk_X9_readLine rfl) rfl rfl
                              · rw [if_neg h306] at H
                                cases b307 : pm_inb ((5 * (s6.1 20)) + 3) 500 with
                                | false => rw [b307] at H; cases H
                                | true =>
                                 rw [b307] at H
                                 dsimp only at H
                                 refine pm_Wg.path (k := 15) (ds := [1]) (f' := (215, [some (.ref 64), some (.int (5 * (s6.1 20))), some (.int (s6.2.2.1 18 (Int32.toNatClampNeg ((5 * (s6.1 20)) - 5))))], [.int (-1), .int ((5 * (s6.1 20)) + 4), .ref 73], mo_h gx (mo_a s304 18 ((5 * (s6.1 20)) + 3) (s304.1 13)) gs q)) tk_X9_readLine (by omega) rfl ⟨pm_inb_vp b307, h306, trivial⟩ ?_
                                 exact ec_X9_readLine_c15 (d + 1) (by omega) gx gs q _ _ _ _ _ _ _ H
                      · rw [if_neg h193] at H
                        cases q335 : f_X9_fails s186 1 (s186.1 12) with
                        | none => rw [q335] at H; cases H
                        | some w =>
                         obtain ⟨r333, s334⟩ := w
                         rw [q335] at H
                         dsimp only at H
                         refine pm_Wg.path (k := 15) (ds := [1, 0, 0]) (f' := (147, [some (.ref 64), some (.int (5 * (s6.1 20))), some (.int (s6.2.2.1 18 (Int32.toNatClampNeg ((5 * (s6.1 20)) - 5))))], [.int (s186.1 12), .int 1, .ref 64], mo_h gx s186 gs q)) tk_X9_readLine (by omega) rfl ⟨h193, h189, h188, trivial⟩ ?_
                         refine pm_Wg.callV (m' := 166) (ix := 105) (rr := 243) (pl := 1546) (b := 64) (As := [.int 1, .int (s186.1 12)]) (S := []) (by decide) rfl (pm_dec tk_X9_readLine rfl) rfl rfl (by decide) rfl rfl (by decide) (Nat.le_of_ble_eq_true rfl) rfl (e_X9_fails d (by omega) gx gs q _ _ _ _ _ q335) ?_
                         by_cases z336 : r333 &&& 1 = r333
                         case neg => rw [if_neg z336] at H; cases H
                         rw [if_pos z336] at H
                         injection H with H
                         injection H with H1 H2
                         subst H1
                         subst H2
                         exact pm_Wg.iret (pm_dec tk_X9_readLine rfl) rfl (pm_nb1 z336)

def lb_X9_readTrace_5 (x : mo_S) : Option ((mo_S) ⊕ (Int32 × mo_S)) := match x with
  | s =>
   (match f_X9_peek s with
   | none => none
   | some (r1, s2) =>
    (if r1 = (-1) then
     some (.inr (1, s2))
    else
     (match f_X9_seesWord s2 with
     | none => none
     | some (r5, s6) =>
      (if r5 = 0 then
       some (.inr (0, s6))
      else
       (if (lg_cmp s6.2.1 52) = 0 then
        (match f_X9_readLine s6 with
        | none => none
        | some (r10, s11) =>
         (if r10 = 0 then
          some (.inr (0, s11))
         else
          some (.inl s11)))
       else
        (match f_X9_fails s6 1 (s6.1 12) with
        | none => none
        | some (r14, s15) =>
         (if r14 &&& 1 = r14 then some (.inr (r14, s15)) else none)))))))
def f_X9_readTrace (s : mo_S) : Option (Int32 × mo_S) :=
  (pm_loop pm_fu lb_X9_readTrace_5 (mo_i s 20 0))
def tb_X9_readTrace : List pm_I := [(0, .aload_n 0, 0, 0), (1, .iconst 0, 2, 0), (2, .putfield 185, 179, 0), (5, .aload_n 0, 0, 0), (6, .invokevirtual 95, 240, 0), (9, .iconst (-1), 1, 0), (10, .if_icmp .eq 42, 52, 0), (13, .aload_n 0, 0, 0), (14, .invokevirtual 117, 239, 0), (17, .ifCond .ne 5, 22, 0), (20, .iconst 0, 2, 0), (21, .ireturn, 0, 0), (22, .aload_n 0, 0, 0), (23, .getfield 109, 175, 0), (26, .ldc2_w 195, 16, 0), (29, .lcmp, 0, 0), (30, .ifCond .eq 13, 43, 0), (33, .aload_n 0, 0, 0), (34, .iconst 1, 3, 0), (35, .aload_n 0, 0, 0), (36, .getfield 92, 171, 0), (39, .invokevirtual 105, 243, 0), (42, .ireturn, 0, 0), (43, .aload_n 0, 0, 0), (44, .invokevirtual 197, 256, 0), (47, .ifCond .ne (-42), 5, 0), (50, .iconst 0, 2, 0), (51, .ireturn, 0, 0), (52, .iconst 1, 3, 0), (53, .ireturn, 0, 0)]
theorem tk_X9_readTrace : ∀ e ∈ tb_X9_readTrace, pm_ck 183 e = true := List.all_eq_true.mp (by decide +kernel)
set_option maxRecDepth 20000 in
set_option maxHeartbeats 40000000 in
theorem ll_X9_readTrace_5 (d : Nat) (hd : 6 ≤ d) (gx : List pm_E) (gs : List (List pm_E)) (q : Nat × Nat × Nat) (r : Int32) (s1 : mo_S) (P : Int32 × mo_S → Prop) (K0 : ∀ e : Int32 × mo_S, P (e) → e = (r, s1)) : ∀ (n : Nat) (s : mo_S) (e : Int32 × mo_S), pm_loop n lb_X9_readTrace_5 s = some e → P e → pm_Wg 183 d (.inl (some (.int r))) (mo_h gx s1 gs q) (5, [some (.ref 64)], [], mo_h gx s gs q) := by
  intro n
  induction n with
  | zero => intro s e H; cases H
  | succ n ih =>
    intro s e H hPe
    obtain ⟨d, rfl⟩ : ∃ d', d = d' + 1 := ⟨d - 1, by omega⟩
    have H : pm_lst (pm_loop n lb_X9_readTrace_5) (lb_X9_readTrace_5 s) = some e := H
    generalize pm_loop n lb_X9_readTrace_5 = LB at H ih
    unfold lb_X9_readTrace_5 at H
    try dsimp only at H
    cases q3 : f_X9_peek s with
    | none => rw [q3] at H; cases H
    | some w =>
     obtain ⟨r1, s2⟩ := w
     rw [q3] at H
     dsimp only at H
     refine pm_Wg.path (k := 1) (ds := []) (f' := (6, [some (.ref 64)], [.ref 64], mo_h gx s gs q)) tk_X9_readTrace (by omega) rfl trivial ?_
     refine pm_Wg.callV (m' := 165) (ix := 95) (rr := 240) (pl := 1535) (b := 64) (As := []) (S := []) (by decide) rfl (pm_dec tk_X9_readTrace rfl) rfl rfl (by decide) rfl rfl (by decide) (Nat.le_of_ble_eq_true rfl) rfl (e_X9_peek d (by omega) gx gs q _ _ _ q3) ?_
     by_cases h4 : r1 = (-1)
     · rw [if_pos h4] at H
       have He := Option.some.inj H
       subst He
       have H := K0 _ hPe
       injection H with H1 H2
       subst H1
       subst H2
       refine pm_Wg.path (k := 3) (ds := [1]) (f' := (53, [some (.ref 64)], [.int 1], mo_h gx s2 gs q)) tk_X9_readTrace (by omega) rfl ⟨h4, trivial⟩ ?_
       exact pm_Wg.iret (pm_dec tk_X9_readTrace rfl) rfl rfl
     · rw [if_neg h4] at H
       cases q7 : f_X9_seesWord s2 with
       | none => rw [q7] at H; cases H
       | some w =>
        obtain ⟨r5, s6⟩ := w
        rw [q7] at H
        dsimp only at H
        refine pm_Wg.path (k := 3) (ds := [0]) (f' := (14, [some (.ref 64)], [.ref 64], mo_h gx s2 gs q)) tk_X9_readTrace (by omega) rfl ⟨h4, trivial⟩ ?_
        refine pm_Wg.callV (m' := 167) (ix := 117) (rr := 239) (pl := 1531) (b := 64) (As := []) (S := []) (by decide) rfl (pm_dec tk_X9_readTrace rfl) rfl rfl (by decide) rfl rfl (by decide) (Nat.le_of_ble_eq_true rfl) rfl (e_X9_seesWord d (by omega) gx gs q _ _ _ q7) ?_
        by_cases h8 : r5 = 0
        · rw [if_pos h8] at H
          have He := Option.some.inj H
          subst He
          have H := K0 _ hPe
          injection H with H1 H2
          subst H1
          subst H2
          refine pm_Wg.path (k := 2) (ds := [0]) (f' := (21, [some (.ref 64)], [.int 0], mo_h gx s6 gs q)) tk_X9_readTrace (by omega) rfl ⟨h8, trivial⟩ ?_
          exact pm_Wg.iret (pm_dec tk_X9_readTrace rfl) rfl rfl
        · rw [if_neg h8] at H
          by_cases h9 : (lg_cmp s6.2.1 52) = 0
          · rw [if_pos h9] at H
            cases q12 : f_X9_readLine s6 with
            | none => rw [q12] at H; cases H
            | some w =>
             obtain ⟨r10, s11⟩ := w
             rw [q12] at H
             dsimp only at H
             refine pm_Wg.path (k := 7) (ds := [1, 1]) (f' := (44, [some (.ref 64)], [.ref 64], mo_h gx s6 gs q)) tk_X9_readTrace (by omega) rfl ⟨h9, h8, trivial⟩ ?_
             refine pm_Wg.callV (m' := 182) (ix := 197) (rr := 256) (pl := 1607) (b := 64) (As := []) (S := []) (by decide) rfl (pm_dec tk_X9_readTrace rfl) rfl rfl (by decide) rfl rfl (by decide) (Nat.le_of_ble_eq_true rfl) rfl (e_X9_readLine d (by omega) gx gs q _ _ _ q12) ?_
             by_cases h13 : r10 = 0
             · rw [if_pos h13] at H
               have He := Option.some.inj H
               subst He
               have H := K0 _ hPe
               injection H with H1 H2
               subst H1
               subst H2
               refine pm_Wg.path (k := 2) (ds := [0]) (f' := (51, [some (.ref 64)], [.int 0], mo_h gx s11 gs q)) tk_X9_readTrace (by omega) rfl ⟨h13, trivial⟩ ?_
               exact pm_Wg.iret (pm_dec tk_X9_readTrace rfl) rfl rfl
             · rw [if_neg h13] at H
               refine pm_Wg.path (k := 1) (ds := [1]) (f' := (5, [some (.ref 64)], [], mo_h gx s11 gs q)) tk_X9_readTrace (by omega) rfl ⟨h13, trivial⟩ ?_
               exact ih _ e H hPe
          · rw [if_neg h9] at H
            cases q16 : f_X9_fails s6 1 (s6.1 12) with
            | none => rw [q16] at H; cases H
            | some w =>
             obtain ⟨r14, s15⟩ := w
             rw [q16] at H
             dsimp only at H
             refine pm_Wg.path (k := 10) (ds := [1, 0]) (f' := (39, [some (.ref 64)], [.int (s6.1 12), .int 1, .ref 64], mo_h gx s6 gs q)) tk_X9_readTrace (by omega) rfl ⟨h9, h8, trivial⟩ ?_
             refine pm_Wg.callV (m' := 166) (ix := 105) (rr := 243) (pl := 1546) (b := 64) (As := [.int 1, .int (s6.1 12)]) (S := []) (by decide) rfl (pm_dec tk_X9_readTrace rfl) rfl rfl (by decide) rfl rfl (by decide) (Nat.le_of_ble_eq_true rfl) rfl (e_X9_fails d (by omega) gx gs q _ _ _ _ _ q16) ?_
             by_cases z17 : r14 &&& 1 = r14
             case neg => rw [if_neg z17] at H; cases H
             rw [if_pos z17] at H
             have He := Option.some.inj H
             subst He
             have H := K0 _ hPe
             injection H with H1 H2
             subst H1
             subst H2
             exact pm_Wg.iret (pm_dec tk_X9_readTrace rfl) rfl (pm_nb1 z17)
set_option maxRecDepth 20000 in
set_option maxHeartbeats 20000000 in
theorem e_X9_readTrace (d : Nat) (hd : 6 ≤ d) (gx : List pm_E) (gs : List (List pm_E)) (q : Nat × Nat × Nat) (s : mo_S) (r : Int32) (s1 : mo_S) (H : f_X9_readTrace s = some (r, s1)) : pm_Mt 183 d [.ref 64] (mo_h gx s gs q) (.inl (some (.int r))) (mo_h gx s1 gs q) := by
  refine pm_Mt.of (by decide) (by decide +kernel) rfl rfl ?_
  obtain ⟨d, rfl⟩ : ∃ d', d = d' + 1 := ⟨d - 1, by omega⟩
  unfold f_X9_readTrace at H
  refine pm_Wg.path (k := 3) (ds := []) (f' := (5, [some (.ref 64)], [], mo_h gx (mo_i s 20 0) gs q)) tk_X9_readTrace (by omega) rfl trivial ?_
  exact ll_X9_readTrace_5 (d + 1) (by omega) gx gs q r s1 (fun e => e = (r, s1)) (fun e he => he) pm_fu _ _ H rfl

def lb_X9_loadTrace_61 (x : mo_S × Int32 × Int32) : Option ((mo_S × Int32 × Int32) ⊕ (Int32 × mo_S)) := match x with
  | (s, l1, l2) =>
   (if (5 * (s.1 20)) ≤ l2 then
    (match pm_inb 3 18186 with
    | false => none
    | true =>
    some (.inr (((mo_a (mo_i s 19 (s.1 20)) 3 3 0).1 19), (mo_a (mo_i s 19 (s.1 20)) 3 3 0))))
   else
    (match pm_inb l2 500 with
    | false => none
    | true =>
    some (.inl ((mo_a s 17 l2 (s.2.2.1 18 (Int32.toNatClampNeg l2))), l1, (l2 + 1)))))
def fc_X9_loadTrace_c1 (s : mo_S) (l1 : Int32) (k0 : Int32) : Option (Int32 × mo_S) :=
  (match f_X9_isArray (mo_i s 8 k0) with
  | none => none
  | some r7 =>
   (if r7 = 0 then
    (match f_X9_refuse (mo_i s 8 k0) 2 with
    | none => none
    | some (r10, s11) =>
     some (r10, s11))
   else
    (match f_X9_startText (mo_i s 8 k0) l1 with
    | none => none
    | some s13 =>
     (match f_X9_readTrace s13 with
     | none => none
     | some (r15, s16) =>
      (if r15 = 0 then
       (match f_X9_refuse s16 2 with
       | none => none
       | some (r19, s20) =>
        some (r19, s20))
      else
       (pm_loop pm_fu lb_X9_loadTrace_61 (s16, l1, 0)))))))
def f_X9_loadTrace (s : mo_S) (a0 : Int32) : Option (Int32 × mo_S) :=
  (match f_X9_in (mo_i s 2 0) a0 0 ((mo_i s 2 0).1 8) with
  | none => none
  | some r1 =>
   (if r1 = 0 then
    (match f_X9_refuse (mo_i s 2 0) 1 with
    | none => none
    | some (r4, s5) =>
     some (r4, s5))
   else
    (fc_X9_loadTrace_c1 (mo_i s 2 0) a0 0)))
def tb_X9_loadTrace : List pm_I := [(0, .aload_n 0, 0, 0), (1, .iconst 0, 2, 0), (2, .putfield 45, 161, 0), (5, .iload_n 1, 0, 0), (6, .iconst 0, 2, 0), (7, .aload_n 0, 0, 0), (8, .getfield 66, 167, 0), (11, .invokestatic 59, 233, 0), (14, .ifCond .ne 9, 23, 0), (17, .aload_n 0, 0, 0), (18, .iconst 1, 3, 0), (19, .invokevirtual 69, 227, 0), (22, .ireturn, 0, 0), (23, .aload_n 0, 0, 0), (24, .iconst 0, 2, 0), (25, .putfield 66, 167, 0), (28, .aload_n 0, 0, 0), (29, .invokevirtual 51, 254, 0), (32, .ifCond .ne 9, 41, 0), (35, .aload_n 0, 0, 0), (36, .iconst 2, 4, 0), (37, .invokevirtual 69, 227, 0), (40, .ireturn, 0, 0), (41, .aload_n 0, 0, 0), (42, .iload_n 1, 0, 0), (43, .invokevirtual 179, 234, 0), (46, .aload_n 0, 0, 0), (47, .invokevirtual 200, 255, 0), (50, .ifCond .ne 9, 59, 0), (53, .aload_n 0, 0, 0), (54, .iconst 2, 4, 0), (55, .invokevirtual 69, 227, 0), (58, .ireturn, 0, 0), (59, .iconst 0, 2, 0), (60, .istore_n 2, 0, 0), (61, .iload_n 2, 0, 0), (62, .iconst 5, 7, 0), (63, .aload_n 0, 0, 0), (64, .getfield 185, 179, 0), (67, .imul, 0, 0), (68, .if_icmp .ge 21, 89, 0), (71, .aload_n 0, 0, 0), (72, .getfield 36, 176, 0), (75, .iload_n 2, 0, 0), (76, .aload_n 0, 0, 0), (77, .getfield 39, 177, 0), (80, .iload_n 2, 0, 0), (81, .iaload, 0, 0), (82, .iastore, 0, 0), (83, .iinc 2 1, 3, 0), (86, .goto (-25), 61, 0), (89, .aload_n 0, 0, 0), (90, .aload_n 0, 0, 0), (91, .getfield 185, 179, 0), (94, .putfield 48, 178, 0), (97, .aload_n 0, 0, 0), (98, .getfield 16, 162, 0), (101, .iconst 3, 5, 0), (102, .iconst 0, 2, 0), (103, .iastore, 0, 0), (104, .aload_n 0, 0, 0), (105, .getfield 48, 178, 0), (108, .ireturn, 0, 0)]
theorem tk_X9_loadTrace : ∀ e ∈ tb_X9_loadTrace, pm_ck 184 e = true := List.all_eq_true.mp (by decide +kernel)
set_option maxRecDepth 20000 in
set_option maxHeartbeats 40000000 in
theorem ll_X9_loadTrace_61 (d : Nat) (hd : 7 ≤ d) (gx : List pm_E) (gs : List (List pm_E)) (q : Nat × Nat × Nat) (r : Int32) (s1 : mo_S) (P : Int32 × mo_S → Prop) (K0 : ∀ e : Int32 × mo_S, P (e) → e = (r, s1)) : ∀ (n : Nat) (s : mo_S) (l1 : Int32) (l2 : Int32) (e : Int32 × mo_S), pm_loop n lb_X9_loadTrace_61 (s, l1, l2) = some e → P e → pm_Wg 184 d (.inl (some (.int r))) (mo_h gx s1 gs q) (61, [some (.ref 64), some (.int l1), some (.int l2)], [], mo_h gx s gs q) := by
  intro n
  induction n with
  | zero => intro s l1 l2 e H; cases H
  | succ n ih =>
    intro s l1 l2 e H hPe
    obtain ⟨d, rfl⟩ : ∃ d', d = d' + 1 := ⟨d - 1, by omega⟩
    have H : pm_lst (pm_loop n lb_X9_loadTrace_61) (lb_X9_loadTrace_61 (s, l1, l2)) = some e := H
    generalize pm_loop n lb_X9_loadTrace_61 = LB at H ih
    unfold lb_X9_loadTrace_61 at H
    try dsimp only at H
    by_cases h22 : (5 * (s.1 20)) ≤ l2
    · rw [if_pos h22] at H
      cases b23 : pm_inb 3 18186 with
      | false => rw [b23] at H; cases H
      | true =>
       rw [b23] at H
       dsimp only at H
       have He := Option.some.inj H
       subst He
       have H := K0 _ hPe
       injection H with H1 H2
       subst H1
       subst H2
       refine pm_Wg.path (k := 17) (ds := [1]) (f' := (108, [some (.ref 64), some (.int l1), some (.int l2)], [.int ((mo_a (mo_i s 19 (s.1 20)) 3 3 0).1 19)], mo_h gx (mo_a (mo_i s 19 (s.1 20)) 3 3 0) gs q)) tk_X9_loadTrace (by omega) rfl ⟨pm_inb_vp b23, h22, trivial⟩ ?_
       exact pm_Wg.iret (pm_dec tk_X9_loadTrace rfl) rfl rfl
    · rw [if_neg h22] at H
      cases b24 : pm_inb l2 500 with
      | false => rw [b24] at H; cases H
      | true =>
       rw [b24] at H
       dsimp only at H
       refine pm_Wg.path (k := 16) (ds := [0]) (f' := (61, [some (.ref 64), some (.int l1), some (.int (l2 + 1))], [], mo_h gx (mo_a s 17 l2 (s.2.2.1 18 (Int32.toNatClampNeg l2))) gs q)) tk_X9_loadTrace (by omega) rfl ⟨pm_inb_vp b24, pm_inb_vp b24, h22, trivial⟩ ?_
       exact ih _ _ _ e H hPe
set_option maxRecDepth 20000 in
set_option maxHeartbeats 20000000 in
theorem ec_X9_loadTrace_c1 (d : Nat) (hd : 7 ≤ d) (gx : List pm_E) (gs : List (List pm_E)) (q : Nat × Nat × Nat) (s : mo_S) (l1 : Int32) (k0 : Int32) (r : Int32) (s1 : mo_S) (H : fc_X9_loadTrace_c1 s l1 k0 = some (r, s1)) : pm_Wg 184 d (.inl (some (.int r))) (mo_h gx s1 gs q) (25, [some (.ref 64), some (.int l1), none], [.int k0, .ref 64], mo_h gx s gs q) := by
  obtain ⟨d, rfl⟩ : ∃ d', d = d' + 1 := ⟨d - 1, by omega⟩
  unfold fc_X9_loadTrace_c1 at H
  try dsimp only at H
  cases q8 : f_X9_isArray (mo_i s 8 k0) with
  | none => rw [q8] at H; cases H
  | some r7 =>
   rw [q8] at H
   dsimp only at H
   refine pm_Wg.path (k := 2) (ds := []) (f' := (29, [some (.ref 64), some (.int l1), none], [.ref 64], mo_h gx (mo_i s 8 k0) gs q)) tk_X9_loadTrace (by omega) rfl trivial ?_
   refine pm_Wg.callV (m' := 149) (ix := 51) (rr := 254) (pl := 1598) (b := 64) (As := []) (S := []) (by decide) rfl (pm_dec tk_X9_loadTrace rfl) rfl rfl (by decide) rfl rfl (by decide) (Nat.le_of_ble_eq_true rfl) rfl (e_X9_isArray d (by omega) gx gs q _ _ q8) ?_
   by_cases h9 : r7 = 0
   · rw [if_pos h9] at H
     cases q12 : f_X9_refuse (mo_i s 8 k0) 2 with
     | none => rw [q12] at H; cases H
     | some w =>
      obtain ⟨r10, s11⟩ := w
      rw [q12] at H
      dsimp only at H
      refine pm_Wg.path (k := 3) (ds := [0]) (f' := (37, [some (.ref 64), some (.int l1), none], [.int 2, .ref 64], mo_h gx (mo_i s 8 k0) gs q)) tk_X9_loadTrace (by omega) rfl ⟨h9, trivial⟩ ?_
      refine pm_Wg.callV (m' := 145) (ix := 69) (rr := 227) (pl := 1483) (b := 64) (As := [.int 2]) (S := []) (by decide) rfl (pm_dec tk_X9_loadTrace rfl) rfl rfl (by decide) rfl rfl (by decide) (Nat.le_of_ble_eq_true rfl) rfl (e_X9_refuse d (by omega) gx gs q _ _ _ _ q12) ?_
      injection H with H
      injection H with H1 H2
      subst H1
      subst H2
      exact pm_Wg.iret (pm_dec tk_X9_loadTrace rfl) rfl rfl
   · rw [if_neg h9] at H
     cases q14 : f_X9_startText (mo_i s 8 k0) l1 with
     | none => rw [q14] at H; cases H
     | some s13 =>
      rw [q14] at H
      dsimp only at H
      refine pm_Wg.path (k := 3) (ds := [1]) (f' := (43, [some (.ref 64), some (.int l1), none], [.int l1, .ref 64], mo_h gx (mo_i s 8 k0) gs q)) tk_X9_loadTrace (by omega) rfl ⟨h9, trivial⟩ ?_
      refine pm_Wg.callV (m' := 176) (ix := 179) (rr := 234) (pl := 1510) (b := 64) (As := [.int l1]) (S := []) (by decide) rfl (pm_dec tk_X9_loadTrace rfl) rfl rfl (by decide) rfl rfl (by decide) (Nat.le_of_ble_eq_true rfl) rfl (e_X9_startText d (by omega) gx gs q _ _ _ q14) ?_
      cases q17 : f_X9_readTrace s13 with
      | none => rw [q17] at H; cases H
      | some w =>
       obtain ⟨r15, s16⟩ := w
       rw [q17] at H
       dsimp only at H
       refine pm_Wg.path (k := 1) (ds := []) (f' := (47, [some (.ref 64), some (.int l1), none], [.ref 64], mo_h gx s13 gs q)) tk_X9_loadTrace (by omega) rfl trivial ?_
       refine pm_Wg.callV (m' := 183) (ix := 200) (rr := 255) (pl := 1602) (b := 64) (As := []) (S := []) (by decide) rfl (pm_dec tk_X9_loadTrace rfl) rfl rfl (by decide) rfl rfl (by decide) (Nat.le_of_ble_eq_true rfl) rfl (e_X9_readTrace d (by omega) gx gs q _ _ _ q17) ?_
       by_cases h18 : r15 = 0
       · rw [if_pos h18] at H
         cases q21 : f_X9_refuse s16 2 with
         | none => rw [q21] at H; cases H
         | some w =>
          obtain ⟨r19, s20⟩ := w
          rw [q21] at H
          dsimp only at H
          refine pm_Wg.path (k := 3) (ds := [0]) (f' := (55, [some (.ref 64), some (.int l1), none], [.int 2, .ref 64], mo_h gx s16 gs q)) tk_X9_loadTrace (by omega) rfl ⟨h18, trivial⟩ ?_
          refine pm_Wg.callV (m' := 145) (ix := 69) (rr := 227) (pl := 1483) (b := 64) (As := [.int 2]) (S := []) (by decide) rfl (pm_dec tk_X9_loadTrace rfl) rfl rfl (by decide) rfl rfl (by decide) (Nat.le_of_ble_eq_true rfl) rfl (e_X9_refuse d (by omega) gx gs q _ _ _ _ q21) ?_
          injection H with H
          injection H with H1 H2
          subst H1
          subst H2
          exact pm_Wg.iret (pm_dec tk_X9_loadTrace rfl) rfl rfl
       · rw [if_neg h18] at H
         refine pm_Wg.path (k := 3) (ds := [1]) (f' := (61, [some (.ref 64), some (.int l1), some (.int 0)], [], mo_h gx s16 gs q)) tk_X9_loadTrace (by omega) rfl ⟨h18, trivial⟩ ?_
         exact ll_X9_loadTrace_61 (d + 1) (by omega) gx gs q r s1 (fun e => e = (r, s1)) (fun e he => he) pm_fu _ _ _ _ H rfl
set_option maxRecDepth 20000 in
set_option maxHeartbeats 20000000 in
theorem e_X9_loadTrace (d : Nat) (hd : 7 ≤ d) (gx : List pm_E) (gs : List (List pm_E)) (q : Nat × Nat × Nat) (s : mo_S) (a0 : Int32) (r : Int32) (s1 : mo_S) (H : f_X9_loadTrace s a0 = some (r, s1)) : pm_Mt 184 d [.ref 64, .int a0] (mo_h gx s gs q) (.inl (some (.int r))) (mo_h gx s1 gs q) := by
  refine pm_Mt.of (by decide) (by decide +kernel) rfl rfl ?_
  obtain ⟨d, rfl⟩ : ∃ d', d = d' + 1 := ⟨d - 1, by omega⟩
  unfold f_X9_loadTrace at H
  cases q2 : f_X9_in (mo_i s 2 0) a0 0 ((mo_i s 2 0).1 8) with
  | none => rw [q2] at H; cases H
  | some r1 =>
   rw [q2] at H
   dsimp only at H
   refine pm_Wg.path (k := 7) (ds := []) (f' := (11, [some (.ref 64), some (.int a0), none], [.int ((mo_i s 2 0).1 8), .int 0, .int a0], mo_h gx (mo_i s 2 0) gs q)) tk_X9_loadTrace (by omega) rfl trivial ?_
   refine pm_Wg.callS (m' := 147) (ix := 59) (rr := 233) (pl := 1507) (As := [.int a0, .int 0, .int ((mo_i s 2 0).1 8)]) (S := []) (by decide) rfl (pm_dec tk_X9_loadTrace rfl) rfl rfl rfl (Nat.le_of_ble_eq_true rfl) rfl (e_X9_in d (by omega) gx gs q _ _ _ _ _ q2) ?_
   by_cases h3 : r1 = 0
   · rw [if_pos h3] at H
     cases q6 : f_X9_refuse (mo_i s 2 0) 1 with
     | none => rw [q6] at H; cases H
     | some w =>
      obtain ⟨r4, s5⟩ := w
      rw [q6] at H
      dsimp only at H
      refine pm_Wg.path (k := 3) (ds := [0]) (f' := (19, [some (.ref 64), some (.int a0), none], [.int 1, .ref 64], mo_h gx (mo_i s 2 0) gs q)) tk_X9_loadTrace (by omega) rfl ⟨h3, trivial⟩ ?_
      refine pm_Wg.callV (m' := 145) (ix := 69) (rr := 227) (pl := 1483) (b := 64) (As := [.int 1]) (S := []) (by decide) rfl (pm_dec tk_X9_loadTrace rfl) rfl rfl (by decide) rfl rfl (by decide) (Nat.le_of_ble_eq_true rfl) rfl (e_X9_refuse d (by omega) gx gs q _ _ _ _ q6) ?_
      injection H with H
      injection H with H1 H2
      subst H1
      subst H2
      exact pm_Wg.iret (pm_dec tk_X9_loadTrace rfl) rfl rfl
   · rw [if_neg h3] at H
     refine pm_Wg.path (k := 3) (ds := [1]) (f' := (25, [some (.ref 64), some (.int a0), none], [.int 0, .ref 64], mo_h gx (mo_i s 2 0) gs q)) tk_X9_loadTrace (by omega) rfl ⟨h3, trivial⟩ ?_
     exact ec_X9_loadTrace_c1 (d + 1) (by omega) gx gs q _ _ _ _ _ H

def lb_X9_remove_23 (x : mo_S × Int32 × Int32 × Int32) : Option ((mo_S × Int32 × Int32 × Int32) ⊕ (mo_S)) := match x with
  | (s, l1, l2, l3) =>
   (match f_X9_of s l3 5 with
   | none => none
   | some r8 =>
    (if r8 = l2 then
     (match f_X9_of s l2 5 with
     | none => none
     | some r11 =>
      (match f_X9_set s l3 5 r11 with
      | none => none
      | some s13 =>
       (match f_X9_ofQueue s13 l1 2 with
       | none => none
       | some r15 =>
        (match f_X9_setQueue s13 l1 2 (r15 - 1) with
        | none => none
        | some s17 =>
         (match f_X9_ofQueue s17 l1 1 with
         | none => none
         | some r19 =>
          (if r19 = l2 then
           (match f_X9_setQueue s17 l1 1 l3 with
           | none => none
           | some s22 =>
            some (.inr s22))
          else
           some (.inr s17)))))))
    else
     some (.inl (s, l1, l2, r8))))
def f_X9_remove (s : mo_S) (a0 : Int32) (a1 : Int32) : Option mo_S :=
  (match f_X9_ofQueue s a0 0 with
  | none => none
  | some r1 =>
   (if r1 = a1 then
    (match f_X9_removeFirst s a0 with
    | none => none
    | some s4 =>
     some s4)
   else
    (pm_loop pm_fu lb_X9_remove_23 (s, a0, a1, r1))))
def tb_X9_remove : List pm_I := [(0, .aload_n 0, 0, 0), (1, .iload_n 1, 0, 0), (2, .iconst 0, 2, 0), (3, .invokevirtual 233, 290, 0), (6, .iload_n 2, 0, 0), (7, .if_icmp .ne 9, 16, 0), (10, .aload_n 0, 0, 0), (11, .iload_n 1, 0, 0), (12, .invokevirtual 264, 302, 0), (15, .return_, 0, 0), (16, .aload_n 0, 0, 0), (17, .iload_n 1, 0, 0), (18, .iconst 0, 2, 0), (19, .invokevirtual 233, 290, 0), (22, .istore_n 3, 0, 0), (23, .aload_n 0, 0, 0), (24, .iload_n 3, 0, 0), (25, .iconst 5, 7, 0), (26, .invokevirtual 254, 285, 0), (29, .iload_n 2, 0, 0), (30, .if_icmp .eq 13, 43, 0), (33, .aload_n 0, 0, 0), (34, .iload_n 3, 0, 0), (35, .iconst 5, 7, 0), (36, .invokevirtual 254, 285, 0), (39, .istore_n 3, 0, 0), (40, .goto (-17), 23, 0), (43, .aload_n 0, 0, 0), (44, .iload_n 3, 0, 0), (45, .iconst 5, 7, 0), (46, .aload_n 0, 0, 0), (47, .iload_n 2, 0, 0), (48, .iconst 5, 7, 0), (49, .invokevirtual 254, 285, 0), (52, .invokevirtual 244, 286, 0), (55, .aload_n 0, 0, 0), (56, .iload_n 1, 0, 0), (57, .iconst 2, 4, 0), (58, .aload_n 0, 0, 0), (59, .iload_n 1, 0, 0), (60, .iconst 2, 4, 0), (61, .invokevirtual 233, 290, 0), (64, .iconst 1, 3, 0), (65, .isub, 0, 0), (66, .invokevirtual 240, 292, 0), (69, .aload_n 0, 0, 0), (70, .iload_n 1, 0, 0), (71, .iconst 1, 3, 0), (72, .invokevirtual 233, 290, 0), (75, .iload_n 2, 0, 0), (76, .if_icmp .ne 10, 86, 0), (79, .aload_n 0, 0, 0), (80, .iload_n 1, 0, 0), (81, .iconst 1, 3, 0), (82, .iload_n 3, 0, 0), (83, .invokevirtual 240, 292, 0), (86, .return_, 0, 0)]
theorem tk_X9_remove : ∀ e ∈ tb_X9_remove, pm_ck 209 e = true := List.all_eq_true.mp (by decide +kernel)
set_option maxRecDepth 20000 in
set_option maxHeartbeats 40000000 in
theorem ll_X9_remove_23 (d : Nat) (hd : 3 ≤ d) (gx : List pm_E) (gs : List (List pm_E)) (q : Nat × Nat × Nat) (s1 : mo_S) (P : mo_S → Prop) (K0 : ∀ e : mo_S, P (e) → e = s1) : ∀ (n : Nat) (s : mo_S) (l1 : Int32) (l2 : Int32) (l3 : Int32) (e : mo_S), pm_loop n lb_X9_remove_23 (s, l1, l2, l3) = some e → P e → pm_Wg 209 d (.inl (none)) (mo_h gx s1 gs q) (23, [some (.ref 64), some (.int l1), some (.int l2), some (.int l3)], [], mo_h gx s gs q) := by
  intro n
  induction n with
  | zero => intro s l1 l2 l3 e H; cases H
  | succ n ih =>
    intro s l1 l2 l3 e H hPe
    obtain ⟨d, rfl⟩ : ∃ d', d = d' + 1 := ⟨d - 1, by omega⟩
    have H : pm_lst (pm_loop n lb_X9_remove_23) (lb_X9_remove_23 (s, l1, l2, l3)) = some e := H
    generalize pm_loop n lb_X9_remove_23 = LB at H ih
    unfold lb_X9_remove_23 at H
    try dsimp only at H
    cases q9 : f_X9_of s l3 5 with
    | none => rw [q9] at H; cases H
    | some r8 =>
     rw [q9] at H
     dsimp only at H
     refine pm_Wg.path (k := 3) (ds := []) (f' := (26, [some (.ref 64), some (.int l1), some (.int l2), some (.int l3)], [.int 5, .int l3, .ref 64], mo_h gx s gs q)) tk_X9_remove (by omega) rfl trivial ?_
     refine pm_Wg.callV (m' := 200) (ix := 254) (rr := 285) (pl := 1726) (b := 64) (As := [.int l3, .int 5]) (S := []) (by decide) rfl (pm_dec tk_X9_remove rfl) rfl rfl (by decide) rfl rfl (by decide) (Nat.le_of_ble_eq_true rfl) rfl (e_X9_of d (by omega) gx gs q _ _ _ _ q9) ?_
     by_cases h10 : r8 = l2
     · rw [if_pos h10] at H
       cases q12 : f_X9_of s l2 5 with
       | none => rw [q12] at H; cases H
       | some r11 =>
        rw [q12] at H
        dsimp only at H
        refine pm_Wg.path (k := 8) (ds := [1]) (f' := (49, [some (.ref 64), some (.int l1), some (.int l2), some (.int l3)], [.int 5, .int l2, .ref 64, .int 5, .int l3, .ref 64], mo_h gx s gs q)) tk_X9_remove (by omega) rfl ⟨h10, trivial⟩ ?_
        refine pm_Wg.callV (m' := 200) (ix := 254) (rr := 285) (pl := 1726) (b := 64) (As := [.int l2, .int 5]) (S := [.int 5, .int l3, .ref 64]) (by decide) rfl (pm_dec tk_X9_remove rfl) rfl rfl (by decide) rfl rfl (by decide) (Nat.le_of_ble_eq_true rfl) rfl (e_X9_of d (by omega) gx gs q _ _ _ _ q12) ?_
        cases q14 : f_X9_set s l3 5 r11 with
        | none => rw [q14] at H; cases H
        | some s13 =>
         rw [q14] at H
         dsimp only at H
         refine pm_Wg.callV (m' := 201) (ix := 244) (rr := 286) (pl := 1730) (b := 64) (As := [.int l3, .int 5, .int r11]) (S := []) (by decide) rfl (pm_dec tk_X9_remove rfl) rfl rfl (by decide) rfl rfl (by decide) (Nat.le_of_ble_eq_true rfl) rfl (e_X9_set d (by omega) gx gs q _ _ _ _ _ q14) ?_
         cases q16 : f_X9_ofQueue s13 l1 2 with
         | none => rw [q16] at H; cases H
         | some r15 =>
          rw [q16] at H
          dsimp only at H
          refine pm_Wg.path (k := 6) (ds := []) (f' := (61, [some (.ref 64), some (.int l1), some (.int l2), some (.int l3)], [.int 2, .int l1, .ref 64, .int 2, .int l1, .ref 64], mo_h gx s13 gs q)) tk_X9_remove (by omega) rfl trivial ?_
          refine pm_Wg.callV (m' := 198) (ix := 233) (rr := 290) (pl := 1747) (b := 64) (As := [.int l1, .int 2]) (S := [.int 2, .int l1, .ref 64]) (by decide) rfl (pm_dec tk_X9_remove rfl) rfl rfl (by decide) rfl rfl (by decide) (Nat.le_of_ble_eq_true rfl) rfl (e_X9_ofQueue d (by omega) gx gs q _ _ _ _ q16) ?_
          cases q18 : f_X9_setQueue s13 l1 2 (r15 - 1) with
          | none => rw [q18] at H; cases H
          | some s17 =>
           rw [q18] at H
           dsimp only at H
           refine pm_Wg.path (k := 2) (ds := []) (f' := (66, [some (.ref 64), some (.int l1), some (.int l2), some (.int l3)], [.int (r15 - 1), .int 2, .int l1, .ref 64], mo_h gx s13 gs q)) tk_X9_remove (by omega) rfl trivial ?_
           refine pm_Wg.callV (m' := 199) (ix := 240) (rr := 292) (pl := 1756) (b := 64) (As := [.int l1, .int 2, .int (r15 - 1)]) (S := []) (by decide) rfl (pm_dec tk_X9_remove rfl) rfl rfl (by decide) rfl rfl (by decide) (Nat.le_of_ble_eq_true rfl) rfl (e_X9_setQueue d (by omega) gx gs q _ _ _ _ _ q18) ?_
           cases q20 : f_X9_ofQueue s17 l1 1 with
           | none => rw [q20] at H; cases H
           | some r19 =>
            rw [q20] at H
            dsimp only at H
            refine pm_Wg.path (k := 3) (ds := []) (f' := (72, [some (.ref 64), some (.int l1), some (.int l2), some (.int l3)], [.int 1, .int l1, .ref 64], mo_h gx s17 gs q)) tk_X9_remove (by omega) rfl trivial ?_
            refine pm_Wg.callV (m' := 198) (ix := 233) (rr := 290) (pl := 1747) (b := 64) (As := [.int l1, .int 1]) (S := []) (by decide) rfl (pm_dec tk_X9_remove rfl) rfl rfl (by decide) rfl rfl (by decide) (Nat.le_of_ble_eq_true rfl) rfl (e_X9_ofQueue d (by omega) gx gs q _ _ _ _ q20) ?_
            by_cases h21 : r19 = l2
            · rw [if_pos h21] at H
              cases q23 : f_X9_setQueue s17 l1 1 l3 with
              | none => rw [q23] at H; cases H
              | some s22 =>
               rw [q23] at H
               dsimp only at H
               refine pm_Wg.path (k := 6) (ds := [0]) (f' := (83, [some (.ref 64), some (.int l1), some (.int l2), some (.int l3)], [.int l3, .int 1, .int l1, .ref 64], mo_h gx s17 gs q)) tk_X9_remove (by omega) rfl ⟨h21, trivial⟩ ?_
               refine pm_Wg.callV (m' := 199) (ix := 240) (rr := 292) (pl := 1756) (b := 64) (As := [.int l1, .int 1, .int l3]) (S := []) (by decide) rfl (pm_dec tk_X9_remove rfl) rfl rfl (by decide) rfl rfl (by decide) (Nat.le_of_ble_eq_true rfl) rfl (e_X9_setQueue d (by omega) gx gs q _ _ _ _ _ q23) ?_
               have He := Option.some.inj H
               subst He
               have H := K0 _ hPe
               subst H
               exact pm_Wg.vret (pm_dec tk_X9_remove rfl) rfl
            · rw [if_neg h21] at H
              have He := Option.some.inj H
              subst He
              have H := K0 _ hPe
              subst H
              refine pm_Wg.path (k := 2) (ds := [1]) (f' := (86, [some (.ref 64), some (.int l1), some (.int l2), some (.int l3)], [], mo_h gx s17 gs q)) tk_X9_remove (by omega) rfl ⟨h21, trivial⟩ ?_
              exact pm_Wg.vret (pm_dec tk_X9_remove rfl) rfl
     · rw [if_neg h10] at H
       refine pm_Wg.path (k := 5) (ds := [0]) (f' := (36, [some (.ref 64), some (.int l1), some (.int l2), some (.int l3)], [.int 5, .int l3, .ref 64], mo_h gx s gs q)) tk_X9_remove (by omega) rfl ⟨h10, trivial⟩ ?_
       refine pm_Wg.callV (m' := 200) (ix := 254) (rr := 285) (pl := 1726) (b := 64) (As := [.int l3, .int 5]) (S := []) (by decide) rfl (pm_dec tk_X9_remove rfl) rfl rfl (by decide) rfl rfl (by decide) (Nat.le_of_ble_eq_true rfl) rfl (e_X9_of d (by omega) gx gs q _ _ _ _ q9) ?_
       refine pm_Wg.path (k := 2) (ds := []) (f' := (23, [some (.ref 64), some (.int l1), some (.int l2), some (.int r8)], [], mo_h gx s gs q)) tk_X9_remove (by omega) rfl trivial ?_
       exact ih _ _ _ _ e H hPe
set_option maxRecDepth 20000 in
set_option maxHeartbeats 20000000 in
theorem e_X9_remove (d : Nat) (hd : 3 ≤ d) (gx : List pm_E) (gs : List (List pm_E)) (q : Nat × Nat × Nat) (s : mo_S) (a0 : Int32) (a1 : Int32) (s1 : mo_S) (H : f_X9_remove s a0 a1 = some s1) : pm_Mt 209 d [.ref 64, .int a0, .int a1] (mo_h gx s gs q) (.inl (none)) (mo_h gx s1 gs q) := by
  refine pm_Mt.of (by decide) (by decide +kernel) rfl rfl ?_
  obtain ⟨d, rfl⟩ : ∃ d', d = d' + 1 := ⟨d - 1, by omega⟩
  unfold f_X9_remove at H
  cases q2 : f_X9_ofQueue s a0 0 with
  | none => rw [q2] at H; cases H
  | some r1 =>
   rw [q2] at H
   dsimp only at H
   refine pm_Wg.path (k := 3) (ds := []) (f' := (3, [some (.ref 64), some (.int a0), some (.int a1), none], [.int 0, .int a0, .ref 64], mo_h gx s gs q)) tk_X9_remove (by omega) rfl trivial ?_
   refine pm_Wg.callV (m' := 198) (ix := 233) (rr := 290) (pl := 1747) (b := 64) (As := [.int a0, .int 0]) (S := []) (by decide) rfl (pm_dec tk_X9_remove rfl) rfl rfl (by decide) rfl rfl (by decide) (Nat.le_of_ble_eq_true rfl) rfl (e_X9_ofQueue d (by omega) gx gs q _ _ _ _ q2) ?_
   by_cases h3 : r1 = a1
   · rw [if_pos h3] at H
     cases q5 : f_X9_removeFirst s a0 with
     | none => rw [q5] at H; cases H
     | some s4 =>
      rw [q5] at H
      dsimp only at H
      refine pm_Wg.path (k := 4) (ds := [0]) (f' := (12, [some (.ref 64), some (.int a0), some (.int a1), none], [.int a0, .ref 64], mo_h gx s gs q)) tk_X9_remove (by omega) rfl ⟨h3, trivial⟩ ?_
      refine pm_Wg.callV (m' := 208) (ix := 264) (rr := 302) (pl := 1796) (b := 64) (As := [.int a0]) (S := []) (by decide) rfl (pm_dec tk_X9_remove rfl) rfl rfl (by decide) rfl rfl (by decide) (Nat.le_of_ble_eq_true rfl) rfl (e_X9_removeFirst d (by omega) gx gs q _ _ _ q5) ?_
      injection H with H
      subst H
      exact pm_Wg.vret (pm_dec tk_X9_remove rfl) rfl
   · rw [if_neg h3] at H
     refine pm_Wg.path (k := 5) (ds := [1]) (f' := (19, [some (.ref 64), some (.int a0), some (.int a1), none], [.int 0, .int a0, .ref 64], mo_h gx s gs q)) tk_X9_remove (by omega) rfl ⟨h3, trivial⟩ ?_
     refine pm_Wg.callV (m' := 198) (ix := 233) (rr := 290) (pl := 1747) (b := 64) (As := [.int a0, .int 0]) (S := []) (by decide) rfl (pm_dec tk_X9_remove rfl) rfl rfl (by decide) rfl rfl (by decide) (Nat.le_of_ble_eq_true rfl) rfl (e_X9_ofQueue d (by omega) gx gs q _ _ _ _ q2) ?_
     refine pm_Wg.path (k := 1) (ds := []) (f' := (23, [some (.ref 64), some (.int a0), some (.int a1), some (.int r1)], [], mo_h gx s gs q)) tk_X9_remove (by omega) rfl trivial ?_
     exact ll_X9_remove_23 (d + 1) (by omega) gx gs q s1 (fun e => e = s1) (fun e he => he) pm_fu _ _ _ _ _ H rfl

def lb_X9_areAllHeld_2 (s : mo_S) (x : Int32 × Int32) : Option ((Int32 × Int32) ⊕ (Int32)) := match x with
  | (l1, l2) =>
   (match f_X9_disks s with
   | none => none
   | some r1 =>
    (if r1 ≤ l2 then
     some (.inr 1)
    else
     (match f_X9_isSurviving s l2 with
     | none => none
     | some r4 =>
      (if r4 = 0 then
       some (.inl (l1, (l2 + 1)))
      else
       (match f_X9_isHeldOn s l2 l1 with
       | none => none
       | some r7 =>
        (if r7 = 0 then
         some (.inr 0)
        else
         some (.inl (l1, (l2 + 1)))))))))
def f_X9_areAllHeld (s : mo_S) (a0 : Int32) : Option Int32 :=
  (pm_loop pm_fu (lb_X9_areAllHeld_2 s) (a0, 0))
def tb_X9_areAllHeld : List pm_I := [(0, .iconst 0, 2, 0), (1, .istore_n 2, 0, 0), (2, .iload_n 2, 0, 0), (3, .aload_n 0, 0, 0), (4, .invokevirtual 55, 258, 0), (7, .if_icmp .ge 28, 35, 0), (10, .aload_n 0, 0, 0), (11, .iload_n 2, 0, 0), (12, .invokevirtual 276, 280, 0), (15, .ifCond .eq 14, 29, 0), (18, .aload_n 0, 0, 0), (19, .iload_n 2, 0, 0), (20, .iload_n 1, 0, 0), (21, .invokevirtual 279, 281, 0), (24, .ifCond .ne 5, 29, 0), (27, .iconst 0, 2, 0), (28, .ireturn, 0, 0), (29, .iinc 2 1, 3, 0), (32, .goto (-30), 2, 0), (35, .iconst 1, 3, 0), (36, .ireturn, 0, 0)]
theorem tk_X9_areAllHeld : ∀ e ∈ tb_X9_areAllHeld, pm_ck 227 e = true := List.all_eq_true.mp (by decide +kernel)
set_option maxRecDepth 20000 in
set_option maxHeartbeats 40000000 in
theorem ll_X9_areAllHeld_2 (d : Nat) (hd : 3 ≤ d) (gx : List pm_E) (gs : List (List pm_E)) (q : Nat × Nat × Nat) (s : mo_S) (r : Int32) (P : Int32 → Prop) (K0 : ∀ e : Int32, P (e) → e = r) : ∀ (n : Nat) (l1 : Int32) (l2 : Int32) (e : Int32), pm_loop n (lb_X9_areAllHeld_2 s) (l1, l2) = some e → P e → pm_Wg 227 d (.inl (some (.int r))) (mo_h gx s gs q) (2, [some (.ref 64), some (.int l1), some (.int l2)], [], mo_h gx s gs q) := by
  intro n
  induction n with
  | zero => intro l1 l2 e H; cases H
  | succ n ih =>
    intro l1 l2 e H hPe
    obtain ⟨d, rfl⟩ : ∃ d', d = d' + 1 := ⟨d - 1, by omega⟩
    have H : pm_lst (pm_loop n (lb_X9_areAllHeld_2 s)) (lb_X9_areAllHeld_2 s (l1, l2)) = some e := H
    generalize pm_loop n (lb_X9_areAllHeld_2 s) = LB at H ih
    unfold lb_X9_areAllHeld_2 at H
    try dsimp only at H
    cases q2 : f_X9_disks s with
    | none => rw [q2] at H; cases H
    | some r1 =>
     rw [q2] at H
     dsimp only at H
     refine pm_Wg.path (k := 2) (ds := []) (f' := (4, [some (.ref 64), some (.int l1), some (.int l2)], [.ref 64, .int l2], mo_h gx s gs q)) tk_X9_areAllHeld (by omega) rfl trivial ?_
     refine pm_Wg.callV (m' := 150) (ix := 55) (rr := 258) (pl := 1618) (b := 64) (As := []) (S := [.int l2]) (by decide) rfl (pm_dec tk_X9_areAllHeld rfl) rfl rfl (by decide) rfl rfl (by decide) (Nat.le_of_ble_eq_true rfl) rfl (e_X9_disks d (by omega) gx gs q _ _ q2) ?_
     by_cases h3 : r1 ≤ l2
     · rw [if_pos h3] at H
       have He := Option.some.inj H
       subst He
       have H := K0 _ hPe
       subst H
       refine pm_Wg.path (k := 2) (ds := [1]) (f' := (36, [some (.ref 64), some (.int l1), some (.int l2)], [.int 1], mo_h gx s gs q)) tk_X9_areAllHeld (by omega) rfl ⟨h3, trivial⟩ ?_
       exact pm_Wg.iret (pm_dec tk_X9_areAllHeld rfl) rfl rfl
     · rw [if_neg h3] at H
       cases q5 : f_X9_isSurviving s l2 with
       | none => rw [q5] at H; cases H
       | some r4 =>
        rw [q5] at H
        dsimp only at H
        refine pm_Wg.path (k := 3) (ds := [0]) (f' := (12, [some (.ref 64), some (.int l1), some (.int l2)], [.int l2, .ref 64], mo_h gx s gs q)) tk_X9_areAllHeld (by omega) rfl ⟨h3, trivial⟩ ?_
        refine pm_Wg.callV (m' := 216) (ix := 276) (rr := 280) (pl := 1707) (b := 64) (As := [.int l2]) (S := []) (by decide) rfl (pm_dec tk_X9_areAllHeld rfl) rfl rfl (by decide) rfl rfl (by decide) (Nat.le_of_ble_eq_true rfl) rfl (e_X9_isSurviving d (by omega) gx gs q _ _ _ q5) ?_
        by_cases h6 : r4 = 0
        · rw [if_pos h6] at H
          refine pm_Wg.path (k := 3) (ds := [1]) (f' := (2, [some (.ref 64), some (.int l1), some (.int (l2 + 1))], [], mo_h gx s gs q)) tk_X9_areAllHeld (by omega) rfl ⟨h6, trivial⟩ ?_
          exact ih _ _ e H hPe
        · rw [if_neg h6] at H
          cases q8 : f_X9_isHeldOn s l2 l1 with
          | none => rw [q8] at H; cases H
          | some r7 =>
           rw [q8] at H
           dsimp only at H
           refine pm_Wg.path (k := 4) (ds := [0]) (f' := (21, [some (.ref 64), some (.int l1), some (.int l2)], [.int l1, .int l2, .ref 64], mo_h gx s gs q)) tk_X9_areAllHeld (by omega) rfl ⟨h6, trivial⟩ ?_
           refine pm_Wg.callV (m' := 217) (ix := 279) (rr := 281) (pl := 1711) (b := 64) (As := [.int l2, .int l1]) (S := []) (by decide) rfl (pm_dec tk_X9_areAllHeld rfl) rfl rfl (by decide) rfl rfl (by decide) (Nat.le_of_ble_eq_true rfl) rfl (e_X9_isHeldOn d (by omega) gx gs q _ _ _ _ q8) ?_
           by_cases h9 : r7 = 0
           · rw [if_pos h9] at H
             have He := Option.some.inj H
             subst He
             have H := K0 _ hPe
             subst H
             refine pm_Wg.path (k := 2) (ds := [0]) (f' := (28, [some (.ref 64), some (.int l1), some (.int l2)], [.int 0], mo_h gx s gs q)) tk_X9_areAllHeld (by omega) rfl ⟨h9, trivial⟩ ?_
             exact pm_Wg.iret (pm_dec tk_X9_areAllHeld rfl) rfl rfl
           · rw [if_neg h9] at H
             refine pm_Wg.path (k := 3) (ds := [1]) (f' := (2, [some (.ref 64), some (.int l1), some (.int (l2 + 1))], [], mo_h gx s gs q)) tk_X9_areAllHeld (by omega) rfl ⟨h9, trivial⟩ ?_
             exact ih _ _ e H hPe
set_option maxRecDepth 20000 in
set_option maxHeartbeats 20000000 in
theorem e_X9_areAllHeld (d : Nat) (hd : 3 ≤ d) (gx : List pm_E) (gs : List (List pm_E)) (q : Nat × Nat × Nat) (s : mo_S) (a0 : Int32) (r : Int32) (H : f_X9_areAllHeld s a0 = some r) : pm_Mt 227 d [.ref 64, .int a0] (mo_h gx s gs q) (.inl (some (.int r))) (mo_h gx s gs q) := by
  refine pm_Mt.of (by decide) (by decide +kernel) rfl rfl ?_
  obtain ⟨d, rfl⟩ : ∃ d', d = d' + 1 := ⟨d - 1, by omega⟩
  unfold f_X9_areAllHeld at H
  refine pm_Wg.path (k := 2) (ds := []) (f' := (2, [some (.ref 64), some (.int a0), some (.int 0)], [], mo_h gx s gs q)) tk_X9_areAllHeld (by omega) rfl trivial ?_
  exact ll_X9_areAllHeld_2 (d + 1) (by omega) gx gs q s r (fun e => e = r) (fun e he => he) pm_fu _ _ _ H rfl

def lb_X9_underway_4 (s : mo_S) (x : Int32 × Int32) : Option ((Int32 × Int32) ⊕ (Int32)) := match x with
  | (l1, l2) =>
   (match pm_inb 1 26 with
   | false => none
   | true =>
   (if (s.2.2.1 0 (Int32.toNatClampNeg 1)) ≤ l2 then
    some (.inr l1)
   else
    (match f_X9_stateOf s l2 with
    | none => none
    | some r3 =>
     (if r3 = 1 then
      some (.inl ((l1 + 1), (l2 + 1)))
     else
      (if r3 = 2 then
       some (.inl ((l1 + 1), (l2 + 1)))
      else
       some (.inl (l1, (l2 + 1))))))))
def f_X9_underway (s : mo_S) : Option Int32 :=
  (pm_loop pm_fu (lb_X9_underway_4 s) (0, 0))
def tb_X9_underway : List pm_I := [(0, .iconst 0, 2, 0), (1, .istore_n 1, 0, 0), (2, .iconst 0, 2, 0), (3, .istore_n 2, 0, 0), (4, .iload_n 2, 0, 0), (5, .aload_n 0, 0, 0), (6, .getfield 7, 159, 0), (9, .iconst 1, 3, 0), (10, .iaload, 0, 0), (11, .if_icmp .ge 35, 46, 0), (14, .aload_n 0, 0, 0), (15, .iload_n 2, 0, 0), (16, .invokevirtual 286, 278, 0), (19, .iconst 1, 3, 0), (20, .if_icmp .eq 12, 32, 0), (23, .aload_n 0, 0, 0), (24, .iload_n 2, 0, 0), (25, .invokevirtual 286, 278, 0), (28, .iconst 2, 4, 0), (29, .if_icmp .ne 9, 38, 0), (32, .iload_n 1, 0, 0), (33, .iconst 1, 3, 0), (34, .iadd, 0, 0), (35, .goto 4, 39, 0), (38, .iload_n 1, 0, 0), (39, .istore_n 1, 0, 0), (40, .iinc 2 1, 3, 0), (43, .goto (-39), 4, 0), (46, .iload_n 1, 0, 0), (47, .ireturn, 0, 0)]
theorem tk_X9_underway : ∀ e ∈ tb_X9_underway, pm_ck 230 e = true := List.all_eq_true.mp (by decide +kernel)
set_option maxRecDepth 20000 in
set_option maxHeartbeats 40000000 in
theorem ll_X9_underway_4 (d : Nat) (hd : 2 ≤ d) (gx : List pm_E) (gs : List (List pm_E)) (q : Nat × Nat × Nat) (s : mo_S) (r : Int32) (P : Int32 → Prop) (K0 : ∀ e : Int32, P (e) → e = r) : ∀ (n : Nat) (l1 : Int32) (l2 : Int32) (e : Int32), pm_loop n (lb_X9_underway_4 s) (l1, l2) = some e → P e → pm_Wg 230 d (.inl (some (.int r))) (mo_h gx s gs q) (4, [some (.ref 64), some (.int l1), some (.int l2)], [], mo_h gx s gs q) := by
  intro n
  induction n with
  | zero => intro l1 l2 e H; cases H
  | succ n ih =>
    intro l1 l2 e H hPe
    obtain ⟨d, rfl⟩ : ∃ d', d = d' + 1 := ⟨d - 1, by omega⟩
    have H : pm_lst (pm_loop n (lb_X9_underway_4 s)) (lb_X9_underway_4 s (l1, l2)) = some e := H
    generalize pm_loop n (lb_X9_underway_4 s) = LB at H ih
    unfold lb_X9_underway_4 at H
    try dsimp only at H
    cases b1 : pm_inb 1 26 with
    | false => rw [b1] at H; cases H
    | true =>
     rw [b1] at H
     dsimp only at H
     by_cases h2 : (s.2.2.1 0 (Int32.toNatClampNeg 1)) ≤ l2
     · rw [if_pos h2] at H
       have He := Option.some.inj H
       subst He
       have H := K0 _ hPe
       subst H
       refine pm_Wg.path (k := 7) (ds := [1]) (f' := (47, [some (.ref 64), some (.int l1), some (.int l2)], [.int l1], mo_h gx s gs q)) tk_X9_underway (by omega) rfl ⟨h2, pm_inb_vp b1, trivial⟩ ?_
       exact pm_Wg.iret (pm_dec tk_X9_underway rfl) rfl rfl
     · rw [if_neg h2] at H
       cases q4 : f_X9_stateOf s l2 with
       | none => rw [q4] at H; cases H
       | some r3 =>
        rw [q4] at H
        dsimp only at H
        refine pm_Wg.path (k := 8) (ds := [0]) (f' := (16, [some (.ref 64), some (.int l1), some (.int l2)], [.int l2, .ref 64], mo_h gx s gs q)) tk_X9_underway (by omega) rfl ⟨h2, pm_inb_vp b1, trivial⟩ ?_
        refine pm_Wg.callV (m' := 219) (ix := 286) (rr := 278) (pl := 1699) (b := 64) (As := [.int l2]) (S := []) (by decide) rfl (pm_dec tk_X9_underway rfl) rfl rfl (by decide) rfl rfl (by decide) (Nat.le_of_ble_eq_true rfl) rfl (e_X9_stateOf d (by omega) gx gs q _ _ _ q4) ?_
        by_cases h5 : r3 = 1
        · rw [if_pos h5] at H
          refine pm_Wg.path (k := 9) (ds := [1]) (f' := (4, [some (.ref 64), some (.int (l1 + 1)), some (.int (l2 + 1))], [], mo_h gx s gs q)) tk_X9_underway (by omega) rfl ⟨h5, trivial⟩ ?_
          exact ih _ _ e H hPe
        · rw [if_neg h5] at H
          refine pm_Wg.path (k := 4) (ds := [0]) (f' := (25, [some (.ref 64), some (.int l1), some (.int l2)], [.int l2, .ref 64], mo_h gx s gs q)) tk_X9_underway (by omega) rfl ⟨h5, trivial⟩ ?_
          refine pm_Wg.callV (m' := 219) (ix := 286) (rr := 278) (pl := 1699) (b := 64) (As := [.int l2]) (S := []) (by decide) rfl (pm_dec tk_X9_underway rfl) rfl rfl (by decide) rfl rfl (by decide) (Nat.le_of_ble_eq_true rfl) rfl (e_X9_stateOf d (by omega) gx gs q _ _ _ q4) ?_
          by_cases h8 : r3 = 2
          · rw [if_pos h8] at H
            refine pm_Wg.path (k := 9) (ds := [0]) (f' := (4, [some (.ref 64), some (.int (l1 + 1)), some (.int (l2 + 1))], [], mo_h gx s gs q)) tk_X9_underway (by omega) rfl ⟨h8, trivial⟩ ?_
            exact ih _ _ e H hPe
          · rw [if_neg h8] at H
            refine pm_Wg.path (k := 6) (ds := [1]) (f' := (4, [some (.ref 64), some (.int l1), some (.int (l2 + 1))], [], mo_h gx s gs q)) tk_X9_underway (by omega) rfl ⟨h8, trivial⟩ ?_
            exact ih _ _ e H hPe
set_option maxRecDepth 20000 in
set_option maxHeartbeats 20000000 in
theorem e_X9_underway (d : Nat) (hd : 2 ≤ d) (gx : List pm_E) (gs : List (List pm_E)) (q : Nat × Nat × Nat) (s : mo_S) (r : Int32) (H : f_X9_underway s = some r) : pm_Mt 230 d [.ref 64] (mo_h gx s gs q) (.inl (some (.int r))) (mo_h gx s gs q) := by
  refine pm_Mt.of (by decide) (by decide +kernel) rfl rfl ?_
  obtain ⟨d, rfl⟩ : ∃ d', d = d' + 1 := ⟨d - 1, by omega⟩
  unfold f_X9_underway at H
  refine pm_Wg.path (k := 4) (ds := []) (f' := (4, [some (.ref 64), some (.int 0), some (.int 0)], [], mo_h gx s gs q)) tk_X9_underway (by omega) rfl trivial ?_
  exact ll_X9_underway_4 (d + 1) (by omega) gx gs q s r (fun e => e = r) (fun e he => he) pm_fu _ _ _ H rfl

def lb_X9_cached_16 (s : mo_S) (x : Int32 × Int32 × Int32) : Option ((Int32 × Int32 × Int32) ⊕ ((Int32 × Int32) ⊕ (Int32))) := match x with
  | (l1, l2, l3) =>
   (match f_X9_disks s with
   | none => none
   | some r3 =>
    (if r3 ≤ l3 then
     some (.inr (.inl (l1, (l2 + 1))))
    else
     (match f_X9_stateOf s l2 with
     | none => none
     | some r6 =>
      (if r6 = 0 then
       (match f_X9_isHeldOn s l3 l2 with
       | none => none
       | some r9 =>
        (if r9 = 0 then
         some (.inl (l1, l2, (l3 + 1)))
        else
         some (.inl ((l1 + 1), l2, (l3 + 1)))))
      else
       some (.inr (.inl (l1, (l2 + 1))))))))
def lb_X9_cached_4 (s : mo_S) (x : Int32 × Int32) : Option ((Int32 × Int32) ⊕ (Int32)) := match x with
  | (l1, l2) =>
   (match pm_inb 1 26 with
   | false => none
   | true =>
   (if (s.2.2.1 0 (Int32.toNatClampNeg 1)) ≤ l2 then
    some (.inr l1)
   else
    (pm_loop pm_fu (lb_X9_cached_16 s) (l1, l2, 0))))
def f_X9_cached (s : mo_S) : Option Int32 :=
  (pm_loop pm_fu (lb_X9_cached_4 s) (0, 0))
def tb_X9_cached : List pm_I := [(0, .iconst 0, 2, 0), (1, .istore_n 1, 0, 0), (2, .iconst 0, 2, 0), (3, .istore_n 2, 0, 0), (4, .iload_n 2, 0, 0), (5, .aload_n 0, 0, 0), (6, .getfield 7, 159, 0), (9, .iconst 1, 3, 0), (10, .iaload, 0, 0), (11, .if_icmp .ge 50, 61, 0), (14, .iconst 0, 2, 0), (15, .istore_n 3, 0, 0), (16, .iload_n 3, 0, 0), (17, .aload_n 0, 0, 0), (18, .invokevirtual 55, 258, 0), (21, .if_icmp .ge 34, 55, 0), (24, .aload_n 0, 0, 0), (25, .iload_n 2, 0, 0), (26, .invokevirtual 286, 278, 0), (29, .ifCond .ne 26, 55, 0), (32, .aload_n 0, 0, 0), (33, .iload_n 3, 0, 0), (34, .iload_n 2, 0, 0), (35, .invokevirtual 279, 281, 0), (38, .ifCond .eq 9, 47, 0), (41, .iload_n 1, 0, 0), (42, .iconst 1, 3, 0), (43, .iadd, 0, 0), (44, .goto 4, 48, 0), (47, .iload_n 1, 0, 0), (48, .istore_n 1, 0, 0), (49, .iinc 3 1, 3, 0), (52, .goto (-36), 16, 0), (55, .iinc 2 1, 3, 0), (58, .goto (-54), 4, 0), (61, .iload_n 1, 0, 0), (62, .ireturn, 0, 0)]
theorem tk_X9_cached : ∀ e ∈ tb_X9_cached, pm_ck 233 e = true := List.all_eq_true.mp (by decide +kernel)
set_option maxRecDepth 20000 in
set_option maxHeartbeats 40000000 in
theorem ll_X9_cached_16 (d : Nat) (hd : 2 ≤ d) (gx : List pm_E) (gs : List (List pm_E)) (q : Nat × Nat × Nat) (s : mo_S) (r : Int32) (P : (Int32 × Int32) ⊕ (Int32) → Prop) (K1 : ∀ (l1 : Int32) (l2 : Int32), P (.inl (l1, l2)) → pm_Wg 233 d (.inl (some (.int r))) (mo_h gx s gs q) (4, [some (.ref 64), some (.int l1), some (.int l2), none], [], mo_h gx s gs q)) (K0 : ∀ e : Int32, P (.inr e) → e = r) : ∀ (n : Nat) (l1 : Int32) (l2 : Int32) (l3 : Int32) (e : (Int32 × Int32) ⊕ (Int32)), pm_loop n (lb_X9_cached_16 s) (l1, l2, l3) = some e → P e → pm_Wg 233 d (.inl (some (.int r))) (mo_h gx s gs q) (16, [some (.ref 64), some (.int l1), some (.int l2), some (.int l3)], [], mo_h gx s gs q) := by
  intro n
  induction n with
  | zero => intro l1 l2 l3 e H; cases H
  | succ n ih =>
    intro l1 l2 l3 e H hPe
    obtain ⟨d, rfl⟩ : ∃ d', d = d' + 1 := ⟨d - 1, by omega⟩
    have H : pm_lst (pm_loop n (lb_X9_cached_16 s)) (lb_X9_cached_16 s (l1, l2, l3)) = some e := H
    generalize pm_loop n (lb_X9_cached_16 s) = LB at H ih
    unfold lb_X9_cached_16 at H
    try dsimp only at H
    cases q4 : f_X9_disks s with
    | none => rw [q4] at H; cases H
    | some r3 =>
     rw [q4] at H
     dsimp only at H
     refine pm_Wg.path (k := 2) (ds := []) (f' := (18, [some (.ref 64), some (.int l1), some (.int l2), some (.int l3)], [.ref 64, .int l3], mo_h gx s gs q)) tk_X9_cached (by omega) rfl trivial ?_
     refine pm_Wg.callV (m' := 150) (ix := 55) (rr := 258) (pl := 1618) (b := 64) (As := []) (S := [.int l3]) (by decide) rfl (pm_dec tk_X9_cached rfl) rfl rfl (by decide) rfl rfl (by decide) (Nat.le_of_ble_eq_true rfl) rfl (e_X9_disks d (by omega) gx gs q _ _ q4) ?_
     by_cases h5 : r3 ≤ l3
     · rw [if_pos h5] at H
       have He := Option.some.inj H
       subst He
       refine pm_Wg.path (k := 3) (ds := [1]) (f' := (4, [some (.ref 64), some (.int l1), some (.int (l2 + 1)), some (.int l3)], [], mo_h gx s gs q)) tk_X9_cached (by omega) rfl ⟨h5, trivial⟩ ?_
       refine pm_Wg.weak (L := [some (.ref 64), some (.int l1), some (.int (l2 + 1)), none]) rfl ⟨rfl, rfl, rfl, trivial⟩ ?_
       exact K1 _ _ hPe
     · rw [if_neg h5] at H
       cases q7 : f_X9_stateOf s l2 with
       | none => rw [q7] at H; cases H
       | some r6 =>
        rw [q7] at H
        dsimp only at H
        refine pm_Wg.path (k := 3) (ds := [0]) (f' := (26, [some (.ref 64), some (.int l1), some (.int l2), some (.int l3)], [.int l2, .ref 64], mo_h gx s gs q)) tk_X9_cached (by omega) rfl ⟨h5, trivial⟩ ?_
        refine pm_Wg.callV (m' := 219) (ix := 286) (rr := 278) (pl := 1699) (b := 64) (As := [.int l2]) (S := []) (by decide) rfl (pm_dec tk_X9_cached rfl) rfl rfl (by decide) rfl rfl (by decide) (Nat.le_of_ble_eq_true rfl) rfl (e_X9_stateOf d (by omega) gx gs q _ _ _ q7) ?_
        by_cases h8 : r6 = 0
        · rw [if_pos h8] at H
          cases q10 : f_X9_isHeldOn s l3 l2 with
          | none => rw [q10] at H; cases H
          | some r9 =>
           rw [q10] at H
           dsimp only at H
           refine pm_Wg.path (k := 4) (ds := [0]) (f' := (35, [some (.ref 64), some (.int l1), some (.int l2), some (.int l3)], [.int l2, .int l3, .ref 64], mo_h gx s gs q)) tk_X9_cached (by omega) rfl ⟨h8, trivial⟩ ?_
           refine pm_Wg.callV (m' := 217) (ix := 279) (rr := 281) (pl := 1711) (b := 64) (As := [.int l3, .int l2]) (S := []) (by decide) rfl (pm_dec tk_X9_cached rfl) rfl rfl (by decide) rfl rfl (by decide) (Nat.le_of_ble_eq_true rfl) rfl (e_X9_isHeldOn d (by omega) gx gs q _ _ _ _ q10) ?_
           by_cases h11 : r9 = 0
           · rw [if_pos h11] at H
             refine pm_Wg.path (k := 5) (ds := [1]) (f' := (16, [some (.ref 64), some (.int l1), some (.int l2), some (.int (l3 + 1))], [], mo_h gx s gs q)) tk_X9_cached (by omega) rfl ⟨h11, trivial⟩ ?_
             exact ih _ _ _ e H hPe
           · rw [if_neg h11] at H
             refine pm_Wg.path (k := 8) (ds := [0]) (f' := (16, [some (.ref 64), some (.int (l1 + 1)), some (.int l2), some (.int (l3 + 1))], [], mo_h gx s gs q)) tk_X9_cached (by omega) rfl ⟨h11, trivial⟩ ?_
             exact ih _ _ _ e H hPe
        · rw [if_neg h8] at H
          have He := Option.some.inj H
          subst He
          refine pm_Wg.path (k := 3) (ds := [1]) (f' := (4, [some (.ref 64), some (.int l1), some (.int (l2 + 1)), some (.int l3)], [], mo_h gx s gs q)) tk_X9_cached (by omega) rfl ⟨h8, trivial⟩ ?_
          refine pm_Wg.weak (L := [some (.ref 64), some (.int l1), some (.int (l2 + 1)), none]) rfl ⟨rfl, rfl, rfl, trivial⟩ ?_
          exact K1 _ _ hPe
set_option maxRecDepth 20000 in
set_option maxHeartbeats 40000000 in
theorem ll_X9_cached_4 (d : Nat) (hd : 2 ≤ d) (gx : List pm_E) (gs : List (List pm_E)) (q : Nat × Nat × Nat) (s : mo_S) (r : Int32) (P : Int32 → Prop) (K0 : ∀ e : Int32, P (e) → e = r) : ∀ (n : Nat) (l1 : Int32) (l2 : Int32) (e : Int32), pm_loop n (lb_X9_cached_4 s) (l1, l2) = some e → P e → pm_Wg 233 d (.inl (some (.int r))) (mo_h gx s gs q) (4, [some (.ref 64), some (.int l1), some (.int l2), none], [], mo_h gx s gs q) := by
  intro n
  induction n with
  | zero => intro l1 l2 e H; cases H
  | succ n ih =>
    intro l1 l2 e H hPe
    obtain ⟨d, rfl⟩ : ∃ d', d = d' + 1 := ⟨d - 1, by omega⟩
    have H : pm_lst (pm_loop n (lb_X9_cached_4 s)) (lb_X9_cached_4 s (l1, l2)) = some e := H
    generalize pm_loop n (lb_X9_cached_4 s) = LB at H ih
    unfold lb_X9_cached_4 at H
    try dsimp only at H
    cases b1 : pm_inb 1 26 with
    | false => rw [b1] at H; cases H
    | true =>
     rw [b1] at H
     dsimp only at H
     by_cases h2 : (s.2.2.1 0 (Int32.toNatClampNeg 1)) ≤ l2
     · rw [if_pos h2] at H
       have He := Option.some.inj H
       subst He
       have H := K0 _ hPe
       subst H
       refine pm_Wg.path (k := 7) (ds := [1]) (f' := (62, [some (.ref 64), some (.int l1), some (.int l2), none], [.int l1], mo_h gx s gs q)) tk_X9_cached (by omega) rfl ⟨h2, pm_inb_vp b1, trivial⟩ ?_
       exact pm_Wg.iret (pm_dec tk_X9_cached rfl) rfl rfl
     · rw [if_neg h2] at H
       cases q12 : pm_loop pm_fu (lb_X9_cached_16 s) (l1, l2, 0) with
       | none => rw [q12] at H; cases H
       | some e9 =>
        rw [q12] at H
        try dsimp only at H
        refine pm_Wg.path (k := 8) (ds := [0]) (f' := (16, [some (.ref 64), some (.int l1), some (.int l2), some (.int 0)], [], mo_h gx s gs q)) tk_X9_cached (by omega) rfl ⟨h2, pm_inb_vp b1, trivial⟩ ?_
        exact ll_X9_cached_16 (d + 1) (by omega) gx gs q s r (fun e9 => pm_lst LB (some (e9)) = some e) (fun _ _ hk => ih _ _ e hk hPe) (fun e0 hk => K0 e0 (Option.some.inj hk ▸ hPe)) pm_fu _ _ _ _ q12 H
set_option maxRecDepth 20000 in
set_option maxHeartbeats 20000000 in
theorem e_X9_cached (d : Nat) (hd : 2 ≤ d) (gx : List pm_E) (gs : List (List pm_E)) (q : Nat × Nat × Nat) (s : mo_S) (r : Int32) (H : f_X9_cached s = some r) : pm_Mt 233 d [.ref 64] (mo_h gx s gs q) (.inl (some (.int r))) (mo_h gx s gs q) := by
  refine pm_Mt.of (by decide) (by decide +kernel) rfl rfl ?_
  obtain ⟨d, rfl⟩ : ∃ d', d = d' + 1 := ⟨d - 1, by omega⟩
  unfold f_X9_cached at H
  refine pm_Wg.path (k := 4) (ds := []) (f' := (4, [some (.ref 64), some (.int 0), some (.int 0), none], [], mo_h gx s gs q)) tk_X9_cached (by omega) rfl trivial ?_
  exact ll_X9_cached_4 (d + 1) (by omega) gx gs q s r (fun e => e = r) (fun e he => he) pm_fu _ _ _ H rfl

def lb_X9_saveRead_14 (x : mo_S × Int32 × Int32 × Int32 × Int32) : Option ((mo_S × Int32 × Int32 × Int32 × Int32) ⊕ (mo_S)) := match x with
  | (s, l1, l2, l3, l4) =>
   (match f_X9_of s l4 2 with
   | none => none
   | some r5 =>
    (if r5 = l2 then
     (match f_X9_remove s l3 l4 with
     | none => none
     | some s8 =>
      (match f_X9_release s8 l4 with
      | none => none
      | some s10 =>
       (match pm_inb 5 18186 with
       | false => none
       | true =>
       some (.inr (mo_a s10 3 5 ((s10.2.2.1 3 (Int32.toNatClampNeg 5)) + 1))))))
    else
     (match f_X9_of s l4 5 with
     | none => none
     | some r14 =>
      some (.inl (s, l1, l2, l3, r14)))))
def f_X9_saveRead (s : mo_S) (a0 : Int32) (a1 : Int32) : Option mo_S :=
  (match f_X9_queueOf s a0 0 with
  | none => none
  | some r1 =>
   (match f_X9_ofQueue s r1 0 with
   | none => none
   | some r3 =>
    (pm_loop pm_fu lb_X9_saveRead_14 (s, a0, a1, r1, r3))))
def tb_X9_saveRead : List pm_I := [(0, .iload_n 1, 0, 0), (1, .iconst 0, 2, 0), (2, .invokestatic 251, 284, 0), (5, .istore_n 3, 0, 0), (6, .aload_n 0, 0, 0), (7, .iload_n 3, 0, 0), (8, .iconst 0, 2, 0), (9, .invokevirtual 233, 290, 0), (12, .istore 4, 0, 0), (14, .aload_n 0, 0, 0), (15, .iload 4, 0, 0), (17, .iconst 2, 4, 0), (18, .invokevirtual 254, 285, 0), (21, .iload_n 2, 0, 0), (22, .if_icmp .eq 15, 37, 0), (25, .aload_n 0, 0, 0), (26, .iload 4, 0, 0), (28, .iconst 5, 7, 0), (29, .invokevirtual 254, 285, 0), (32, .istore 4, 0, 0), (34, .goto (-20), 14, 0), (37, .aload_n 0, 0, 0), (38, .iload_n 3, 0, 0), (39, .iload 4, 0, 0), (41, .invokevirtual 326, 320, 0), (44, .aload_n 0, 0, 0), (45, .iload 4, 0, 0), (47, .invokevirtual 329, 300, 0), (50, .aload_n 0, 0, 0), (51, .getfield 16, 162, 0), (54, .iconst 5, 7, 0), (55, .aload_n 0, 0, 0), (56, .getfield 16, 162, 0), (59, .iconst 5, 7, 0), (60, .iaload, 0, 0), (61, .iconst 1, 3, 0), (62, .iadd, 0, 0), (63, .iastore, 0, 0), (64, .return_, 0, 0)]
theorem tk_X9_saveRead : ∀ e ∈ tb_X9_saveRead, pm_ck 234 e = true := List.all_eq_true.mp (by decide +kernel)
set_option maxRecDepth 20000 in
set_option maxHeartbeats 40000000 in
theorem ll_X9_saveRead_14 (d : Nat) (hd : 4 ≤ d) (gx : List pm_E) (gs : List (List pm_E)) (q : Nat × Nat × Nat) (s1 : mo_S) (P : mo_S → Prop) (K0 : ∀ e : mo_S, P (e) → e = s1) : ∀ (n : Nat) (s : mo_S) (l1 : Int32) (l2 : Int32) (l3 : Int32) (l4 : Int32) (e : mo_S), pm_loop n lb_X9_saveRead_14 (s, l1, l2, l3, l4) = some e → P e → pm_Wg 234 d (.inl (none)) (mo_h gx s1 gs q) (14, [some (.ref 64), some (.int l1), some (.int l2), some (.int l3), some (.int l4)], [], mo_h gx s gs q) := by
  intro n
  induction n with
  | zero => intro s l1 l2 l3 l4 e H; cases H
  | succ n ih =>
    intro s l1 l2 l3 l4 e H hPe
    obtain ⟨d, rfl⟩ : ∃ d', d = d' + 1 := ⟨d - 1, by omega⟩
    have H : pm_lst (pm_loop n lb_X9_saveRead_14) (lb_X9_saveRead_14 (s, l1, l2, l3, l4)) = some e := H
    generalize pm_loop n lb_X9_saveRead_14 = LB at H ih
    unfold lb_X9_saveRead_14 at H
    try dsimp only at H
    cases q6 : f_X9_of s l4 2 with
    | none => rw [q6] at H; cases H
    | some r5 =>
     rw [q6] at H
     dsimp only at H
     refine pm_Wg.path (k := 3) (ds := []) (f' := (18, [some (.ref 64), some (.int l1), some (.int l2), some (.int l3), some (.int l4)], [.int 2, .int l4, .ref 64], mo_h gx s gs q)) tk_X9_saveRead (by omega) rfl trivial ?_
     refine pm_Wg.callV (m' := 200) (ix := 254) (rr := 285) (pl := 1726) (b := 64) (As := [.int l4, .int 2]) (S := []) (by decide) rfl (pm_dec tk_X9_saveRead rfl) rfl rfl (by decide) rfl rfl (by decide) (Nat.le_of_ble_eq_true rfl) rfl (e_X9_of d (by omega) gx gs q _ _ _ _ q6) ?_
     by_cases h7 : r5 = l2
     · rw [if_pos h7] at H
       cases q9 : f_X9_remove s l3 l4 with
       | none => rw [q9] at H; cases H
       | some s8 =>
        rw [q9] at H
        dsimp only at H
        refine pm_Wg.path (k := 5) (ds := [1]) (f' := (41, [some (.ref 64), some (.int l1), some (.int l2), some (.int l3), some (.int l4)], [.int l4, .int l3, .ref 64], mo_h gx s gs q)) tk_X9_saveRead (by omega) rfl ⟨h7, trivial⟩ ?_
        refine pm_Wg.callV (m' := 209) (ix := 326) (rr := 320) (pl := 1868) (b := 64) (As := [.int l3, .int l4]) (S := []) (by decide) rfl (pm_dec tk_X9_saveRead rfl) rfl rfl (by decide) rfl rfl (by decide) (Nat.le_of_ble_eq_true rfl) rfl (e_X9_remove d (by omega) gx gs q _ _ _ _ q9) ?_
        cases q11 : f_X9_release s8 l4 with
        | none => rw [q11] at H; cases H
        | some s10 =>
         rw [q11] at H
         dsimp only at H
         refine pm_Wg.path (k := 2) (ds := []) (f' := (47, [some (.ref 64), some (.int l1), some (.int l2), some (.int l3), some (.int l4)], [.int l4, .ref 64], mo_h gx s8 gs q)) tk_X9_saveRead (by omega) rfl trivial ?_
         refine pm_Wg.callV (m' := 210) (ix := 329) (rr := 300) (pl := 1788) (b := 64) (As := [.int l4]) (S := []) (by decide) rfl (pm_dec tk_X9_saveRead rfl) rfl rfl (by decide) rfl rfl (by decide) (Nat.le_of_ble_eq_true rfl) rfl (e_X9_release d (by omega) gx gs q _ _ _ q11) ?_
         cases b12 : pm_inb 5 18186 with
         | false => rw [b12] at H; cases H
         | true =>
          rw [b12] at H
          dsimp only at H
          have He := Option.some.inj H
          subst He
          have H := K0 _ hPe
          subst H
          refine pm_Wg.path (k := 10) (ds := []) (f' := (64, [some (.ref 64), some (.int l1), some (.int l2), some (.int l3), some (.int l4)], [], mo_h gx (mo_a s10 3 5 ((s10.2.2.1 3 (Int32.toNatClampNeg 5)) + 1)) gs q)) tk_X9_saveRead (by omega) rfl ⟨pm_inb_vp b12, pm_inb_vp b12, trivial⟩ ?_
          exact pm_Wg.vret (pm_dec tk_X9_saveRead rfl) rfl
     · rw [if_neg h7] at H
       cases q15 : f_X9_of s l4 5 with
       | none => rw [q15] at H; cases H
       | some r14 =>
        rw [q15] at H
        dsimp only at H
        refine pm_Wg.path (k := 5) (ds := [0]) (f' := (29, [some (.ref 64), some (.int l1), some (.int l2), some (.int l3), some (.int l4)], [.int 5, .int l4, .ref 64], mo_h gx s gs q)) tk_X9_saveRead (by omega) rfl ⟨h7, trivial⟩ ?_
        refine pm_Wg.callV (m' := 200) (ix := 254) (rr := 285) (pl := 1726) (b := 64) (As := [.int l4, .int 5]) (S := []) (by decide) rfl (pm_dec tk_X9_saveRead rfl) rfl rfl (by decide) rfl rfl (by decide) (Nat.le_of_ble_eq_true rfl) rfl (e_X9_of d (by omega) gx gs q _ _ _ _ q15) ?_
        refine pm_Wg.path (k := 2) (ds := []) (f' := (14, [some (.ref 64), some (.int l1), some (.int l2), some (.int l3), some (.int r14)], [], mo_h gx s gs q)) tk_X9_saveRead (by omega) rfl trivial ?_
        exact ih _ _ _ _ _ e H hPe
set_option maxRecDepth 20000 in
set_option maxHeartbeats 20000000 in
theorem e_X9_saveRead (d : Nat) (hd : 4 ≤ d) (gx : List pm_E) (gs : List (List pm_E)) (q : Nat × Nat × Nat) (s : mo_S) (a0 : Int32) (a1 : Int32) (s1 : mo_S) (H : f_X9_saveRead s a0 a1 = some s1) : pm_Mt 234 d [.ref 64, .int a0, .int a1] (mo_h gx s gs q) (.inl (none)) (mo_h gx s1 gs q) := by
  refine pm_Mt.of (by decide) (by decide +kernel) rfl rfl ?_
  obtain ⟨d, rfl⟩ : ∃ d', d = d' + 1 := ⟨d - 1, by omega⟩
  unfold f_X9_saveRead at H
  cases q2 : f_X9_queueOf s a0 0 with
  | none => rw [q2] at H; cases H
  | some r1 =>
   rw [q2] at H
   dsimp only at H
   refine pm_Wg.path (k := 2) (ds := []) (f' := (2, [some (.ref 64), some (.int a0), some (.int a1), none, none], [.int 0, .int a0], mo_h gx s gs q)) tk_X9_saveRead (by omega) rfl trivial ?_
   refine pm_Wg.callS (m' := 197) (ix := 251) (rr := 284) (pl := 1723) (As := [.int a0, .int 0]) (S := []) (by decide) rfl (pm_dec tk_X9_saveRead rfl) rfl rfl rfl (Nat.le_of_ble_eq_true rfl) rfl (e_X9_queueOf d (by omega) gx gs q _ _ _ _ q2) ?_
   cases q4 : f_X9_ofQueue s r1 0 with
   | none => rw [q4] at H; cases H
   | some r3 =>
    rw [q4] at H
    dsimp only at H
    refine pm_Wg.path (k := 4) (ds := []) (f' := (9, [some (.ref 64), some (.int a0), some (.int a1), some (.int r1), none], [.int 0, .int r1, .ref 64], mo_h gx s gs q)) tk_X9_saveRead (by omega) rfl trivial ?_
    refine pm_Wg.callV (m' := 198) (ix := 233) (rr := 290) (pl := 1747) (b := 64) (As := [.int r1, .int 0]) (S := []) (by decide) rfl (pm_dec tk_X9_saveRead rfl) rfl rfl (by decide) rfl rfl (by decide) (Nat.le_of_ble_eq_true rfl) rfl (e_X9_ofQueue d (by omega) gx gs q _ _ _ _ q4) ?_
    refine pm_Wg.path (k := 1) (ds := []) (f' := (14, [some (.ref 64), some (.int a0), some (.int a1), some (.int r1), some (.int r3)], [], mo_h gx s gs q)) tk_X9_saveRead (by omega) rfl trivial ?_
    exact ll_X9_saveRead_14 (d + 1) (by omega) gx gs q s1 (fun e => e = s1) (fun e he => he) pm_fu _ _ _ _ _ _ H rfl

def lb_X9_rebuilt_4 (s : mo_S) (x : Int32 × Int32) : Option ((Int32 × Int32) ⊕ (Int32)) := match x with
  | (l1, l2) =>
   (match pm_inb 1 26 with
   | false => none
   | true =>
   (if (s.2.2.1 0 (Int32.toNatClampNeg 1)) ≤ l2 then
    some (.inr l1)
   else
    (match pm_inb 1 18186 with
    | false => none
    | true =>
    (if (s.2.2.1 3 (Int32.toNatClampNeg 1)) = (-1) then
     some (.inl (l1, (l2 + 1)))
    else
     (match f_X9_stateOf s l2 with
     | none => none
     | some r5 =>
      (if r5 = 3 then
       some (.inl ((l1 + 1), (l2 + 1)))
      else
       some (.inl (l1, (l2 + 1)))))))))
def f_X9_rebuilt (s : mo_S) : Option Int32 :=
  (pm_loop pm_fu (lb_X9_rebuilt_4 s) (0, 0))
def tb_X9_rebuilt : List pm_I := [(0, .iconst 0, 2, 0), (1, .istore_n 1, 0, 0), (2, .iconst 0, 2, 0), (3, .istore_n 2, 0, 0), (4, .iload_n 2, 0, 0), (5, .aload_n 0, 0, 0), (6, .getfield 7, 159, 0), (9, .iconst 1, 3, 0), (10, .iaload, 0, 0), (11, .if_icmp .ge 36, 47, 0), (14, .aload_n 0, 0, 0), (15, .getfield 16, 162, 0), (18, .iconst 1, 3, 0), (19, .iaload, 0, 0), (20, .iconst (-1), 1, 0), (21, .if_icmp .eq 18, 39, 0), (24, .aload_n 0, 0, 0), (25, .iload_n 2, 0, 0), (26, .invokevirtual 286, 278, 0), (29, .iconst 3, 5, 0), (30, .if_icmp .ne 9, 39, 0), (33, .iload_n 1, 0, 0), (34, .iconst 1, 3, 0), (35, .iadd, 0, 0), (36, .goto 4, 40, 0), (39, .iload_n 1, 0, 0), (40, .istore_n 1, 0, 0), (41, .iinc 2 1, 3, 0), (44, .goto (-40), 4, 0), (47, .iload_n 1, 0, 0), (48, .ireturn, 0, 0)]
theorem tk_X9_rebuilt : ∀ e ∈ tb_X9_rebuilt, pm_ck 236 e = true := List.all_eq_true.mp (by decide +kernel)
set_option maxRecDepth 20000 in
set_option maxHeartbeats 40000000 in
theorem ll_X9_rebuilt_4 (d : Nat) (hd : 2 ≤ d) (gx : List pm_E) (gs : List (List pm_E)) (q : Nat × Nat × Nat) (s : mo_S) (r : Int32) (P : Int32 → Prop) (K0 : ∀ e : Int32, P (e) → e = r) : ∀ (n : Nat) (l1 : Int32) (l2 : Int32) (e : Int32), pm_loop n (lb_X9_rebuilt_4 s) (l1, l2) = some e → P e → pm_Wg 236 d (.inl (some (.int r))) (mo_h gx s gs q) (4, [some (.ref 64), some (.int l1), some (.int l2)], [], mo_h gx s gs q) := by
  intro n
  induction n with
  | zero => intro l1 l2 e H; cases H
  | succ n ih =>
    intro l1 l2 e H hPe
    obtain ⟨d, rfl⟩ : ∃ d', d = d' + 1 := ⟨d - 1, by omega⟩
    have H : pm_lst (pm_loop n (lb_X9_rebuilt_4 s)) (lb_X9_rebuilt_4 s (l1, l2)) = some e := H
    generalize pm_loop n (lb_X9_rebuilt_4 s) = LB at H ih
    unfold lb_X9_rebuilt_4 at H
    try dsimp only at H
    cases b1 : pm_inb 1 26 with
    | false => rw [b1] at H; cases H
    | true =>
     rw [b1] at H
     dsimp only at H
     by_cases h2 : (s.2.2.1 0 (Int32.toNatClampNeg 1)) ≤ l2
     · rw [if_pos h2] at H
       have He := Option.some.inj H
       subst He
       have H := K0 _ hPe
       subst H
       refine pm_Wg.path (k := 7) (ds := [1]) (f' := (48, [some (.ref 64), some (.int l1), some (.int l2)], [.int l1], mo_h gx s gs q)) tk_X9_rebuilt (by omega) rfl ⟨h2, pm_inb_vp b1, trivial⟩ ?_
       exact pm_Wg.iret (pm_dec tk_X9_rebuilt rfl) rfl rfl
     · rw [if_neg h2] at H
       cases b3 : pm_inb 1 18186 with
       | false => rw [b3] at H; cases H
       | true =>
        rw [b3] at H
        dsimp only at H
        by_cases h4 : (s.2.2.1 3 (Int32.toNatClampNeg 1)) = (-1)
        · rw [if_pos h4] at H
          refine pm_Wg.path (k := 16) (ds := [0, 1]) (f' := (4, [some (.ref 64), some (.int l1), some (.int (l2 + 1))], [], mo_h gx s gs q)) tk_X9_rebuilt (by omega) rfl ⟨h4, pm_inb_vp b3, h2, pm_inb_vp b1, trivial⟩ ?_
          exact ih _ _ e H hPe
        · rw [if_neg h4] at H
          cases q6 : f_X9_stateOf s l2 with
          | none => rw [q6] at H; cases H
          | some r5 =>
           rw [q6] at H
           dsimp only at H
           refine pm_Wg.path (k := 14) (ds := [0, 0]) (f' := (26, [some (.ref 64), some (.int l1), some (.int l2)], [.int l2, .ref 64], mo_h gx s gs q)) tk_X9_rebuilt (by omega) rfl ⟨h4, pm_inb_vp b3, h2, pm_inb_vp b1, trivial⟩ ?_
           refine pm_Wg.callV (m' := 219) (ix := 286) (rr := 278) (pl := 1699) (b := 64) (As := [.int l2]) (S := []) (by decide) rfl (pm_dec tk_X9_rebuilt rfl) rfl rfl (by decide) rfl rfl (by decide) (Nat.le_of_ble_eq_true rfl) rfl (e_X9_stateOf d (by omega) gx gs q _ _ _ q6) ?_
           by_cases h7 : r5 = 3
           · rw [if_pos h7] at H
             refine pm_Wg.path (k := 9) (ds := [0]) (f' := (4, [some (.ref 64), some (.int (l1 + 1)), some (.int (l2 + 1))], [], mo_h gx s gs q)) tk_X9_rebuilt (by omega) rfl ⟨h7, trivial⟩ ?_
             exact ih _ _ e H hPe
           · rw [if_neg h7] at H
             refine pm_Wg.path (k := 6) (ds := [1]) (f' := (4, [some (.ref 64), some (.int l1), some (.int (l2 + 1))], [], mo_h gx s gs q)) tk_X9_rebuilt (by omega) rfl ⟨h7, trivial⟩ ?_
             exact ih _ _ e H hPe
set_option maxRecDepth 20000 in
set_option maxHeartbeats 20000000 in
theorem e_X9_rebuilt (d : Nat) (hd : 2 ≤ d) (gx : List pm_E) (gs : List (List pm_E)) (q : Nat × Nat × Nat) (s : mo_S) (r : Int32) (H : f_X9_rebuilt s = some r) : pm_Mt 236 d [.ref 64] (mo_h gx s gs q) (.inl (some (.int r))) (mo_h gx s gs q) := by
  refine pm_Mt.of (by decide) (by decide +kernel) rfl rfl ?_
  obtain ⟨d, rfl⟩ : ∃ d', d = d' + 1 := ⟨d - 1, by omega⟩
  unfold f_X9_rebuilt at H
  refine pm_Wg.path (k := 4) (ds := []) (f' := (4, [some (.ref 64), some (.int 0), some (.int 0)], [], mo_h gx s gs q)) tk_X9_rebuilt (by omega) rfl trivial ?_
  exact ll_X9_rebuilt_4 (d + 1) (by omega) gx gs q s r (fun e => e = r) (fun e he => he) pm_fu _ _ _ H rfl

def lb_X9_stripeRebuilt_13 (x : mo_S × Int32 × Int32) : Option ((mo_S × Int32 × Int32) ⊕ (mo_S)) := match x with
  | (s, l1, l2) =>
   (match f_X9_disks s with
   | none => none
   | some r2 =>
    (if r2 ≤ l2 then
     (match f_X9_rebuilt s with
     | none => none
     | some r5 =>
      (match pm_inb 1 26 with
      | false => none
      | true =>
      (if r5 = (s.2.2.1 0 (Int32.toNatClampNeg 1)) then
       (match pm_inb 0 18186 with
       | false => none
       | true =>
       (match pm_inb 7 18186 with
       | false => none
       | true =>
       some (.inr (mo_a s 3 7 (s.2.2.1 3 (Int32.toNatClampNeg 0))))))
      else
       some (.inr s))))
    else
     (match f_X9_setHeld s l2 l1 0 with
     | none => none
     | some s11 =>
      some (.inl (s11, l1, (l2 + 1))))))
def f_X9_stripeRebuilt (s : mo_S) (a0 : Int32) : Option mo_S :=
  (match pm_inb (680 + a0) 18186 with
  | false => none
  | true =>
  (pm_loop pm_fu lb_X9_stripeRebuilt_13 ((mo_a s 3 (680 + a0) 3), a0, 0)))
def tb_X9_stripeRebuilt : List pm_I := [(0, .aload_n 0, 0, 0), (1, .getfield 16, 162, 0), (4, .sipush 680, 36, 0), (7, .iload_n 1, 0, 0), (8, .iadd, 0, 0), (9, .iconst 3, 5, 0), (10, .iastore, 0, 0), (11, .iconst 0, 2, 0), (12, .istore_n 2, 0, 0), (13, .iload_n 2, 0, 0), (14, .aload_n 0, 0, 0), (15, .invokevirtual 55, 258, 0), (18, .if_icmp .ge 16, 34, 0), (21, .aload_n 0, 0, 0), (22, .iload_n 2, 0, 0), (23, .iload_n 1, 0, 0), (24, .iconst 0, 2, 0), (25, .invokevirtual 332, 316, 0), (28, .iinc 2 1, 3, 0), (31, .goto (-18), 13, 0), (34, .aload_n 0, 0, 0), (35, .invokevirtual 341, 317, 0), (38, .aload_n 0, 0, 0), (39, .getfield 7, 159, 0), (42, .iconst 1, 3, 0), (43, .iaload, 0, 0), (44, .if_icmp .ne 16, 60, 0), (47, .aload_n 0, 0, 0), (48, .getfield 16, 162, 0), (51, .bipush 7, 9, 0), (53, .aload_n 0, 0, 0), (54, .getfield 16, 162, 0), (57, .iconst 0, 2, 0), (58, .iaload, 0, 0), (59, .iastore, 0, 0), (60, .return_, 0, 0)]
theorem tk_X9_stripeRebuilt : ∀ e ∈ tb_X9_stripeRebuilt, pm_ck 237 e = true := List.all_eq_true.mp (by decide +kernel)
set_option maxRecDepth 20000 in
set_option maxHeartbeats 40000000 in
theorem ll_X9_stripeRebuilt_13 (d : Nat) (hd : 3 ≤ d) (gx : List pm_E) (gs : List (List pm_E)) (q : Nat × Nat × Nat) (s1 : mo_S) (P : mo_S → Prop) (K0 : ∀ e : mo_S, P (e) → e = s1) : ∀ (n : Nat) (s : mo_S) (l1 : Int32) (l2 : Int32) (e : mo_S), pm_loop n lb_X9_stripeRebuilt_13 (s, l1, l2) = some e → P e → pm_Wg 237 d (.inl (none)) (mo_h gx s1 gs q) (13, [some (.ref 64), some (.int l1), some (.int l2)], [], mo_h gx s gs q) := by
  intro n
  induction n with
  | zero => intro s l1 l2 e H; cases H
  | succ n ih =>
    intro s l1 l2 e H hPe
    obtain ⟨d, rfl⟩ : ∃ d', d = d' + 1 := ⟨d - 1, by omega⟩
    have H : pm_lst (pm_loop n lb_X9_stripeRebuilt_13) (lb_X9_stripeRebuilt_13 (s, l1, l2)) = some e := H
    generalize pm_loop n lb_X9_stripeRebuilt_13 = LB at H ih
    unfold lb_X9_stripeRebuilt_13 at H
    try dsimp only at H
    cases q3 : f_X9_disks s with
    | none => rw [q3] at H; cases H
    | some r2 =>
     rw [q3] at H
     dsimp only at H
     refine pm_Wg.path (k := 2) (ds := []) (f' := (15, [some (.ref 64), some (.int l1), some (.int l2)], [.ref 64, .int l2], mo_h gx s gs q)) tk_X9_stripeRebuilt (by omega) rfl trivial ?_
     refine pm_Wg.callV (m' := 150) (ix := 55) (rr := 258) (pl := 1618) (b := 64) (As := []) (S := [.int l2]) (by decide) rfl (pm_dec tk_X9_stripeRebuilt rfl) rfl rfl (by decide) rfl rfl (by decide) (Nat.le_of_ble_eq_true rfl) rfl (e_X9_disks d (by omega) gx gs q _ _ q3) ?_
     by_cases h4 : r2 ≤ l2
     · rw [if_pos h4] at H
       cases q6 : f_X9_rebuilt s with
       | none => rw [q6] at H; cases H
       | some r5 =>
        rw [q6] at H
        dsimp only at H
        refine pm_Wg.path (k := 2) (ds := [1]) (f' := (35, [some (.ref 64), some (.int l1), some (.int l2)], [.ref 64], mo_h gx s gs q)) tk_X9_stripeRebuilt (by omega) rfl ⟨h4, trivial⟩ ?_
        refine pm_Wg.callV (m' := 236) (ix := 341) (rr := 317) (pl := 1856) (b := 64) (As := []) (S := []) (by decide) rfl (pm_dec tk_X9_stripeRebuilt rfl) rfl rfl (by decide) rfl rfl (by decide) (Nat.le_of_ble_eq_true rfl) rfl (e_X9_rebuilt d (by omega) gx gs q _ _ q6) ?_
        cases b7 : pm_inb 1 26 with
        | false => rw [b7] at H; cases H
        | true =>
         rw [b7] at H
         dsimp only at H
         by_cases h8 : r5 = (s.2.2.1 0 (Int32.toNatClampNeg 1))
         · rw [if_pos h8] at H
           cases b9 : pm_inb 0 18186 with
           | false => rw [b9] at H; cases H
           | true =>
            rw [b9] at H
            dsimp only at H
            cases b10 : pm_inb 7 18186 with
            | false => rw [b10] at H; cases H
            | true =>
             rw [b10] at H
             dsimp only at H
             have He := Option.some.inj H
             subst He
             have H := K0 _ hPe
             subst H
             refine pm_Wg.path (k := 13) (ds := [0]) (f' := (60, [some (.ref 64), some (.int l1), some (.int l2)], [], mo_h gx (mo_a s 3 7 (s.2.2.1 3 (Int32.toNatClampNeg 0))) gs q)) tk_X9_stripeRebuilt (by omega) rfl ⟨pm_inb_vp b10, pm_inb_vp b9, h8, pm_inb_vp b7, trivial⟩ ?_
             exact pm_Wg.vret (pm_dec tk_X9_stripeRebuilt rfl) rfl
         · rw [if_neg h8] at H
           have He := Option.some.inj H
           subst He
           have H := K0 _ hPe
           subst H
           refine pm_Wg.path (k := 5) (ds := [1]) (f' := (60, [some (.ref 64), some (.int l1), some (.int l2)], [], mo_h gx s gs q)) tk_X9_stripeRebuilt (by omega) rfl ⟨h8, pm_inb_vp b7, trivial⟩ ?_
           exact pm_Wg.vret (pm_dec tk_X9_stripeRebuilt rfl) rfl
     · rw [if_neg h4] at H
       cases q12 : f_X9_setHeld s l2 l1 0 with
       | none => rw [q12] at H; cases H
       | some s11 =>
        rw [q12] at H
        dsimp only at H
        refine pm_Wg.path (k := 5) (ds := [0]) (f' := (25, [some (.ref 64), some (.int l1), some (.int l2)], [.int 0, .int l1, .int l2, .ref 64], mo_h gx s gs q)) tk_X9_stripeRebuilt (by omega) rfl ⟨h4, trivial⟩ ?_
        refine pm_Wg.callV (m' := 218) (ix := 332) (rr := 316) (pl := 1852) (b := 64) (As := [.int l2, .int l1, .int 0]) (S := []) (by decide) rfl (pm_dec tk_X9_stripeRebuilt rfl) rfl rfl (by decide) rfl rfl (by decide) (Nat.le_of_ble_eq_true rfl) rfl (e_X9_setHeld d (by omega) gx gs q _ _ _ _ _ q12) ?_
        refine pm_Wg.path (k := 2) (ds := []) (f' := (13, [some (.ref 64), some (.int l1), some (.int (l2 + 1))], [], mo_h gx s11 gs q)) tk_X9_stripeRebuilt (by omega) rfl trivial ?_
        exact ih _ _ _ e H hPe
set_option maxRecDepth 20000 in
set_option maxHeartbeats 20000000 in
theorem e_X9_stripeRebuilt (d : Nat) (hd : 3 ≤ d) (gx : List pm_E) (gs : List (List pm_E)) (q : Nat × Nat × Nat) (s : mo_S) (a0 : Int32) (s1 : mo_S) (H : f_X9_stripeRebuilt s a0 = some s1) : pm_Mt 237 d [.ref 64, .int a0] (mo_h gx s gs q) (.inl (none)) (mo_h gx s1 gs q) := by
  refine pm_Mt.of (by decide) (by decide +kernel) rfl rfl ?_
  obtain ⟨d, rfl⟩ : ∃ d', d = d' + 1 := ⟨d - 1, by omega⟩
  unfold f_X9_stripeRebuilt at H
  cases b1 : pm_inb (680 + a0) 18186 with
  | false => rw [b1] at H; cases H
  | true =>
   rw [b1] at H
   dsimp only at H
   refine pm_Wg.path (k := 9) (ds := []) (f' := (13, [some (.ref 64), some (.int a0), some (.int 0)], [], mo_h gx (mo_a s 3 (680 + a0) 3) gs q)) tk_X9_stripeRebuilt (by omega) rfl ⟨pm_inb_vp b1, trivial⟩ ?_
   exact ll_X9_stripeRebuilt_13 (d + 1) (by omega) gx gs q s1 (fun e => e = s1) (fun e he => he) pm_fu _ _ _ _ H rfl

def lb_X9_bestTenant_8 (s : mo_S) (x : Int32 × Int32 × Int32 × Int64 × Int32) : Option ((Int32 × Int32 × Int32 × Int64 × Int32) ⊕ (Int32)) := match x with
  | (l1, l2, l3, l4, l6) =>
   (match pm_inb 6 26 with
   | false => none
   | true =>
   (if (s.2.2.1 0 (Int32.toNatClampNeg 6)) ≤ l6 then
    some (.inr l3)
   else
    (match f_X9_queueOf s l1 l6 with
    | none => none
    | some r3 =>
     (match f_X9_ofQueue s r3 0 with
     | none => none
     | some r5 =>
      (if r5 = (-1) then
       some (.inl (l1, l2, l3, l4, (l6 + 1)))
      else
       (match f_X9_canChoose s r5 l2 with
       | none => none
       | some r8 =>
        (if r8 = 0 then
         some (.inl (l1, l2, l3, l4, (l6 + 1)))
        else
         (if l3 = (-1) then
          (match f_X9_rank s r5 l2 with
          | none => none
          | some r12 =>
           some (.inl (l1, l2, l6, r12, (l6 + 1))))
         else
          (match f_X9_rank s r5 l2 with
          | none => none
          | some r14 =>
           (if 0 ≤ (lg_cmp r14 l4) then
            some (.inl (l1, l2, l3, l4, (l6 + 1)))
           else
            some (.inl (l1, l2, l6, r14, (l6 + 1)))))))))))))
def f_X9_bestTenant (s : mo_S) (a0 : Int32) (a1 : Int32) : Option Int32 :=
  (pm_loop pm_fu (lb_X9_bestTenant_8 s) (a0, a1, (-1), 0, 0))
def tb_X9_bestTenant : List pm_I := [(0, .iconst (-1), 1, 0), (1, .istore_n 3, 0, 0), (2, .lconst 0, 0, 0), (3, .lstore 4, 0, 0), (5, .iconst 0, 2, 0), (6, .istore 6, 0, 0), (8, .iload 6, 0, 0), (10, .aload_n 0, 0, 0), (11, .getfield 7, 159, 0), (14, .bipush 6, 8, 0), (16, .iaload, 0, 0), (17, .if_icmp .ge 68, 85, 0), (20, .aload_n 0, 0, 0), (21, .iload_n 1, 0, 0), (22, .iload 6, 0, 0), (24, .invokestatic 251, 284, 0), (27, .iconst 0, 2, 0), (28, .invokevirtual 233, 290, 0), (31, .istore 7, 0, 0), (33, .iload 7, 0, 0), (35, .iconst (-1), 1, 0), (36, .if_icmp .eq 43, 79, 0), (39, .aload_n 0, 0, 0), (40, .iload 7, 0, 0), (42, .iload_n 2, 0, 0), (43, .invokevirtual 371, 325, 0), (46, .ifCond .eq 33, 79, 0), (49, .iload_n 3, 0, 0), (50, .iconst (-1), 1, 0), (51, .if_icmp .eq 16, 67, 0), (54, .aload_n 0, 0, 0), (55, .iload 7, 0, 0), (57, .iload_n 2, 0, 0), (58, .invokevirtual 374, 328, 0), (61, .lload 4, 0, 0), (63, .lcmp, 0, 0), (64, .ifCond .ge 15, 79, 0), (67, .iload 6, 0, 0), (69, .istore_n 3, 0, 0), (70, .aload_n 0, 0, 0), (71, .iload 7, 0, 0), (73, .iload_n 2, 0, 0), (74, .invokevirtual 374, 328, 0), (77, .lstore 4, 0, 0), (79, .iinc 6 1, 3, 0), (82, .goto (-74), 8, 0), (85, .iload_n 3, 0, 0), (86, .ireturn, 0, 0)]
theorem tk_X9_bestTenant : ∀ e ∈ tb_X9_bestTenant, pm_ck 245 e = true := List.all_eq_true.mp (by decide +kernel)
set_option maxRecDepth 20000 in
set_option maxHeartbeats 40000000 in
theorem ll_X9_bestTenant_8 (d : Nat) (hd : 4 ≤ d) (gx : List pm_E) (gs : List (List pm_E)) (q : Nat × Nat × Nat) (s : mo_S) (r : Int32) (P : Int32 → Prop) (K0 : ∀ e : Int32, P (e) → e = r) : ∀ (n : Nat) (l1 : Int32) (l2 : Int32) (l3 : Int32) (l4 : Int64) (l6 : Int32) (e : Int32), pm_loop n (lb_X9_bestTenant_8 s) (l1, l2, l3, l4, l6) = some e → P e → pm_Wg 245 d (.inl (some (.int r))) (mo_h gx s gs q) (8, [some (.ref 64), some (.int l1), some (.int l2), some (.int l3), some (.long l4), none, some (.int l6), none], [], mo_h gx s gs q) := by
  intro n
  induction n with
  | zero => intro l1 l2 l3 l4 l6 e H; cases H
  | succ n ih =>
    intro l1 l2 l3 l4 l6 e H hPe
    obtain ⟨d, rfl⟩ : ∃ d', d = d' + 1 := ⟨d - 1, by omega⟩
    have H : pm_lst (pm_loop n (lb_X9_bestTenant_8 s)) (lb_X9_bestTenant_8 s (l1, l2, l3, l4, l6)) = some e := H
    generalize pm_loop n (lb_X9_bestTenant_8 s) = LB at H ih
    unfold lb_X9_bestTenant_8 at H
    try dsimp only at H
    cases b1 : pm_inb 6 26 with
    | false => rw [b1] at H; cases H
    | true =>
     rw [b1] at H
     dsimp only at H
     by_cases h2 : (s.2.2.1 0 (Int32.toNatClampNeg 6)) ≤ l6
     · rw [if_pos h2] at H
       have He := Option.some.inj H
       subst He
       have H := K0 _ hPe
       subst H
       refine pm_Wg.path (k := 7) (ds := [1]) (f' := (86, [some (.ref 64), some (.int l1), some (.int l2), some (.int l3), some (.long l4), none, some (.int l6), none], [.int l3], mo_h gx s gs q)) tk_X9_bestTenant (by omega) rfl ⟨h2, pm_inb_vp b1, trivial⟩ ?_
       exact pm_Wg.iret (pm_dec tk_X9_bestTenant rfl) rfl rfl
     · rw [if_neg h2] at H
       cases q4 : f_X9_queueOf s l1 l6 with
       | none => rw [q4] at H; cases H
       | some r3 =>
        rw [q4] at H
        dsimp only at H
        refine pm_Wg.path (k := 9) (ds := [0]) (f' := (24, [some (.ref 64), some (.int l1), some (.int l2), some (.int l3), some (.long l4), none, some (.int l6), none], [.int l6, .int l1, .ref 64], mo_h gx s gs q)) tk_X9_bestTenant (by omega) rfl ⟨h2, pm_inb_vp b1, trivial⟩ ?_
        refine pm_Wg.callS (m' := 197) (ix := 251) (rr := 284) (pl := 1723) (As := [.int l1, .int l6]) (S := [.ref 64]) (by decide) rfl (pm_dec tk_X9_bestTenant rfl) rfl rfl rfl (Nat.le_of_ble_eq_true rfl) rfl (e_X9_queueOf d (by omega) gx gs q _ _ _ _ q4) ?_
        cases q6 : f_X9_ofQueue s r3 0 with
        | none => rw [q6] at H; cases H
        | some r5 =>
         rw [q6] at H
         dsimp only at H
         refine pm_Wg.path (k := 1) (ds := []) (f' := (28, [some (.ref 64), some (.int l1), some (.int l2), some (.int l3), some (.long l4), none, some (.int l6), none], [.int 0, .int r3, .ref 64], mo_h gx s gs q)) tk_X9_bestTenant (by omega) rfl trivial ?_
         refine pm_Wg.callV (m' := 198) (ix := 233) (rr := 290) (pl := 1747) (b := 64) (As := [.int r3, .int 0]) (S := []) (by decide) rfl (pm_dec tk_X9_bestTenant rfl) rfl rfl (by decide) rfl rfl (by decide) (Nat.le_of_ble_eq_true rfl) rfl (e_X9_ofQueue d (by omega) gx gs q _ _ _ _ q6) ?_
         by_cases h7 : r5 = (-1)
         · rw [if_pos h7] at H
           refine pm_Wg.path (k := 6) (ds := [1]) (f' := (8, [some (.ref 64), some (.int l1), some (.int l2), some (.int l3), some (.long l4), none, some (.int (l6 + 1)), some (.int r5)], [], mo_h gx s gs q)) tk_X9_bestTenant (by omega) rfl ⟨h7, trivial⟩ ?_
           refine pm_Wg.weak (L := [some (.ref 64), some (.int l1), some (.int l2), some (.int l3), some (.long l4), none, some (.int (l6 + 1)), none]) rfl ⟨rfl, rfl, rfl, rfl, rfl, rfl, trivial⟩ ?_
           exact ih _ _ _ _ _ e H hPe
         · rw [if_neg h7] at H
           cases q9 : f_X9_canChoose s r5 l2 with
           | none => rw [q9] at H; cases H
           | some r8 =>
            rw [q9] at H
            dsimp only at H
            refine pm_Wg.path (k := 7) (ds := [0]) (f' := (43, [some (.ref 64), some (.int l1), some (.int l2), some (.int l3), some (.long l4), none, some (.int l6), some (.int r5)], [.int l2, .int r5, .ref 64], mo_h gx s gs q)) tk_X9_bestTenant (by omega) rfl ⟨h7, trivial⟩ ?_
            refine pm_Wg.callV (m' := 243) (ix := 371) (rr := 325) (pl := 1888) (b := 64) (As := [.int r5, .int l2]) (S := []) (by decide) rfl (pm_dec tk_X9_bestTenant rfl) rfl rfl (by decide) rfl rfl (by decide) (Nat.le_of_ble_eq_true rfl) rfl (e_X9_canChoose d (by omega) gx gs q _ _ _ _ q9) ?_
            by_cases h10 : r8 = 0
            · rw [if_pos h10] at H
              refine pm_Wg.path (k := 3) (ds := [1]) (f' := (8, [some (.ref 64), some (.int l1), some (.int l2), some (.int l3), some (.long l4), none, some (.int (l6 + 1)), some (.int r5)], [], mo_h gx s gs q)) tk_X9_bestTenant (by omega) rfl ⟨h10, trivial⟩ ?_
              refine pm_Wg.weak (L := [some (.ref 64), some (.int l1), some (.int l2), some (.int l3), some (.long l4), none, some (.int (l6 + 1)), none]) rfl ⟨rfl, rfl, rfl, rfl, rfl, rfl, trivial⟩ ?_
              exact ih _ _ _ _ _ e H hPe
            · rw [if_neg h10] at H
              by_cases h11 : l3 = (-1)
              · rw [if_pos h11] at H
                cases q13 : f_X9_rank s r5 l2 with
                | none => rw [q13] at H; cases H
                | some r12 =>
                 rw [q13] at H
                 dsimp only at H
                 refine pm_Wg.path (k := 9) (ds := [0, 1]) (f' := (74, [some (.ref 64), some (.int l1), some (.int l2), some (.int l6), some (.long l4), none, some (.int l6), some (.int r5)], [.int l2, .int r5, .ref 64], mo_h gx s gs q)) tk_X9_bestTenant (by omega) rfl ⟨h11, h10, trivial⟩ ?_
                 refine pm_Wg.callV (m' := 244) (ix := 374) (rr := 328) (pl := 1900) (b := 64) (As := [.int r5, .int l2]) (S := []) (by decide) rfl (pm_dec tk_X9_bestTenant rfl) rfl rfl (by decide) rfl rfl (by decide) (Nat.le_of_ble_eq_true rfl) rfl (e_X9_rank d (by omega) gx gs q _ _ _ _ q13) ?_
                 refine pm_Wg.path (k := 3) (ds := []) (f' := (8, [some (.ref 64), some (.int l1), some (.int l2), some (.int l6), some (.long r12), none, some (.int (l6 + 1)), some (.int r5)], [], mo_h gx s gs q)) tk_X9_bestTenant (by omega) rfl trivial ?_
                 refine pm_Wg.weak (L := [some (.ref 64), some (.int l1), some (.int l2), some (.int l6), some (.long r12), none, some (.int (l6 + 1)), none]) rfl ⟨rfl, rfl, rfl, rfl, rfl, rfl, trivial⟩ ?_
                 exact ih _ _ _ _ _ e H hPe
              · rw [if_neg h11] at H
                cases q15 : f_X9_rank s r5 l2 with
                | none => rw [q15] at H; cases H
                | some r14 =>
                 rw [q15] at H
                 dsimp only at H
                 refine pm_Wg.path (k := 7) (ds := [0, 0]) (f' := (58, [some (.ref 64), some (.int l1), some (.int l2), some (.int l3), some (.long l4), none, some (.int l6), some (.int r5)], [.int l2, .int r5, .ref 64], mo_h gx s gs q)) tk_X9_bestTenant (by omega) rfl ⟨h11, h10, trivial⟩ ?_
                 refine pm_Wg.callV (m' := 244) (ix := 374) (rr := 328) (pl := 1900) (b := 64) (As := [.int r5, .int l2]) (S := []) (by decide) rfl (pm_dec tk_X9_bestTenant rfl) rfl rfl (by decide) rfl rfl (by decide) (Nat.le_of_ble_eq_true rfl) rfl (e_X9_rank d (by omega) gx gs q _ _ _ _ q15) ?_
                 by_cases h16 : 0 ≤ (lg_cmp r14 l4)
                 · rw [if_pos h16] at H
                   refine pm_Wg.path (k := 5) (ds := [1]) (f' := (8, [some (.ref 64), some (.int l1), some (.int l2), some (.int l3), some (.long l4), none, some (.int (l6 + 1)), some (.int r5)], [], mo_h gx s gs q)) tk_X9_bestTenant (by omega) rfl ⟨h16, trivial⟩ ?_
                   refine pm_Wg.weak (L := [some (.ref 64), some (.int l1), some (.int l2), some (.int l3), some (.long l4), none, some (.int (l6 + 1)), none]) rfl ⟨rfl, rfl, rfl, rfl, rfl, rfl, trivial⟩ ?_
                   exact ih _ _ _ _ _ e H hPe
                 · rw [if_neg h16] at H
                   refine pm_Wg.path (k := 8) (ds := [0]) (f' := (74, [some (.ref 64), some (.int l1), some (.int l2), some (.int l6), some (.long l4), none, some (.int l6), some (.int r5)], [.int l2, .int r5, .ref 64], mo_h gx s gs q)) tk_X9_bestTenant (by omega) rfl ⟨h16, trivial⟩ ?_
                   refine pm_Wg.callV (m' := 244) (ix := 374) (rr := 328) (pl := 1900) (b := 64) (As := [.int r5, .int l2]) (S := []) (by decide) rfl (pm_dec tk_X9_bestTenant rfl) rfl rfl (by decide) rfl rfl (by decide) (Nat.le_of_ble_eq_true rfl) rfl (e_X9_rank d (by omega) gx gs q _ _ _ _ q15) ?_
                   refine pm_Wg.path (k := 3) (ds := []) (f' := (8, [some (.ref 64), some (.int l1), some (.int l2), some (.int l6), some (.long r14), none, some (.int (l6 + 1)), some (.int r5)], [], mo_h gx s gs q)) tk_X9_bestTenant (by omega) rfl trivial ?_
                   refine pm_Wg.weak (L := [some (.ref 64), some (.int l1), some (.int l2), some (.int l6), some (.long r14), none, some (.int (l6 + 1)), none]) rfl ⟨rfl, rfl, rfl, rfl, rfl, rfl, trivial⟩ ?_
                   exact ih _ _ _ _ _ e H hPe
set_option maxRecDepth 20000 in
set_option maxHeartbeats 20000000 in
theorem e_X9_bestTenant (d : Nat) (hd : 4 ≤ d) (gx : List pm_E) (gs : List (List pm_E)) (q : Nat × Nat × Nat) (s : mo_S) (a0 : Int32) (a1 : Int32) (r : Int32) (H : f_X9_bestTenant s a0 a1 = some r) : pm_Mt 245 d [.ref 64, .int a0, .int a1] (mo_h gx s gs q) (.inl (some (.int r))) (mo_h gx s gs q) := by
  refine pm_Mt.of (by decide) (by decide +kernel) rfl rfl ?_
  obtain ⟨d, rfl⟩ : ∃ d', d = d' + 1 := ⟨d - 1, by omega⟩
  unfold f_X9_bestTenant at H
  refine pm_Wg.path (k := 6) (ds := []) (f' := (8, [some (.ref 64), some (.int a0), some (.int a1), some (.int (-1)), some (.long 0), none, some (.int 0), none], [], mo_h gx s gs q)) tk_X9_bestTenant (by omega) rfl trivial ?_
  exact ll_X9_bestTenant_8 (d + 1) (by omega) gx gs q s r (fun e => e = r) (fun e he => he) pm_fu _ _ _ _ _ _ H rfl

def lb_X9_giveBack_25 (x : mo_S × Int32 × Int32 × Int64 × Int32) : Option ((mo_S × Int32 × Int32 × Int64 × Int32) ⊕ (mo_S)) := match x with
  | (s, l1, l2, l3, l5) =>
   (if l5 = (-1) then
    (match f_X9_ofQueue s l1 3 with
    | none => none
    | some r9 =>
     (if r9 = 1 then
      (match pm_inb ((6600 + (3 * l1)) + 0) 6726 with
      | false => none
      | true =>
      some (.inr (mo_l s 5 ((6600 + (3 * l1)) + 0) ((s.2.2.2 5 (Int32.toNatClampNeg ((6600 + (3 * l1)) + 0))) - l3))))
     else
      some (.inr s)))
   else
    (match f_X9_of s l5 6 with
    | none => none
    | some r14 =>
     (if r14 = 1 then
      (match pm_inb ((3 * l5) + 0) 6726 with
      | false => none
      | true =>
      (match f_X9_of (mo_l s 5 ((3 * l5) + 0) ((s.2.2.2 5 (Int32.toNatClampNeg ((3 * l5) + 0))) - l3)) l5 5 with
      | none => none
      | some r19 =>
       some (.inl ((mo_l s 5 ((3 * l5) + 0) ((s.2.2.2 5 (Int32.toNatClampNeg ((3 * l5) + 0))) - l3)), l1, l2, l3, r19))))
     else
      (match f_X9_of s l5 5 with
      | none => none
      | some r21 =>
       some (.inl (s, l1, l2, l3, r21))))))
def f_X9_giveBack (s : mo_S) (a0 : Int32) (a1 : Int32) : Option mo_S :=
  (match f_X9_shareOf s a1 0 with
  | none => none
  | some r1 =>
   (if r1 = 0 then
    some s
   else
    (match f_X9_part s a1 0 with
    | none => none
    | some r4 =>
     (match f_X9_ofQueue s a0 0 with
     | none => none
     | some r6 =>
      (pm_loop pm_fu lb_X9_giveBack_25 (s, a0, a1, r4, r6))))))
def tb_X9_giveBack : List pm_I := [(0, .aload_n 0, 0, 0), (1, .iload_n 2, 0, 0), (2, .iconst 0, 2, 0), (3, .invokevirtual 221, 272, 0), (6, .ifCond .ne 4, 10, 0), (9, .return_, 0, 0), (10, .aload_n 0, 0, 0), (11, .iload_n 2, 0, 0), (12, .iconst 0, 2, 0), (13, .invokevirtual 229, 289, 0), (16, .lstore_n 3, 0, 0), (17, .aload_n 0, 0, 0), (18, .iload_n 1, 0, 0), (19, .iconst 0, 2, 0), (20, .invokevirtual 233, 290, 0), (23, .istore 5, 0, 0), (25, .iload 5, 0, 0), (27, .iconst (-1), 1, 0), (28, .if_icmp .eq 51, 79, 0), (31, .aload_n 0, 0, 0), (32, .iload 5, 0, 0), (34, .bipush 6, 8, 0), (36, .invokevirtual 254, 285, 0), (39, .iconst 1, 3, 0), (40, .if_icmp .ne 27, 67, 0), (43, .aload_n 0, 0, 0), (44, .getfield 22, 164, 0), (47, .iconst 3, 5, 0), (48, .iload 5, 0, 0), (50, .imul, 0, 0), (51, .iconst 0, 2, 0), (52, .iadd, 0, 0), (53, .aload_n 0, 0, 0), (54, .getfield 22, 164, 0), (57, .iconst 3, 5, 0), (58, .iload 5, 0, 0), (60, .imul, 0, 0), (61, .iconst 0, 2, 0), (62, .iadd, 0, 0), (63, .laload, 0, 0), (64, .lload_n 3, 0, 0), (65, .lsub, 0, 0), (66, .lastore, 0, 0), (67, .aload_n 0, 0, 0), (68, .iload 5, 0, 0), (70, .iconst 5, 7, 0), (71, .invokevirtual 254, 285, 0), (74, .istore 5, 0, 0), (76, .goto (-51), 25, 0), (79, .aload_n 0, 0, 0), (80, .iload_n 1, 0, 0), (81, .iconst 3, 5, 0), (82, .invokevirtual 233, 290, 0), (85, .iconst 1, 3, 0), (86, .if_icmp .ne 33, 119, 0), (89, .aload_n 0, 0, 0), (90, .getfield 22, 164, 0), (93, .sipush 6600, 45, 0), (96, .iconst 3, 5, 0), (97, .iload_n 1, 0, 0), (98, .imul, 0, 0), (99, .iadd, 0, 0), (100, .iconst 0, 2, 0), (101, .iadd, 0, 0), (102, .aload_n 0, 0, 0), (103, .getfield 22, 164, 0), (106, .sipush 6600, 45, 0), (109, .iconst 3, 5, 0), (110, .iload_n 1, 0, 0), (111, .imul, 0, 0), (112, .iadd, 0, 0), (113, .iconst 0, 2, 0), (114, .iadd, 0, 0), (115, .laload, 0, 0), (116, .lload_n 3, 0, 0), (117, .lsub, 0, 0), (118, .lastore, 0, 0), (119, .return_, 0, 0)]
theorem tk_X9_giveBack : ∀ e ∈ tb_X9_giveBack, pm_ck 246 e = true := List.all_eq_true.mp (by decide +kernel)
set_option maxRecDepth 20000 in
set_option maxHeartbeats 40000000 in
theorem ll_X9_giveBack_25 (d : Nat) (hd : 3 ≤ d) (gx : List pm_E) (gs : List (List pm_E)) (q : Nat × Nat × Nat) (s1 : mo_S) (P : mo_S → Prop) (K0 : ∀ e : mo_S, P (e) → e = s1) : ∀ (n : Nat) (s : mo_S) (l1 : Int32) (l2 : Int32) (l3 : Int64) (l5 : Int32) (e : mo_S), pm_loop n lb_X9_giveBack_25 (s, l1, l2, l3, l5) = some e → P e → pm_Wg 246 d (.inl (none)) (mo_h gx s1 gs q) (25, [some (.ref 64), some (.int l1), some (.int l2), some (.long l3), none, some (.int l5)], [], mo_h gx s gs q) := by
  intro n
  induction n with
  | zero => intro s l1 l2 l3 l5 e H; cases H
  | succ n ih =>
    intro s l1 l2 l3 l5 e H hPe
    obtain ⟨d, rfl⟩ : ∃ d', d = d' + 1 := ⟨d - 1, by omega⟩
    have H : pm_lst (pm_loop n lb_X9_giveBack_25) (lb_X9_giveBack_25 (s, l1, l2, l3, l5)) = some e := H
    generalize pm_loop n lb_X9_giveBack_25 = LB at H ih
    unfold lb_X9_giveBack_25 at H
    try dsimp only at H
    by_cases h8 : l5 = (-1)
    · rw [if_pos h8] at H
      cases q10 : f_X9_ofQueue s l1 3 with
      | none => rw [q10] at H; cases H
      | some r9 =>
       rw [q10] at H
       dsimp only at H
       refine pm_Wg.path (k := 6) (ds := [1]) (f' := (82, [some (.ref 64), some (.int l1), some (.int l2), some (.long l3), none, some (.int l5)], [.int 3, .int l1, .ref 64], mo_h gx s gs q)) tk_X9_giveBack (by omega) rfl ⟨h8, trivial⟩ ?_
       refine pm_Wg.callV (m' := 198) (ix := 233) (rr := 290) (pl := 1747) (b := 64) (As := [.int l1, .int 3]) (S := []) (by decide) rfl (pm_dec tk_X9_giveBack rfl) rfl rfl (by decide) rfl rfl (by decide) (Nat.le_of_ble_eq_true rfl) rfl (e_X9_ofQueue d (by omega) gx gs q _ _ _ _ q10) ?_
       by_cases h11 : r9 = 1
       · rw [if_pos h11] at H
         cases b12 : pm_inb ((6600 + (3 * l1)) + 0) 6726 with
         | false => rw [b12] at H; cases H
         | true =>
          rw [b12] at H
          dsimp only at H
          have He := Option.some.inj H
          subst He
          have H := K0 _ hPe
          subst H
          refine pm_Wg.path (k := 24) (ds := [0]) (f' := (119, [some (.ref 64), some (.int l1), some (.int l2), some (.long l3), none, some (.int l5)], [], mo_h gx (mo_l s 5 ((6600 + (3 * l1)) + 0) ((s.2.2.2 5 (Int32.toNatClampNeg ((6600 + (3 * l1)) + 0))) - l3)) gs q)) tk_X9_giveBack (by omega) rfl ⟨pm_inb_vp b12, pm_inb_vp b12, h11, trivial⟩ ?_
          exact pm_Wg.vret (pm_dec tk_X9_giveBack rfl) rfl
       · rw [if_neg h11] at H
         have He := Option.some.inj H
         subst He
         have H := K0 _ hPe
         subst H
         refine pm_Wg.path (k := 2) (ds := [1]) (f' := (119, [some (.ref 64), some (.int l1), some (.int l2), some (.long l3), none, some (.int l5)], [], mo_h gx s gs q)) tk_X9_giveBack (by omega) rfl ⟨h11, trivial⟩ ?_
         exact pm_Wg.vret (pm_dec tk_X9_giveBack rfl) rfl
    · rw [if_neg h8] at H
      cases q15 : f_X9_of s l5 6 with
      | none => rw [q15] at H; cases H
      | some r14 =>
       rw [q15] at H
       dsimp only at H
       refine pm_Wg.path (k := 6) (ds := [0]) (f' := (36, [some (.ref 64), some (.int l1), some (.int l2), some (.long l3), none, some (.int l5)], [.int 6, .int l5, .ref 64], mo_h gx s gs q)) tk_X9_giveBack (by omega) rfl ⟨h8, trivial⟩ ?_
       refine pm_Wg.callV (m' := 200) (ix := 254) (rr := 285) (pl := 1726) (b := 64) (As := [.int l5, .int 6]) (S := []) (by decide) rfl (pm_dec tk_X9_giveBack rfl) rfl rfl (by decide) rfl rfl (by decide) (Nat.le_of_ble_eq_true rfl) rfl (e_X9_of d (by omega) gx gs q _ _ _ _ q15) ?_
       by_cases h16 : r14 = 1
       · rw [if_pos h16] at H
         cases b17 : pm_inb ((3 * l5) + 0) 6726 with
         | false => rw [b17] at H; cases H
         | true =>
          rw [b17] at H
          dsimp only at H
          cases q20 : f_X9_of (mo_l s 5 ((3 * l5) + 0) ((s.2.2.2 5 (Int32.toNatClampNeg ((3 * l5) + 0))) - l3)) l5 5 with
          | none => rw [q20] at H; cases H
          | some r19 =>
           rw [q20] at H
           dsimp only at H
           refine pm_Wg.path (k := 23) (ds := [0]) (f' := (71, [some (.ref 64), some (.int l1), some (.int l2), some (.long l3), none, some (.int l5)], [.int 5, .int l5, .ref 64], mo_h gx (mo_l s 5 ((3 * l5) + 0) ((s.2.2.2 5 (Int32.toNatClampNeg ((3 * l5) + 0))) - l3)) gs q)) tk_X9_giveBack (by omega) rfl ⟨pm_inb_vp b17, pm_inb_vp b17, h16, trivial⟩ ?_
           refine pm_Wg.callV (m' := 200) (ix := 254) (rr := 285) (pl := 1726) (b := 64) (As := [.int l5, .int 5]) (S := []) (by decide) rfl (pm_dec tk_X9_giveBack rfl) rfl rfl (by decide) rfl rfl (by decide) (Nat.le_of_ble_eq_true rfl) rfl (e_X9_of d (by omega) gx gs q _ _ _ _ q20) ?_
           refine pm_Wg.path (k := 2) (ds := []) (f' := (25, [some (.ref 64), some (.int l1), some (.int l2), some (.long l3), none, some (.int r19)], [], mo_h gx (mo_l s 5 ((3 * l5) + 0) ((s.2.2.2 5 (Int32.toNatClampNeg ((3 * l5) + 0))) - l3)) gs q)) tk_X9_giveBack (by omega) rfl trivial ?_
           exact ih _ _ _ _ _ e H hPe
       · rw [if_neg h16] at H
         cases q22 : f_X9_of s l5 5 with
         | none => rw [q22] at H; cases H
         | some r21 =>
          rw [q22] at H
          dsimp only at H
          refine pm_Wg.path (k := 5) (ds := [1]) (f' := (71, [some (.ref 64), some (.int l1), some (.int l2), some (.long l3), none, some (.int l5)], [.int 5, .int l5, .ref 64], mo_h gx s gs q)) tk_X9_giveBack (by omega) rfl ⟨h16, trivial⟩ ?_
          refine pm_Wg.callV (m' := 200) (ix := 254) (rr := 285) (pl := 1726) (b := 64) (As := [.int l5, .int 5]) (S := []) (by decide) rfl (pm_dec tk_X9_giveBack rfl) rfl rfl (by decide) rfl rfl (by decide) (Nat.le_of_ble_eq_true rfl) rfl (e_X9_of d (by omega) gx gs q _ _ _ _ q22) ?_
          refine pm_Wg.path (k := 2) (ds := []) (f' := (25, [some (.ref 64), some (.int l1), some (.int l2), some (.long l3), none, some (.int r21)], [], mo_h gx s gs q)) tk_X9_giveBack (by omega) rfl trivial ?_
          exact ih _ _ _ _ _ e H hPe
set_option maxRecDepth 20000 in
set_option maxHeartbeats 20000000 in
theorem e_X9_giveBack (d : Nat) (hd : 3 ≤ d) (gx : List pm_E) (gs : List (List pm_E)) (q : Nat × Nat × Nat) (s : mo_S) (a0 : Int32) (a1 : Int32) (s1 : mo_S) (H : f_X9_giveBack s a0 a1 = some s1) : pm_Mt 246 d [.ref 64, .int a0, .int a1] (mo_h gx s gs q) (.inl (none)) (mo_h gx s1 gs q) := by
  refine pm_Mt.of (by decide) (by decide +kernel) rfl rfl ?_
  obtain ⟨d, rfl⟩ : ∃ d', d = d' + 1 := ⟨d - 1, by omega⟩
  unfold f_X9_giveBack at H
  cases q2 : f_X9_shareOf s a1 0 with
  | none => rw [q2] at H; cases H
  | some r1 =>
   rw [q2] at H
   dsimp only at H
   refine pm_Wg.path (k := 3) (ds := []) (f' := (3, [some (.ref 64), some (.int a0), some (.int a1), none, none, none], [.int 0, .int a1, .ref 64], mo_h gx s gs q)) tk_X9_giveBack (by omega) rfl trivial ?_
   refine pm_Wg.callV (m' := 157) (ix := 221) (rr := 272) (pl := 1675) (b := 64) (As := [.int a1, .int 0]) (S := []) (by decide) rfl (pm_dec tk_X9_giveBack rfl) rfl rfl (by decide) rfl rfl (by decide) (Nat.le_of_ble_eq_true rfl) rfl (e_X9_shareOf d (by omega) gx gs q _ _ _ _ q2) ?_
   by_cases h3 : r1 = 0
   · rw [if_pos h3] at H
     injection H with H
     subst H
     refine pm_Wg.path (k := 1) (ds := [0]) (f' := (9, [some (.ref 64), some (.int a0), some (.int a1), none, none, none], [], mo_h gx s gs q)) tk_X9_giveBack (by omega) rfl ⟨h3, trivial⟩ ?_
     exact pm_Wg.vret (pm_dec tk_X9_giveBack rfl) rfl
   · rw [if_neg h3] at H
     cases q5 : f_X9_part s a1 0 with
     | none => rw [q5] at H; cases H
     | some r4 =>
      rw [q5] at H
      dsimp only at H
      refine pm_Wg.path (k := 4) (ds := [1]) (f' := (13, [some (.ref 64), some (.int a0), some (.int a1), none, none, none], [.int 0, .int a1, .ref 64], mo_h gx s gs q)) tk_X9_giveBack (by omega) rfl ⟨h3, trivial⟩ ?_
      refine pm_Wg.callV (m' := 204) (ix := 229) (rr := 289) (pl := 1742) (b := 64) (As := [.int a1, .int 0]) (S := []) (by decide) rfl (pm_dec tk_X9_giveBack rfl) rfl rfl (by decide) rfl rfl (by decide) (Nat.le_of_ble_eq_true rfl) rfl (e_X9_part d (by omega) gx gs q _ _ _ _ q5) ?_
      cases q7 : f_X9_ofQueue s a0 0 with
      | none => rw [q7] at H; cases H
      | some r6 =>
       rw [q7] at H
       dsimp only at H
       refine pm_Wg.path (k := 4) (ds := []) (f' := (20, [some (.ref 64), some (.int a0), some (.int a1), some (.long r4), none, none], [.int 0, .int a0, .ref 64], mo_h gx s gs q)) tk_X9_giveBack (by omega) rfl trivial ?_
       refine pm_Wg.callV (m' := 198) (ix := 233) (rr := 290) (pl := 1747) (b := 64) (As := [.int a0, .int 0]) (S := []) (by decide) rfl (pm_dec tk_X9_giveBack rfl) rfl rfl (by decide) rfl rfl (by decide) (Nat.le_of_ble_eq_true rfl) rfl (e_X9_ofQueue d (by omega) gx gs q _ _ _ _ q7) ?_
       refine pm_Wg.path (k := 1) (ds := []) (f' := (25, [some (.ref 64), some (.int a0), some (.int a1), some (.long r4), none, some (.int r6)], [], mo_h gx s gs q)) tk_X9_giveBack (by omega) rfl trivial ?_
       exact ll_X9_giveBack_25 (d + 1) (by omega) gx gs q s1 (fun e => e = s1) (fun e he => he) pm_fu _ _ _ _ _ _ H rfl

def f_X9_serve (s : mo_S) (a0 : Int32) (a1 : Int32) (a2 : Int32) : Option mo_S :=
  (match f_X9_queueOf s a0 a1 with
  | none => none
  | some r1 =>
   (match f_X9_ofQueue s r1 0 with
   | none => none
   | some r3 =>
    (match f_X9_of s r3 2 with
    | none => none
    | some r5 =>
     (match f_X9_ofDisk s a0 2 with
     | none => none
     | some r7 =>
      (match pm_inb 2 26 with
      | false => none
      | true =>
      (if 0 ≤ (r7 - r5) then
       (match pm_inb 3 26 with
       | false => none
       | true =>
       (match f_X9_removeFirst s r1 with
       | none => none
       | some s13 =>
        (match f_X9_setDisk s13 a0 0 r3 with
        | none => none
        | some s15 =>
         (match pm_inb 0 18186 with
         | false => none
         | true =>
         (match f_X9_setDisk s15 a0 1 ((s15.2.2.1 3 (Int32.toNatClampNeg 0)) + ((s.2.2.1 0 (Int32.toNatClampNeg 2)) + (((r7 - r5) * (s.2.2.1 0 (Int32.toNatClampNeg 3))) / 16))) with
         | none => none
         | some s18 =>
          (match f_X9_setDisk s18 a0 2 r5 with
          | none => none
          | some s20 =>
           (match f_X9_ofDisk s20 a0 3 with
           | none => none
           | some r22 =>
            (match f_X9_setDisk s20 a0 3 (r22 + ((s.2.2.1 0 (Int32.toNatClampNeg 2)) + (((r7 - r5) * (s.2.2.1 0 (Int32.toNatClampNeg 3))) / 16))) with
            | none => none
            | some s24 =>
             (match f_X9_addStatistic s24 a1 (4 + a2) 1 with
             | none => none
             | some s26 =>
              (if a2 = 1 then
               some s26
              else
               (match f_X9_giveBack s26 r1 a1 with
               | none => none
               | some s29 =>
                some s29)))))))))))
      else
       (match pm_inb 3 26 with
       | false => none
       | true =>
       (match f_X9_removeFirst s r1 with
       | none => none
       | some s31 =>
        (match f_X9_setDisk s31 a0 0 r3 with
        | none => none
        | some s33 =>
         (match pm_inb 0 18186 with
         | false => none
         | true =>
         (match f_X9_setDisk s33 a0 1 ((s33.2.2.1 3 (Int32.toNatClampNeg 0)) + ((s.2.2.1 0 (Int32.toNatClampNeg 2)) + (((-(r7 - r5)) * (s.2.2.1 0 (Int32.toNatClampNeg 3))) / 16))) with
         | none => none
         | some s36 =>
          (match f_X9_setDisk s36 a0 2 r5 with
          | none => none
          | some s38 =>
           (match f_X9_ofDisk s38 a0 3 with
           | none => none
           | some r40 =>
            (match f_X9_setDisk s38 a0 3 (r40 + ((s.2.2.1 0 (Int32.toNatClampNeg 2)) + (((-(r7 - r5)) * (s.2.2.1 0 (Int32.toNatClampNeg 3))) / 16))) with
            | none => none
            | some s42 =>
             (match f_X9_addStatistic s42 a1 (4 + a2) 1 with
             | none => none
             | some s44 =>
              (if a2 = 1 then
               some s44
              else
               (match f_X9_giveBack s44 r1 a1 with
               | none => none
               | some s47 =>
                some s47)))))))))))))))))
def tb_X9_serve : List pm_I := [(0, .iload_n 1, 0, 0), (1, .iload_n 2, 0, 0), (2, .invokestatic 251, 284, 0), (5, .istore 4, 0, 0), (7, .aload_n 0, 0, 0), (8, .iload 4, 0, 0), (10, .iconst 0, 2, 0), (11, .invokevirtual 233, 290, 0), (14, .istore 5, 0, 0), (16, .aload_n 0, 0, 0), (17, .iload 5, 0, 0), (19, .iconst 2, 4, 0), (20, .invokevirtual 254, 285, 0), (23, .istore 6, 0, 0), (25, .aload_n 0, 0, 0), (26, .iload_n 1, 0, 0), (27, .iconst 2, 4, 0), (28, .invokevirtual 353, 298, 0), (31, .iload 6, 0, 0), (33, .isub, 0, 0), (34, .istore 7, 0, 0), (36, .aload_n 0, 0, 0), (37, .getfield 7, 159, 0), (40, .iconst 2, 4, 0), (41, .iaload, 0, 0), (42, .iload 7, 0, 0), (44, .ifCond .ge 9, 53, 0), (47, .iload 7, 0, 0), (49, .ineg, 0, 0), (50, .goto 5, 55, 0), (53, .iload 7, 0, 0), (55, .aload_n 0, 0, 0), (56, .getfield 7, 159, 0), (59, .iconst 3, 5, 0), (60, .iaload, 0, 0), (61, .imul, 0, 0), (62, .bipush 16, 13, 0), (64, .idiv, 0, 0), (65, .iadd, 0, 0), (66, .istore 8, 0, 0), (68, .aload_n 0, 0, 0), (69, .iload 4, 0, 0), (71, .invokevirtual 264, 302, 0), (74, .aload_n 0, 0, 0), (75, .iload_n 1, 0, 0), (76, .iconst 0, 2, 0), (77, .iload 5, 0, 0), (79, .invokevirtual 359, 301, 0), (82, .aload_n 0, 0, 0), (83, .iload_n 1, 0, 0), (84, .iconst 1, 3, 0), (85, .aload_n 0, 0, 0), (86, .getfield 16, 162, 0), (89, .iconst 0, 2, 0), (90, .iaload, 0, 0), (91, .iload 8, 0, 0), (93, .iadd, 0, 0), (94, .invokevirtual 359, 301, 0), (97, .aload_n 0, 0, 0), (98, .iload_n 1, 0, 0), (99, .iconst 2, 4, 0), (100, .iload 6, 0, 0), (102, .invokevirtual 359, 301, 0), (105, .aload_n 0, 0, 0), (106, .iload_n 1, 0, 0), (107, .iconst 3, 5, 0), (108, .aload_n 0, 0, 0), (109, .iload_n 1, 0, 0), (110, .iconst 3, 5, 0), (111, .invokevirtual 353, 298, 0), (114, .iload 8, 0, 0), (116, .iadd, 0, 0), (117, .invokevirtual 359, 301, 0), (120, .aload_n 0, 0, 0), (121, .iload_n 2, 0, 0), (122, .iconst 4, 6, 0), (123, .iload_n 3, 0, 0), (124, .iadd, 0, 0), (125, .iconst 1, 3, 0), (126, .invokevirtual 273, 296, 0), (129, .iload_n 3, 0, 0), (130, .iconst 1, 3, 0), (131, .if_icmp .eq 10, 141, 0), (134, .aload_n 0, 0, 0), (135, .iload 4, 0, 0), (137, .iload_n 2, 0, 0), (138, .invokevirtual 377, 330, 0), (141, .return_, 0, 0)]
theorem tk_X9_serve : ∀ e ∈ tb_X9_serve, pm_ck 247 e = true := List.all_eq_true.mp (by decide +kernel)
set_option maxRecDepth 20000 in
set_option maxHeartbeats 20000000 in
theorem e_X9_serve (d : Nat) (hd : 4 ≤ d) (gx : List pm_E) (gs : List (List pm_E)) (q : Nat × Nat × Nat) (s : mo_S) (a0 : Int32) (a1 : Int32) (a2 : Int32) (s1 : mo_S) (H : f_X9_serve s a0 a1 a2 = some s1) : pm_Mt 247 d [.ref 64, .int a0, .int a1, .int a2] (mo_h gx s gs q) (.inl (none)) (mo_h gx s1 gs q) := by
  refine pm_Mt.of (by decide) (by decide +kernel) rfl rfl ?_
  obtain ⟨d, rfl⟩ : ∃ d', d = d' + 1 := ⟨d - 1, by omega⟩
  unfold f_X9_serve at H
  cases q2 : f_X9_queueOf s a0 a1 with
  | none => rw [q2] at H; cases H
  | some r1 =>
   rw [q2] at H
   dsimp only at H
   refine pm_Wg.path (k := 2) (ds := []) (f' := (2, [some (.ref 64), some (.int a0), some (.int a1), some (.int a2), none, none, none, none, none], [.int a1, .int a0], mo_h gx s gs q)) tk_X9_serve (by omega) rfl trivial ?_
   refine pm_Wg.callS (m' := 197) (ix := 251) (rr := 284) (pl := 1723) (As := [.int a0, .int a1]) (S := []) (by decide) rfl (pm_dec tk_X9_serve rfl) rfl rfl rfl (Nat.le_of_ble_eq_true rfl) rfl (e_X9_queueOf d (by omega) gx gs q _ _ _ _ q2) ?_
   cases q4 : f_X9_ofQueue s r1 0 with
   | none => rw [q4] at H; cases H
   | some r3 =>
    rw [q4] at H
    dsimp only at H
    refine pm_Wg.path (k := 4) (ds := []) (f' := (11, [some (.ref 64), some (.int a0), some (.int a1), some (.int a2), some (.int r1), none, none, none, none], [.int 0, .int r1, .ref 64], mo_h gx s gs q)) tk_X9_serve (by omega) rfl trivial ?_
    refine pm_Wg.callV (m' := 198) (ix := 233) (rr := 290) (pl := 1747) (b := 64) (As := [.int r1, .int 0]) (S := []) (by decide) rfl (pm_dec tk_X9_serve rfl) rfl rfl (by decide) rfl rfl (by decide) (Nat.le_of_ble_eq_true rfl) rfl (e_X9_ofQueue d (by omega) gx gs q _ _ _ _ q4) ?_
    cases q6 : f_X9_of s r3 2 with
    | none => rw [q6] at H; cases H
    | some r5 =>
     rw [q6] at H
     dsimp only at H
     refine pm_Wg.path (k := 4) (ds := []) (f' := (20, [some (.ref 64), some (.int a0), some (.int a1), some (.int a2), some (.int r1), some (.int r3), none, none, none], [.int 2, .int r3, .ref 64], mo_h gx s gs q)) tk_X9_serve (by omega) rfl trivial ?_
     refine pm_Wg.callV (m' := 200) (ix := 254) (rr := 285) (pl := 1726) (b := 64) (As := [.int r3, .int 2]) (S := []) (by decide) rfl (pm_dec tk_X9_serve rfl) rfl rfl (by decide) rfl rfl (by decide) (Nat.le_of_ble_eq_true rfl) rfl (e_X9_of d (by omega) gx gs q _ _ _ _ q6) ?_
     cases q8 : f_X9_ofDisk s a0 2 with
     | none => rw [q8] at H; cases H
     | some r7 =>
      rw [q8] at H
      dsimp only at H
      refine pm_Wg.path (k := 4) (ds := []) (f' := (28, [some (.ref 64), some (.int a0), some (.int a1), some (.int a2), some (.int r1), some (.int r3), some (.int r5), none, none], [.int 2, .int a0, .ref 64], mo_h gx s gs q)) tk_X9_serve (by omega) rfl trivial ?_
      refine pm_Wg.callV (m' := 195) (ix := 353) (rr := 298) (pl := 1780) (b := 64) (As := [.int a0, .int 2]) (S := []) (by decide) rfl (pm_dec tk_X9_serve rfl) rfl rfl (by decide) rfl rfl (by decide) (Nat.le_of_ble_eq_true rfl) rfl (e_X9_ofDisk d (by omega) gx gs q _ _ _ _ q8) ?_
      cases b9 : pm_inb 2 26 with
      | false => rw [b9] at H; cases H
      | true =>
       rw [b9] at H
       dsimp only at H
       by_cases h10 : 0 ≤ (r7 - r5)
       · rw [if_pos h10] at H
         cases b11 : pm_inb 3 26 with
         | false => rw [b11] at H; cases H
         | true =>
          rw [b11] at H
          dsimp only at H
          cases q14 : f_X9_removeFirst s r1 with
          | none => rw [q14] at H; cases H
          | some s13 =>
           rw [q14] at H
           dsimp only at H
           refine pm_Wg.path (k := 21) (ds := [1]) (f' := (71, [some (.ref 64), some (.int a0), some (.int a1), some (.int a2), some (.int r1), some (.int r3), some (.int r5), some (.int (r7 - r5)), some (.int ((s.2.2.1 0 (Int32.toNatClampNeg 2)) + (((r7 - r5) * (s.2.2.1 0 (Int32.toNatClampNeg 3))) / 16)))], [.int r1, .ref 64], mo_h gx s gs q)) tk_X9_serve (by omega) rfl ⟨(by decide), pm_inb_vp b11, h10, pm_inb_vp b9, trivial⟩ ?_
           refine pm_Wg.callV (m' := 208) (ix := 264) (rr := 302) (pl := 1796) (b := 64) (As := [.int r1]) (S := []) (by decide) rfl (pm_dec tk_X9_serve rfl) rfl rfl (by decide) rfl rfl (by decide) (Nat.le_of_ble_eq_true rfl) rfl (e_X9_removeFirst d (by omega) gx gs q _ _ _ q14) ?_
           cases q16 : f_X9_setDisk s13 a0 0 r3 with
           | none => rw [q16] at H; cases H
           | some s15 =>
            rw [q16] at H
            dsimp only at H
            refine pm_Wg.path (k := 4) (ds := []) (f' := (79, [some (.ref 64), some (.int a0), some (.int a1), some (.int a2), some (.int r1), some (.int r3), some (.int r5), some (.int (r7 - r5)), some (.int ((s.2.2.1 0 (Int32.toNatClampNeg 2)) + (((r7 - r5) * (s.2.2.1 0 (Int32.toNatClampNeg 3))) / 16)))], [.int r3, .int 0, .int a0, .ref 64], mo_h gx s13 gs q)) tk_X9_serve (by omega) rfl trivial ?_
            refine pm_Wg.callV (m' := 196) (ix := 359) (rr := 301) (pl := 1792) (b := 64) (As := [.int a0, .int 0, .int r3]) (S := []) (by decide) rfl (pm_dec tk_X9_serve rfl) rfl rfl (by decide) rfl rfl (by decide) (Nat.le_of_ble_eq_true rfl) rfl (e_X9_setDisk d (by omega) gx gs q _ _ _ _ _ q16) ?_
            cases b17 : pm_inb 0 18186 with
            | false => rw [b17] at H; cases H
            | true =>
             rw [b17] at H
             dsimp only at H
             cases q19 : f_X9_setDisk s15 a0 1 ((s15.2.2.1 3 (Int32.toNatClampNeg 0)) + ((s.2.2.1 0 (Int32.toNatClampNeg 2)) + (((r7 - r5) * (s.2.2.1 0 (Int32.toNatClampNeg 3))) / 16))) with
             | none => rw [q19] at H; cases H
             | some s18 =>
              rw [q19] at H
              dsimp only at H
              refine pm_Wg.path (k := 9) (ds := []) (f' := (94, [some (.ref 64), some (.int a0), some (.int a1), some (.int a2), some (.int r1), some (.int r3), some (.int r5), some (.int (r7 - r5)), some (.int ((s.2.2.1 0 (Int32.toNatClampNeg 2)) + (((r7 - r5) * (s.2.2.1 0 (Int32.toNatClampNeg 3))) / 16)))], [.int ((s15.2.2.1 3 (Int32.toNatClampNeg 0)) + ((s.2.2.1 0 (Int32.toNatClampNeg 2)) + (((r7 - r5) * (s.2.2.1 0 (Int32.toNatClampNeg 3))) / 16))), .int 1, .int a0, .ref 64], mo_h gx s15 gs q)) tk_X9_serve (by omega) rfl ⟨pm_inb_vp b17, trivial⟩ ?_
              refine pm_Wg.callV (m' := 196) (ix := 359) (rr := 301) (pl := 1792) (b := 64) (As := [.int a0, .int 1, .int ((s15.2.2.1 3 (Int32.toNatClampNeg 0)) + ((s.2.2.1 0 (Int32.toNatClampNeg 2)) + (((r7 - r5) * (s.2.2.1 0 (Int32.toNatClampNeg 3))) / 16)))]) (S := []) (by decide) rfl (pm_dec tk_X9_serve rfl) rfl rfl (by decide) rfl rfl (by decide) (Nat.le_of_ble_eq_true rfl) rfl (e_X9_setDisk d (by omega) gx gs q _ _ _ _ _ q19) ?_
              cases q21 : f_X9_setDisk s18 a0 2 r5 with
              | none => rw [q21] at H; cases H
              | some s20 =>
               rw [q21] at H
               dsimp only at H
               refine pm_Wg.path (k := 4) (ds := []) (f' := (102, [some (.ref 64), some (.int a0), some (.int a1), some (.int a2), some (.int r1), some (.int r3), some (.int r5), some (.int (r7 - r5)), some (.int ((s.2.2.1 0 (Int32.toNatClampNeg 2)) + (((r7 - r5) * (s.2.2.1 0 (Int32.toNatClampNeg 3))) / 16)))], [.int r5, .int 2, .int a0, .ref 64], mo_h gx s18 gs q)) tk_X9_serve (by omega) rfl trivial ?_
               refine pm_Wg.callV (m' := 196) (ix := 359) (rr := 301) (pl := 1792) (b := 64) (As := [.int a0, .int 2, .int r5]) (S := []) (by decide) rfl (pm_dec tk_X9_serve rfl) rfl rfl (by decide) rfl rfl (by decide) (Nat.le_of_ble_eq_true rfl) rfl (e_X9_setDisk d (by omega) gx gs q _ _ _ _ _ q21) ?_
               cases q23 : f_X9_ofDisk s20 a0 3 with
               | none => rw [q23] at H; cases H
               | some r22 =>
                rw [q23] at H
                dsimp only at H
                refine pm_Wg.path (k := 6) (ds := []) (f' := (111, [some (.ref 64), some (.int a0), some (.int a1), some (.int a2), some (.int r1), some (.int r3), some (.int r5), some (.int (r7 - r5)), some (.int ((s.2.2.1 0 (Int32.toNatClampNeg 2)) + (((r7 - r5) * (s.2.2.1 0 (Int32.toNatClampNeg 3))) / 16)))], [.int 3, .int a0, .ref 64, .int 3, .int a0, .ref 64], mo_h gx s20 gs q)) tk_X9_serve (by omega) rfl trivial ?_
                refine pm_Wg.callV (m' := 195) (ix := 353) (rr := 298) (pl := 1780) (b := 64) (As := [.int a0, .int 3]) (S := [.int 3, .int a0, .ref 64]) (by decide) rfl (pm_dec tk_X9_serve rfl) rfl rfl (by decide) rfl rfl (by decide) (Nat.le_of_ble_eq_true rfl) rfl (e_X9_ofDisk d (by omega) gx gs q _ _ _ _ q23) ?_
                cases q25 : f_X9_setDisk s20 a0 3 (r22 + ((s.2.2.1 0 (Int32.toNatClampNeg 2)) + (((r7 - r5) * (s.2.2.1 0 (Int32.toNatClampNeg 3))) / 16))) with
                | none => rw [q25] at H; cases H
                | some s24 =>
                 rw [q25] at H
                 dsimp only at H
                 refine pm_Wg.path (k := 2) (ds := []) (f' := (117, [some (.ref 64), some (.int a0), some (.int a1), some (.int a2), some (.int r1), some (.int r3), some (.int r5), some (.int (r7 - r5)), some (.int ((s.2.2.1 0 (Int32.toNatClampNeg 2)) + (((r7 - r5) * (s.2.2.1 0 (Int32.toNatClampNeg 3))) / 16)))], [.int (r22 + ((s.2.2.1 0 (Int32.toNatClampNeg 2)) + (((r7 - r5) * (s.2.2.1 0 (Int32.toNatClampNeg 3))) / 16))), .int 3, .int a0, .ref 64], mo_h gx s20 gs q)) tk_X9_serve (by omega) rfl trivial ?_
                 refine pm_Wg.callV (m' := 196) (ix := 359) (rr := 301) (pl := 1792) (b := 64) (As := [.int a0, .int 3, .int (r22 + ((s.2.2.1 0 (Int32.toNatClampNeg 2)) + (((r7 - r5) * (s.2.2.1 0 (Int32.toNatClampNeg 3))) / 16)))]) (S := []) (by decide) rfl (pm_dec tk_X9_serve rfl) rfl rfl (by decide) rfl rfl (by decide) (Nat.le_of_ble_eq_true rfl) rfl (e_X9_setDisk d (by omega) gx gs q _ _ _ _ _ q25) ?_
                 cases q27 : f_X9_addStatistic s24 a1 (4 + a2) 1 with
                 | none => rw [q27] at H; cases H
                 | some s26 =>
                  rw [q27] at H
                  dsimp only at H
                  refine pm_Wg.path (k := 6) (ds := []) (f' := (126, [some (.ref 64), some (.int a0), some (.int a1), some (.int a2), some (.int r1), some (.int r3), some (.int r5), some (.int (r7 - r5)), some (.int ((s.2.2.1 0 (Int32.toNatClampNeg 2)) + (((r7 - r5) * (s.2.2.1 0 (Int32.toNatClampNeg 3))) / 16)))], [.int 1, .int (4 + a2), .int a1, .ref 64], mo_h gx s24 gs q)) tk_X9_serve (by omega) rfl trivial ?_
                  refine pm_Wg.callV (m' := 214) (ix := 273) (rr := 296) (pl := 1772) (b := 64) (As := [.int a1, .int (4 + a2), .int 1]) (S := []) (by decide) rfl (pm_dec tk_X9_serve rfl) rfl rfl (by decide) rfl rfl (by decide) (Nat.le_of_ble_eq_true rfl) rfl (e_X9_addStatistic d (by omega) gx gs q _ _ _ _ _ q27) ?_
                  by_cases h28 : a2 = 1
                  · rw [if_pos h28] at H
                    injection H with H
                    subst H
                    refine pm_Wg.path (k := 3) (ds := [1]) (f' := (141, [some (.ref 64), some (.int a0), some (.int a1), some (.int a2), some (.int r1), some (.int r3), some (.int r5), some (.int (r7 - r5)), some (.int ((s.2.2.1 0 (Int32.toNatClampNeg 2)) + (((r7 - r5) * (s.2.2.1 0 (Int32.toNatClampNeg 3))) / 16)))], [], mo_h gx s26 gs q)) tk_X9_serve (by omega) rfl ⟨h28, trivial⟩ ?_
                    exact pm_Wg.vret (pm_dec tk_X9_serve rfl) rfl
                  · rw [if_neg h28] at H
                    cases q30 : f_X9_giveBack s26 r1 a1 with
                    | none => rw [q30] at H; cases H
                    | some s29 =>
                     rw [q30] at H
                     dsimp only at H
                     refine pm_Wg.path (k := 6) (ds := [0]) (f' := (138, [some (.ref 64), some (.int a0), some (.int a1), some (.int a2), some (.int r1), some (.int r3), some (.int r5), some (.int (r7 - r5)), some (.int ((s.2.2.1 0 (Int32.toNatClampNeg 2)) + (((r7 - r5) * (s.2.2.1 0 (Int32.toNatClampNeg 3))) / 16)))], [.int a1, .int r1, .ref 64], mo_h gx s26 gs q)) tk_X9_serve (by omega) rfl ⟨h28, trivial⟩ ?_
                     refine pm_Wg.callV (m' := 246) (ix := 377) (rr := 330) (pl := 1908) (b := 64) (As := [.int r1, .int a1]) (S := []) (by decide) rfl (pm_dec tk_X9_serve rfl) rfl rfl (by decide) rfl rfl (by decide) (Nat.le_of_ble_eq_true rfl) rfl (e_X9_giveBack d (by omega) gx gs q _ _ _ _ q30) ?_
                     injection H with H
                     subst H
                     exact pm_Wg.vret (pm_dec tk_X9_serve rfl) rfl
       · rw [if_neg h10] at H
         cases b12 : pm_inb 3 26 with
         | false => rw [b12] at H; cases H
         | true =>
          rw [b12] at H
          dsimp only at H
          cases q32 : f_X9_removeFirst s r1 with
          | none => rw [q32] at H; cases H
          | some s31 =>
           rw [q32] at H
           dsimp only at H
           refine pm_Wg.path (k := 23) (ds := [0]) (f' := (71, [some (.ref 64), some (.int a0), some (.int a1), some (.int a2), some (.int r1), some (.int r3), some (.int r5), some (.int (r7 - r5)), some (.int ((s.2.2.1 0 (Int32.toNatClampNeg 2)) + (((-(r7 - r5)) * (s.2.2.1 0 (Int32.toNatClampNeg 3))) / 16)))], [.int r1, .ref 64], mo_h gx s gs q)) tk_X9_serve (by omega) rfl ⟨(by decide), pm_inb_vp b12, h10, pm_inb_vp b9, trivial⟩ ?_
           refine pm_Wg.callV (m' := 208) (ix := 264) (rr := 302) (pl := 1796) (b := 64) (As := [.int r1]) (S := []) (by decide) rfl (pm_dec tk_X9_serve rfl) rfl rfl (by decide) rfl rfl (by decide) (Nat.le_of_ble_eq_true rfl) rfl (e_X9_removeFirst d (by omega) gx gs q _ _ _ q32) ?_
           cases q34 : f_X9_setDisk s31 a0 0 r3 with
           | none => rw [q34] at H; cases H
           | some s33 =>
            rw [q34] at H
            dsimp only at H
            refine pm_Wg.path (k := 4) (ds := []) (f' := (79, [some (.ref 64), some (.int a0), some (.int a1), some (.int a2), some (.int r1), some (.int r3), some (.int r5), some (.int (r7 - r5)), some (.int ((s.2.2.1 0 (Int32.toNatClampNeg 2)) + (((-(r7 - r5)) * (s.2.2.1 0 (Int32.toNatClampNeg 3))) / 16)))], [.int r3, .int 0, .int a0, .ref 64], mo_h gx s31 gs q)) tk_X9_serve (by omega) rfl trivial ?_
            refine pm_Wg.callV (m' := 196) (ix := 359) (rr := 301) (pl := 1792) (b := 64) (As := [.int a0, .int 0, .int r3]) (S := []) (by decide) rfl (pm_dec tk_X9_serve rfl) rfl rfl (by decide) rfl rfl (by decide) (Nat.le_of_ble_eq_true rfl) rfl (e_X9_setDisk d (by omega) gx gs q _ _ _ _ _ q34) ?_
            cases b35 : pm_inb 0 18186 with
            | false => rw [b35] at H; cases H
            | true =>
             rw [b35] at H
             dsimp only at H
             cases q37 : f_X9_setDisk s33 a0 1 ((s33.2.2.1 3 (Int32.toNatClampNeg 0)) + ((s.2.2.1 0 (Int32.toNatClampNeg 2)) + (((-(r7 - r5)) * (s.2.2.1 0 (Int32.toNatClampNeg 3))) / 16))) with
             | none => rw [q37] at H; cases H
             | some s36 =>
              rw [q37] at H
              dsimp only at H
              refine pm_Wg.path (k := 9) (ds := []) (f' := (94, [some (.ref 64), some (.int a0), some (.int a1), some (.int a2), some (.int r1), some (.int r3), some (.int r5), some (.int (r7 - r5)), some (.int ((s.2.2.1 0 (Int32.toNatClampNeg 2)) + (((-(r7 - r5)) * (s.2.2.1 0 (Int32.toNatClampNeg 3))) / 16)))], [.int ((s33.2.2.1 3 (Int32.toNatClampNeg 0)) + ((s.2.2.1 0 (Int32.toNatClampNeg 2)) + (((-(r7 - r5)) * (s.2.2.1 0 (Int32.toNatClampNeg 3))) / 16))), .int 1, .int a0, .ref 64], mo_h gx s33 gs q)) tk_X9_serve (by omega) rfl ⟨pm_inb_vp b35, trivial⟩ ?_
              refine pm_Wg.callV (m' := 196) (ix := 359) (rr := 301) (pl := 1792) (b := 64) (As := [.int a0, .int 1, .int ((s33.2.2.1 3 (Int32.toNatClampNeg 0)) + ((s.2.2.1 0 (Int32.toNatClampNeg 2)) + (((-(r7 - r5)) * (s.2.2.1 0 (Int32.toNatClampNeg 3))) / 16)))]) (S := []) (by decide) rfl (pm_dec tk_X9_serve rfl) rfl rfl (by decide) rfl rfl (by decide) (Nat.le_of_ble_eq_true rfl) rfl (e_X9_setDisk d (by omega) gx gs q _ _ _ _ _ q37) ?_
              cases q39 : f_X9_setDisk s36 a0 2 r5 with
              | none => rw [q39] at H; cases H
              | some s38 =>
               rw [q39] at H
               dsimp only at H
               refine pm_Wg.path (k := 4) (ds := []) (f' := (102, [some (.ref 64), some (.int a0), some (.int a1), some (.int a2), some (.int r1), some (.int r3), some (.int r5), some (.int (r7 - r5)), some (.int ((s.2.2.1 0 (Int32.toNatClampNeg 2)) + (((-(r7 - r5)) * (s.2.2.1 0 (Int32.toNatClampNeg 3))) / 16)))], [.int r5, .int 2, .int a0, .ref 64], mo_h gx s36 gs q)) tk_X9_serve (by omega) rfl trivial ?_
               refine pm_Wg.callV (m' := 196) (ix := 359) (rr := 301) (pl := 1792) (b := 64) (As := [.int a0, .int 2, .int r5]) (S := []) (by decide) rfl (pm_dec tk_X9_serve rfl) rfl rfl (by decide) rfl rfl (by decide) (Nat.le_of_ble_eq_true rfl) rfl (e_X9_setDisk d (by omega) gx gs q _ _ _ _ _ q39) ?_
               cases q41 : f_X9_ofDisk s38 a0 3 with
               | none => rw [q41] at H; cases H
               | some r40 =>
                rw [q41] at H
                dsimp only at H
                refine pm_Wg.path (k := 6) (ds := []) (f' := (111, [some (.ref 64), some (.int a0), some (.int a1), some (.int a2), some (.int r1), some (.int r3), some (.int r5), some (.int (r7 - r5)), some (.int ((s.2.2.1 0 (Int32.toNatClampNeg 2)) + (((-(r7 - r5)) * (s.2.2.1 0 (Int32.toNatClampNeg 3))) / 16)))], [.int 3, .int a0, .ref 64, .int 3, .int a0, .ref 64], mo_h gx s38 gs q)) tk_X9_serve (by omega) rfl trivial ?_
                refine pm_Wg.callV (m' := 195) (ix := 353) (rr := 298) (pl := 1780) (b := 64) (As := [.int a0, .int 3]) (S := [.int 3, .int a0, .ref 64]) (by decide) rfl (pm_dec tk_X9_serve rfl) rfl rfl (by decide) rfl rfl (by decide) (Nat.le_of_ble_eq_true rfl) rfl (e_X9_ofDisk d (by omega) gx gs q _ _ _ _ q41) ?_
                cases q43 : f_X9_setDisk s38 a0 3 (r40 + ((s.2.2.1 0 (Int32.toNatClampNeg 2)) + (((-(r7 - r5)) * (s.2.2.1 0 (Int32.toNatClampNeg 3))) / 16))) with
                | none => rw [q43] at H; cases H
                | some s42 =>
                 rw [q43] at H
                 dsimp only at H
                 refine pm_Wg.path (k := 2) (ds := []) (f' := (117, [some (.ref 64), some (.int a0), some (.int a1), some (.int a2), some (.int r1), some (.int r3), some (.int r5), some (.int (r7 - r5)), some (.int ((s.2.2.1 0 (Int32.toNatClampNeg 2)) + (((-(r7 - r5)) * (s.2.2.1 0 (Int32.toNatClampNeg 3))) / 16)))], [.int (r40 + ((s.2.2.1 0 (Int32.toNatClampNeg 2)) + (((-(r7 - r5)) * (s.2.2.1 0 (Int32.toNatClampNeg 3))) / 16))), .int 3, .int a0, .ref 64], mo_h gx s38 gs q)) tk_X9_serve (by omega) rfl trivial ?_
                 refine pm_Wg.callV (m' := 196) (ix := 359) (rr := 301) (pl := 1792) (b := 64) (As := [.int a0, .int 3, .int (r40 + ((s.2.2.1 0 (Int32.toNatClampNeg 2)) + (((-(r7 - r5)) * (s.2.2.1 0 (Int32.toNatClampNeg 3))) / 16)))]) (S := []) (by decide) rfl (pm_dec tk_X9_serve rfl) rfl rfl (by decide) rfl rfl (by decide) (Nat.le_of_ble_eq_true rfl) rfl (e_X9_setDisk d (by omega) gx gs q _ _ _ _ _ q43) ?_
                 cases q45 : f_X9_addStatistic s42 a1 (4 + a2) 1 with
                 | none => rw [q45] at H; cases H
                 | some s44 =>
                  rw [q45] at H
                  dsimp only at H
                  refine pm_Wg.path (k := 6) (ds := []) (f' := (126, [some (.ref 64), some (.int a0), some (.int a1), some (.int a2), some (.int r1), some (.int r3), some (.int r5), some (.int (r7 - r5)), some (.int ((s.2.2.1 0 (Int32.toNatClampNeg 2)) + (((-(r7 - r5)) * (s.2.2.1 0 (Int32.toNatClampNeg 3))) / 16)))], [.int 1, .int (4 + a2), .int a1, .ref 64], mo_h gx s42 gs q)) tk_X9_serve (by omega) rfl trivial ?_
                  refine pm_Wg.callV (m' := 214) (ix := 273) (rr := 296) (pl := 1772) (b := 64) (As := [.int a1, .int (4 + a2), .int 1]) (S := []) (by decide) rfl (pm_dec tk_X9_serve rfl) rfl rfl (by decide) rfl rfl (by decide) (Nat.le_of_ble_eq_true rfl) rfl (e_X9_addStatistic d (by omega) gx gs q _ _ _ _ _ q45) ?_
                  by_cases h46 : a2 = 1
                  · rw [if_pos h46] at H
                    injection H with H
                    subst H
                    refine pm_Wg.path (k := 3) (ds := [1]) (f' := (141, [some (.ref 64), some (.int a0), some (.int a1), some (.int a2), some (.int r1), some (.int r3), some (.int r5), some (.int (r7 - r5)), some (.int ((s.2.2.1 0 (Int32.toNatClampNeg 2)) + (((-(r7 - r5)) * (s.2.2.1 0 (Int32.toNatClampNeg 3))) / 16)))], [], mo_h gx s44 gs q)) tk_X9_serve (by omega) rfl ⟨h46, trivial⟩ ?_
                    exact pm_Wg.vret (pm_dec tk_X9_serve rfl) rfl
                  · rw [if_neg h46] at H
                    cases q48 : f_X9_giveBack s44 r1 a1 with
                    | none => rw [q48] at H; cases H
                    | some s47 =>
                     rw [q48] at H
                     dsimp only at H
                     refine pm_Wg.path (k := 6) (ds := [0]) (f' := (138, [some (.ref 64), some (.int a0), some (.int a1), some (.int a2), some (.int r1), some (.int r3), some (.int r5), some (.int (r7 - r5)), some (.int ((s.2.2.1 0 (Int32.toNatClampNeg 2)) + (((-(r7 - r5)) * (s.2.2.1 0 (Int32.toNatClampNeg 3))) / 16)))], [.int a1, .int r1, .ref 64], mo_h gx s44 gs q)) tk_X9_serve (by omega) rfl ⟨h46, trivial⟩ ?_
                     refine pm_Wg.callV (m' := 246) (ix := 377) (rr := 330) (pl := 1908) (b := 64) (As := [.int r1, .int a1]) (S := []) (by decide) rfl (pm_dec tk_X9_serve rfl) rfl rfl (by decide) rfl rfl (by decide) (Nat.le_of_ble_eq_true rfl) rfl (e_X9_giveBack d (by omega) gx gs q _ _ _ _ q48) ?_
                     injection H with H
                     subst H
                     exact pm_Wg.vret (pm_dec tk_X9_serve rfl) rfl

def lb_X9_choose_2 (x : mo_S × Int32 × Int32) : Option ((mo_S × Int32 × Int32) ⊕ (mo_S)) := match x with
  | (s, l1, l2) =>
   (if 3 ≤ l2 then
    some (.inr s)
   else
    (match f_X9_bestTenant s l1 l2 with
    | none => none
    | some r2 =>
     (if r2 = (-1) then
      some (.inl (s, l1, (l2 + 1)))
     else
      (match f_X9_serve s l1 r2 l2 with
      | none => none
      | some s5 =>
       some (.inr s5)))))
def f_X9_choose (s : mo_S) (a0 : Int32) : Option mo_S :=
  (pm_loop pm_fu lb_X9_choose_2 (s, a0, 0))
def tb_X9_choose : List pm_I := [(0, .iconst 0, 2, 0), (1, .istore_n 2, 0, 0), (2, .iload_n 2, 0, 0), (3, .iconst 3, 5, 0), (4, .if_icmp .ge 29, 33, 0), (7, .aload_n 0, 0, 0), (8, .iload_n 1, 0, 0), (9, .iload_n 2, 0, 0), (10, .invokevirtual 380, 324, 0), (13, .istore_n 3, 0, 0), (14, .iload_n 3, 0, 0), (15, .iconst (-1), 1, 0), (16, .if_icmp .eq 11, 27, 0), (19, .aload_n 0, 0, 0), (20, .iload_n 1, 0, 0), (21, .iload_n 3, 0, 0), (22, .iload_n 2, 0, 0), (23, .invokevirtual 383, 329, 0), (26, .return_, 0, 0), (27, .iinc 2 1, 3, 0), (30, .goto (-28), 2, 0), (33, .return_, 0, 0)]
theorem tk_X9_choose : ∀ e ∈ tb_X9_choose, pm_ck 248 e = true := List.all_eq_true.mp (by decide +kernel)
set_option maxRecDepth 20000 in
set_option maxHeartbeats 40000000 in
theorem ll_X9_choose_2 (d : Nat) (hd : 5 ≤ d) (gx : List pm_E) (gs : List (List pm_E)) (q : Nat × Nat × Nat) (s1 : mo_S) (P : mo_S → Prop) (K0 : ∀ e : mo_S, P (e) → e = s1) : ∀ (n : Nat) (s : mo_S) (l1 : Int32) (l2 : Int32) (e : mo_S), pm_loop n lb_X9_choose_2 (s, l1, l2) = some e → P e → pm_Wg 248 d (.inl (none)) (mo_h gx s1 gs q) (2, [some (.ref 64), some (.int l1), some (.int l2), none], [], mo_h gx s gs q) := by
  intro n
  induction n with
  | zero => intro s l1 l2 e H; cases H
  | succ n ih =>
    intro s l1 l2 e H hPe
    obtain ⟨d, rfl⟩ : ∃ d', d = d' + 1 := ⟨d - 1, by omega⟩
    have H : pm_lst (pm_loop n lb_X9_choose_2) (lb_X9_choose_2 (s, l1, l2)) = some e := H
    generalize pm_loop n lb_X9_choose_2 = LB at H ih
    unfold lb_X9_choose_2 at H
    try dsimp only at H
    by_cases h1 : 3 ≤ l2
    · rw [if_pos h1] at H
      have He := Option.some.inj H
      subst He
      have H := K0 _ hPe
      subst H
      refine pm_Wg.path (k := 3) (ds := [1]) (f' := (33, [some (.ref 64), some (.int l1), some (.int l2), none], [], mo_h gx s gs q)) tk_X9_choose (by omega) rfl ⟨h1, trivial⟩ ?_
      exact pm_Wg.vret (pm_dec tk_X9_choose rfl) rfl
    · rw [if_neg h1] at H
      cases q3 : f_X9_bestTenant s l1 l2 with
      | none => rw [q3] at H; cases H
      | some r2 =>
       rw [q3] at H
       dsimp only at H
       refine pm_Wg.path (k := 6) (ds := [0]) (f' := (10, [some (.ref 64), some (.int l1), some (.int l2), none], [.int l2, .int l1, .ref 64], mo_h gx s gs q)) tk_X9_choose (by omega) rfl ⟨h1, trivial⟩ ?_
       refine pm_Wg.callV (m' := 245) (ix := 380) (rr := 324) (pl := 1884) (b := 64) (As := [.int l1, .int l2]) (S := []) (by decide) rfl (pm_dec tk_X9_choose rfl) rfl rfl (by decide) rfl rfl (by decide) (Nat.le_of_ble_eq_true rfl) rfl (e_X9_bestTenant d (by omega) gx gs q _ _ _ _ q3) ?_
       by_cases h4 : r2 = (-1)
       · rw [if_pos h4] at H
         refine pm_Wg.path (k := 6) (ds := [1]) (f' := (2, [some (.ref 64), some (.int l1), some (.int (l2 + 1)), some (.int r2)], [], mo_h gx s gs q)) tk_X9_choose (by omega) rfl ⟨h4, trivial⟩ ?_
         refine pm_Wg.weak (L := [some (.ref 64), some (.int l1), some (.int (l2 + 1)), none]) rfl ⟨rfl, rfl, rfl, trivial⟩ ?_
         exact ih _ _ _ e H hPe
       · rw [if_neg h4] at H
         cases q6 : f_X9_serve s l1 r2 l2 with
         | none => rw [q6] at H; cases H
         | some s5 =>
          rw [q6] at H
          dsimp only at H
          refine pm_Wg.path (k := 8) (ds := [0]) (f' := (23, [some (.ref 64), some (.int l1), some (.int l2), some (.int r2)], [.int l2, .int r2, .int l1, .ref 64], mo_h gx s gs q)) tk_X9_choose (by omega) rfl ⟨h4, trivial⟩ ?_
          refine pm_Wg.callV (m' := 247) (ix := 383) (rr := 329) (pl := 1904) (b := 64) (As := [.int l1, .int r2, .int l2]) (S := []) (by decide) rfl (pm_dec tk_X9_choose rfl) rfl rfl (by decide) rfl rfl (by decide) (Nat.le_of_ble_eq_true rfl) rfl (e_X9_serve d (by omega) gx gs q _ _ _ _ _ q6) ?_
          have He := Option.some.inj H
          subst He
          have H := K0 _ hPe
          subst H
          exact pm_Wg.vret (pm_dec tk_X9_choose rfl) rfl
set_option maxRecDepth 20000 in
set_option maxHeartbeats 20000000 in
theorem e_X9_choose (d : Nat) (hd : 5 ≤ d) (gx : List pm_E) (gs : List (List pm_E)) (q : Nat × Nat × Nat) (s : mo_S) (a0 : Int32) (s1 : mo_S) (H : f_X9_choose s a0 = some s1) : pm_Mt 248 d [.ref 64, .int a0] (mo_h gx s gs q) (.inl (none)) (mo_h gx s1 gs q) := by
  refine pm_Mt.of (by decide) (by decide +kernel) rfl rfl ?_
  obtain ⟨d, rfl⟩ : ∃ d', d = d' + 1 := ⟨d - 1, by omega⟩
  unfold f_X9_choose at H
  refine pm_Wg.path (k := 2) (ds := []) (f' := (2, [some (.ref 64), some (.int a0), some (.int 0), none], [], mo_h gx s gs q)) tk_X9_choose (by omega) rfl trivial ?_
  exact ll_X9_choose_2 (d + 1) (by omega) gx gs q s1 (fun e => e = s1) (fun e he => he) pm_fu _ _ _ _ H rfl

def f_X9_cachedUnits (s : mo_S) : Option (Int32 × mo_S) :=
  (match f_X9_cached s with
  | none => none
  | some r1 =>
   (match f_X9_told s r1 with
   | none => none
   | some (r3, s4) =>
    some (r3, s4)))
def tb_X9_cachedUnits : List pm_I := [(0, .aload_n 0, 0, 0), (1, .aload_n 0, 0, 0), (2, .invokevirtual 338, 321, 0), (5, .invokevirtual 80, 230, 0), (8, .ireturn, 0, 0)]
theorem tk_X9_cachedUnits : ∀ e ∈ tb_X9_cachedUnits, pm_ck 281 e = true := List.all_eq_true.mp (by decide +kernel)
set_option maxRecDepth 20000 in
set_option maxHeartbeats 20000000 in
theorem e_X9_cachedUnits (d : Nat) (hd : 3 ≤ d) (gx : List pm_E) (gs : List (List pm_E)) (q : Nat × Nat × Nat) (s : mo_S) (r : Int32) (s1 : mo_S) (H : f_X9_cachedUnits s = some (r, s1)) : pm_Mt 281 d [.ref 64] (mo_h gx s gs q) (.inl (some (.int r))) (mo_h gx s1 gs q) := by
  refine pm_Mt.of (by decide) (by decide +kernel) rfl rfl ?_
  obtain ⟨d, rfl⟩ : ∃ d', d = d' + 1 := ⟨d - 1, by omega⟩
  unfold f_X9_cachedUnits at H
  cases q2 : f_X9_cached s with
  | none => rw [q2] at H; cases H
  | some r1 =>
   rw [q2] at H
   dsimp only at H
   refine pm_Wg.path (k := 2) (ds := []) (f' := (2, [some (.ref 64)], [.ref 64, .ref 64], mo_h gx s gs q)) tk_X9_cachedUnits (by omega) rfl trivial ?_
   refine pm_Wg.callV (m' := 233) (ix := 338) (rr := 321) (pl := 1872) (b := 64) (As := []) (S := [.ref 64]) (by decide) rfl (pm_dec tk_X9_cachedUnits rfl) rfl rfl (by decide) rfl rfl (by decide) (Nat.le_of_ble_eq_true rfl) rfl (e_X9_cached d (by omega) gx gs q _ _ q2) ?_
   cases q5 : f_X9_told s r1 with
   | none => rw [q5] at H; cases H
   | some w =>
    obtain ⟨r3, s4⟩ := w
    rw [q5] at H
    dsimp only at H
    refine pm_Wg.callV (m' := 146) (ix := 80) (rr := 230) (pl := 1495) (b := 64) (As := [.int r1]) (S := []) (by decide) rfl (pm_dec tk_X9_cachedUnits rfl) rfl rfl (by decide) rfl rfl (by decide) (Nat.le_of_ble_eq_true rfl) rfl (e_X9_told d (by omega) gx gs q _ _ _ _ q5) ?_
    injection H with H
    injection H with H1 H2
    subst H1
    subst H2
    exact pm_Wg.iret (pm_dec tk_X9_cachedUnits rfl) rfl rfl

def f_X9_rebuiltCount (s : mo_S) : Option (Int32 × mo_S) :=
  (match f_X9_rebuilt s with
  | none => none
  | some r1 =>
   (match f_X9_told s r1 with
   | none => none
   | some (r3, s4) =>
    some (r3, s4)))
def tb_X9_rebuiltCount : List pm_I := [(0, .aload_n 0, 0, 0), (1, .aload_n 0, 0, 0), (2, .invokevirtual 341, 317, 0), (5, .invokevirtual 80, 230, 0), (8, .ireturn, 0, 0)]
theorem tk_X9_rebuiltCount : ∀ e ∈ tb_X9_rebuiltCount, pm_ck 282 e = true := List.all_eq_true.mp (by decide +kernel)
set_option maxRecDepth 20000 in
set_option maxHeartbeats 20000000 in
theorem e_X9_rebuiltCount (d : Nat) (hd : 3 ≤ d) (gx : List pm_E) (gs : List (List pm_E)) (q : Nat × Nat × Nat) (s : mo_S) (r : Int32) (s1 : mo_S) (H : f_X9_rebuiltCount s = some (r, s1)) : pm_Mt 282 d [.ref 64] (mo_h gx s gs q) (.inl (some (.int r))) (mo_h gx s1 gs q) := by
  refine pm_Mt.of (by decide) (by decide +kernel) rfl rfl ?_
  obtain ⟨d, rfl⟩ : ∃ d', d = d' + 1 := ⟨d - 1, by omega⟩
  unfold f_X9_rebuiltCount at H
  cases q2 : f_X9_rebuilt s with
  | none => rw [q2] at H; cases H
  | some r1 =>
   rw [q2] at H
   dsimp only at H
   refine pm_Wg.path (k := 2) (ds := []) (f' := (2, [some (.ref 64)], [.ref 64, .ref 64], mo_h gx s gs q)) tk_X9_rebuiltCount (by omega) rfl trivial ?_
   refine pm_Wg.callV (m' := 236) (ix := 341) (rr := 317) (pl := 1856) (b := 64) (As := []) (S := [.ref 64]) (by decide) rfl (pm_dec tk_X9_rebuiltCount rfl) rfl rfl (by decide) rfl rfl (by decide) (Nat.le_of_ble_eq_true rfl) rfl (e_X9_rebuilt d (by omega) gx gs q _ _ q2) ?_
   cases q5 : f_X9_told s r1 with
   | none => rw [q5] at H; cases H
   | some w =>
    obtain ⟨r3, s4⟩ := w
    rw [q5] at H
    dsimp only at H
    refine pm_Wg.callV (m' := 146) (ix := 80) (rr := 230) (pl := 1495) (b := 64) (As := [.int r1]) (S := []) (by decide) rfl (pm_dec tk_X9_rebuiltCount rfl) rfl rfl (by decide) rfl rfl (by decide) (Nat.le_of_ble_eq_true rfl) rfl (e_X9_told d (by omega) gx gs q _ _ _ _ q5) ?_
    injection H with H
    injection H with H1 H2
    subst H1
    subst H2
    exact pm_Wg.iret (pm_dec tk_X9_rebuiltCount rfl) rfl rfl

def lb_X9_bound_57 (x : mo_S × Int32 × Int32 × Int32 × Int32 × Int32) : Option ((mo_S × Int32 × Int32 × Int32 × Int32 × Int32) ⊕ ((mo_S × Int32 × Int32 × Int32) ⊕ (Int32 × mo_S))) := match x with
  | (s, l1, l2, l3, l4, l5) =>
   (match pm_inb 1 26 with
   | false => none
   | true =>
   (if (s.2.2.1 0 (Int32.toNatClampNeg 1)) ≤ l5 then
    (if l1 = 0 then none else
    (if ((((1000 * l4) + l1) - 1) / l1) ≤ l2 then
     some (.inr (.inl (s, l1, l2, (l3 + 1))))
    else
     some (.inr (.inl (s, l1, ((((1000 * l4) + l1) - 1) / l1), (l3 + 1))))))
   else
    (match f_X9_isSurviving s l3 with
    | none => none
    | some r19 =>
     (if r19 = 0 then
      (if l1 = 0 then none else
      (if ((((1000 * l4) + l1) - 1) / l1) ≤ l2 then
       some (.inr (.inl (s, l1, l2, (l3 + 1))))
      else
       some (.inr (.inl (s, l1, ((((1000 * l4) + l1) - 1) / l1), (l3 + 1))))))
     else
      (match f_X9_stateOf s l5 with
      | none => none
      | some r24 =>
       (if 1 < r24 then
        some (.inl (s, l1, l2, l3, l4, (l5 + 1)))
       else
        (match f_X9_isHeldOn s l3 l5 with
        | none => none
        | some r27 =>
         (if r27 = 0 then
          some (.inl (s, l1, l2, l3, (l4 + 1), (l5 + 1)))
         else
          some (.inl (s, l1, l2, l3, l4, (l5 + 1)))))))))))
def lb_X9_bound_43 (x : mo_S × Int32 × Int32 × Int32) : Option ((mo_S × Int32 × Int32 × Int32) ⊕ (Int32 × mo_S)) := match x with
  | (s, l1, l2, l3) =>
   (match f_X9_disks s with
   | none => none
   | some r11 =>
    (if r11 ≤ l3 then
     (match pm_inb 0 18186 with
     | false => none
     | true =>
     some (.inr (((s.2.2.1 3 (Int32.toNatClampNeg 0)) + l2), s)))
    else
     (pm_loop pm_fu lb_X9_bound_57 (s, l1, l2, l3, 0, 0))))
def f_X9_bound (s : mo_S) : Option (Int32 × mo_S) :=
  (match f_X9_isArray (mo_i s 2 0) with
  | none => none
  | some r1 =>
   (if r1 = 0 then
    (match pm_inb 1 18186 with
    | false => none
    | true =>
    (if ((mo_i s 2 0).2.2.1 3 (Int32.toNatClampNeg 1)) = (-1) then
     some ((-1), (mo_i s 2 0))
    else
     some ((-1), (mo_i s 2 0))))
   else
    (match f_X9_shareOf (mo_i s 2 0) 0 0 with
    | none => none
    | some r6 =>
     (match pm_inb 1 18186 with
     | false => none
     | true =>
     (if ((mo_i s 2 0).2.2.1 3 (Int32.toNatClampNeg 1)) = (-1) then
      some ((-1), (mo_i s 2 0))
     else
      (if r6 = 0 then
       some ((-1), (mo_i s 2 0))
      else
       (pm_loop pm_fu lb_X9_bound_43 ((mo_i s 2 0), r6, 0, 0))))))))
def tb_X9_bound : List pm_I := [(0, .aload_n 0, 0, 0), (1, .iconst 0, 2, 0), (2, .putfield 45, 161, 0), (5, .aload_n 0, 0, 0), (6, .invokevirtual 51, 254, 0), (9, .ifCond .eq 12, 21, 0), (12, .aload_n 0, 0, 0), (13, .iconst 0, 2, 0), (14, .iconst 0, 2, 0), (15, .invokevirtual 221, 272, 0), (18, .goto 4, 22, 0), (21, .iconst 0, 2, 0), (22, .istore_n 1, 0, 0), (23, .aload_n 0, 0, 0), (24, .getfield 16, 162, 0), (27, .iconst 1, 3, 0), (28, .iaload, 0, 0), (29, .iconst (-1), 1, 0), (30, .if_icmp .eq 7, 37, 0), (33, .iload_n 1, 0, 0), (34, .ifCond .ne 5, 39, 0), (37, .iconst (-1), 1, 0), (38, .ireturn, 0, 0), (39, .iconst 0, 2, 0), (40, .istore_n 2, 0, 0), (41, .iconst 0, 2, 0), (42, .istore_n 3, 0, 0), (43, .iload_n 3, 0, 0), (44, .aload_n 0, 0, 0), (45, .invokevirtual 55, 258, 0), (48, .if_icmp .ge 98, 146, 0), (51, .iconst 0, 2, 0), (52, .istore 4, 0, 0), (54, .iconst 0, 2, 0), (55, .istore 5, 0, 0), (57, .iload 5, 0, 0), (59, .aload_n 0, 0, 0), (60, .getfield 7, 159, 0), (63, .iconst 1, 3, 0), (64, .iaload, 0, 0), (65, .if_icmp .ge 48, 113, 0), (68, .aload_n 0, 0, 0), (69, .iload_n 3, 0, 0), (70, .invokevirtual 276, 280, 0), (73, .ifCond .eq 40, 113, 0), (76, .aload_n 0, 0, 0), (77, .iload 5, 0, 0), (79, .invokevirtual 286, 278, 0), (82, .iconst 1, 3, 0), (83, .if_icmp .gt 20, 103, 0), (86, .aload_n 0, 0, 0), (87, .iload_n 3, 0, 0), (88, .iload 5, 0, 0), (90, .invokevirtual 279, 281, 0), (93, .ifCond .ne 10, 103, 0), (96, .iload 4, 0, 0), (98, .iconst 1, 3, 0), (99, .iadd, 0, 0), (100, .goto 5, 105, 0), (103, .iload 4, 0, 0), (105, .istore 4, 0, 0), (107, .iinc 5 1, 3, 0), (110, .goto (-53), 57, 0), (113, .sipush 1000, 39, 0), (116, .iload 4, 0, 0), (118, .imul, 0, 0), (119, .iload_n 1, 0, 0), (120, .iadd, 0, 0), (121, .iconst 1, 3, 0), (122, .isub, 0, 0), (123, .iload_n 1, 0, 0), (124, .idiv, 0, 0), (125, .istore 5, 0, 0), (127, .iload 5, 0, 0), (129, .iload_n 2, 0, 0), (130, .if_icmp .le 8, 138, 0), (133, .iload 5, 0, 0), (135, .goto 4, 139, 0), (138, .iload_n 2, 0, 0), (139, .istore_n 2, 0, 0), (140, .iinc 3 1, 3, 0), (143, .goto (-100), 43, 0), (146, .aload_n 0, 0, 0), (147, .getfield 16, 162, 0), (150, .iconst 0, 2, 0), (151, .iaload, 0, 0), (152, .iload_n 2, 0, 0), (153, .iadd, 0, 0), (154, .ireturn, 0, 0)]
theorem tk_X9_bound : ∀ e ∈ tb_X9_bound, pm_ck 288 e = true := List.all_eq_true.mp (by decide +kernel)
set_option maxRecDepth 20000 in
set_option maxHeartbeats 40000000 in
theorem ll_X9_bound_57 (d : Nat) (hd : 3 ≤ d) (gx : List pm_E) (gs : List (List pm_E)) (q : Nat × Nat × Nat) (r : Int32) (s1 : mo_S) (P : (mo_S × Int32 × Int32 × Int32) ⊕ (Int32 × mo_S) → Prop) (K1 : ∀ (s : mo_S) (l1 : Int32) (l2 : Int32) (l3 : Int32), P (.inl (s, l1, l2, l3)) → pm_Wg 288 d (.inl (some (.int r))) (mo_h gx s1 gs q) (43, [some (.ref 64), some (.int l1), some (.int l2), some (.int l3), none, none], [], mo_h gx s gs q)) (K0 : ∀ e : Int32 × mo_S, P (.inr e) → e = (r, s1)) : ∀ (n : Nat) (s : mo_S) (l1 : Int32) (l2 : Int32) (l3 : Int32) (l4 : Int32) (l5 : Int32) (e : (mo_S × Int32 × Int32 × Int32) ⊕ (Int32 × mo_S)), pm_loop n lb_X9_bound_57 (s, l1, l2, l3, l4, l5) = some e → P e → pm_Wg 288 d (.inl (some (.int r))) (mo_h gx s1 gs q) (57, [some (.ref 64), some (.int l1), some (.int l2), some (.int l3), some (.int l4), some (.int l5)], [], mo_h gx s gs q) := by
  intro n
  induction n with
  | zero => intro s l1 l2 l3 l4 l5 e H; cases H
  | succ n ih =>
    intro s l1 l2 l3 l4 l5 e H hPe
    obtain ⟨d, rfl⟩ : ∃ d', d = d' + 1 := ⟨d - 1, by omega⟩
    have H : pm_lst (pm_loop n lb_X9_bound_57) (lb_X9_bound_57 (s, l1, l2, l3, l4, l5)) = some e := H
    generalize pm_loop n lb_X9_bound_57 = LB at H ih
    unfold lb_X9_bound_57 at H
    try dsimp only at H
    cases b15 : pm_inb 1 26 with
    | false => rw [b15] at H; cases H
    | true =>
     rw [b15] at H
     dsimp only at H
     by_cases h16 : (s.2.2.1 0 (Int32.toNatClampNeg 1)) ≤ l5
     · rw [if_pos h16] at H
       by_cases b17 : l1 = 0
       · rw [if_pos b17] at H; cases H
       rw [if_neg b17] at H
       by_cases h18 : ((((1000 * l4) + l1) - 1) / l1) ≤ l2
       · rw [if_pos h18] at H
         have He := Option.some.inj H
         subst He
         refine pm_Wg.path (k := 23) (ds := [1, 1]) (f' := (43, [some (.ref 64), some (.int l1), some (.int l2), some (.int (l3 + 1)), some (.int l4), some (.int ((((1000 * l4) + l1) - 1) / l1))], [], mo_h gx s gs q)) tk_X9_bound (by omega) rfl ⟨h18, b17, h16, pm_inb_vp b15, trivial⟩ ?_
         refine pm_Wg.weak (L := [some (.ref 64), some (.int l1), some (.int l2), some (.int (l3 + 1)), none, none]) rfl ⟨rfl, rfl, rfl, rfl, trivial⟩ ?_
         exact K1 _ _ _ _ hPe
       · rw [if_neg h18] at H
         have He := Option.some.inj H
         subst He
         refine pm_Wg.path (k := 24) (ds := [1, 0]) (f' := (43, [some (.ref 64), some (.int l1), some (.int ((((1000 * l4) + l1) - 1) / l1)), some (.int (l3 + 1)), some (.int l4), some (.int ((((1000 * l4) + l1) - 1) / l1))], [], mo_h gx s gs q)) tk_X9_bound (by omega) rfl ⟨h18, b17, h16, pm_inb_vp b15, trivial⟩ ?_
         refine pm_Wg.weak (L := [some (.ref 64), some (.int l1), some (.int ((((1000 * l4) + l1) - 1) / l1)), some (.int (l3 + 1)), none, none]) rfl ⟨rfl, rfl, rfl, rfl, trivial⟩ ?_
         exact K1 _ _ _ _ hPe
     · rw [if_neg h16] at H
       cases q20 : f_X9_isSurviving s l3 with
       | none => rw [q20] at H; cases H
       | some r19 =>
        rw [q20] at H
        dsimp only at H
        refine pm_Wg.path (k := 8) (ds := [0]) (f' := (70, [some (.ref 64), some (.int l1), some (.int l2), some (.int l3), some (.int l4), some (.int l5)], [.int l3, .ref 64], mo_h gx s gs q)) tk_X9_bound (by omega) rfl ⟨h16, pm_inb_vp b15, trivial⟩ ?_
        refine pm_Wg.callV (m' := 216) (ix := 276) (rr := 280) (pl := 1707) (b := 64) (As := [.int l3]) (S := []) (by decide) rfl (pm_dec tk_X9_bound rfl) rfl rfl (by decide) rfl rfl (by decide) (Nat.le_of_ble_eq_true rfl) rfl (e_X9_isSurviving d (by omega) gx gs q _ _ _ q20) ?_
        by_cases h21 : r19 = 0
        · rw [if_pos h21] at H
          by_cases b22 : l1 = 0
          · rw [if_pos b22] at H; cases H
          rw [if_neg b22] at H
          by_cases h23 : ((((1000 * l4) + l1) - 1) / l1) ≤ l2
          · rw [if_pos h23] at H
            have He := Option.some.inj H
            subst He
            refine pm_Wg.path (k := 18) (ds := [1, 1]) (f' := (43, [some (.ref 64), some (.int l1), some (.int l2), some (.int (l3 + 1)), some (.int l4), some (.int ((((1000 * l4) + l1) - 1) / l1))], [], mo_h gx s gs q)) tk_X9_bound (by omega) rfl ⟨h23, b22, h21, trivial⟩ ?_
            refine pm_Wg.weak (L := [some (.ref 64), some (.int l1), some (.int l2), some (.int (l3 + 1)), none, none]) rfl ⟨rfl, rfl, rfl, rfl, trivial⟩ ?_
            exact K1 _ _ _ _ hPe
          · rw [if_neg h23] at H
            have He := Option.some.inj H
            subst He
            refine pm_Wg.path (k := 19) (ds := [1, 0]) (f' := (43, [some (.ref 64), some (.int l1), some (.int ((((1000 * l4) + l1) - 1) / l1)), some (.int (l3 + 1)), some (.int l4), some (.int ((((1000 * l4) + l1) - 1) / l1))], [], mo_h gx s gs q)) tk_X9_bound (by omega) rfl ⟨h23, b22, h21, trivial⟩ ?_
            refine pm_Wg.weak (L := [some (.ref 64), some (.int l1), some (.int ((((1000 * l4) + l1) - 1) / l1)), some (.int (l3 + 1)), none, none]) rfl ⟨rfl, rfl, rfl, rfl, trivial⟩ ?_
            exact K1 _ _ _ _ hPe
        · rw [if_neg h21] at H
          cases q25 : f_X9_stateOf s l5 with
          | none => rw [q25] at H; cases H
          | some r24 =>
           rw [q25] at H
           dsimp only at H
           refine pm_Wg.path (k := 3) (ds := [0]) (f' := (79, [some (.ref 64), some (.int l1), some (.int l2), some (.int l3), some (.int l4), some (.int l5)], [.int l5, .ref 64], mo_h gx s gs q)) tk_X9_bound (by omega) rfl ⟨h21, trivial⟩ ?_
           refine pm_Wg.callV (m' := 219) (ix := 286) (rr := 278) (pl := 1699) (b := 64) (As := [.int l5]) (S := []) (by decide) rfl (pm_dec tk_X9_bound rfl) rfl rfl (by decide) rfl rfl (by decide) (Nat.le_of_ble_eq_true rfl) rfl (e_X9_stateOf d (by omega) gx gs q _ _ _ q25) ?_
           by_cases h26 : 1 < r24
           · rw [if_pos h26] at H
             refine pm_Wg.path (k := 6) (ds := [1]) (f' := (57, [some (.ref 64), some (.int l1), some (.int l2), some (.int l3), some (.int l4), some (.int (l5 + 1))], [], mo_h gx s gs q)) tk_X9_bound (by omega) rfl ⟨h26, trivial⟩ ?_
             exact ih _ _ _ _ _ _ e H hPe
           · rw [if_neg h26] at H
             cases q28 : f_X9_isHeldOn s l3 l5 with
             | none => rw [q28] at H; cases H
             | some r27 =>
              rw [q28] at H
              dsimp only at H
              refine pm_Wg.path (k := 5) (ds := [0]) (f' := (90, [some (.ref 64), some (.int l1), some (.int l2), some (.int l3), some (.int l4), some (.int l5)], [.int l5, .int l3, .ref 64], mo_h gx s gs q)) tk_X9_bound (by omega) rfl ⟨h26, trivial⟩ ?_
              refine pm_Wg.callV (m' := 217) (ix := 279) (rr := 281) (pl := 1711) (b := 64) (As := [.int l3, .int l5]) (S := []) (by decide) rfl (pm_dec tk_X9_bound rfl) rfl rfl (by decide) rfl rfl (by decide) (Nat.le_of_ble_eq_true rfl) rfl (e_X9_isHeldOn d (by omega) gx gs q _ _ _ _ q28) ?_
              by_cases h29 : r27 = 0
              · rw [if_pos h29] at H
                refine pm_Wg.path (k := 8) (ds := [0]) (f' := (57, [some (.ref 64), some (.int l1), some (.int l2), some (.int l3), some (.int (l4 + 1)), some (.int (l5 + 1))], [], mo_h gx s gs q)) tk_X9_bound (by omega) rfl ⟨h29, trivial⟩ ?_
                exact ih _ _ _ _ _ _ e H hPe
              · rw [if_neg h29] at H
                refine pm_Wg.path (k := 5) (ds := [1]) (f' := (57, [some (.ref 64), some (.int l1), some (.int l2), some (.int l3), some (.int l4), some (.int (l5 + 1))], [], mo_h gx s gs q)) tk_X9_bound (by omega) rfl ⟨h29, trivial⟩ ?_
                exact ih _ _ _ _ _ _ e H hPe
set_option maxRecDepth 20000 in
set_option maxHeartbeats 40000000 in
theorem ll_X9_bound_43 (d : Nat) (hd : 3 ≤ d) (gx : List pm_E) (gs : List (List pm_E)) (q : Nat × Nat × Nat) (r : Int32) (s1 : mo_S) (P : Int32 × mo_S → Prop) (K0 : ∀ e : Int32 × mo_S, P (e) → e = (r, s1)) : ∀ (n : Nat) (s : mo_S) (l1 : Int32) (l2 : Int32) (l3 : Int32) (e : Int32 × mo_S), pm_loop n lb_X9_bound_43 (s, l1, l2, l3) = some e → P e → pm_Wg 288 d (.inl (some (.int r))) (mo_h gx s1 gs q) (43, [some (.ref 64), some (.int l1), some (.int l2), some (.int l3), none, none], [], mo_h gx s gs q) := by
  intro n
  induction n with
  | zero => intro s l1 l2 l3 e H; cases H
  | succ n ih =>
    intro s l1 l2 l3 e H hPe
    obtain ⟨d, rfl⟩ : ∃ d', d = d' + 1 := ⟨d - 1, by omega⟩
    have H : pm_lst (pm_loop n lb_X9_bound_43) (lb_X9_bound_43 (s, l1, l2, l3)) = some e := H
    generalize pm_loop n lb_X9_bound_43 = LB at H ih
    unfold lb_X9_bound_43 at H
    try dsimp only at H
    cases q12 : f_X9_disks s with
    | none => rw [q12] at H; cases H
    | some r11 =>
     rw [q12] at H
     dsimp only at H
     refine pm_Wg.path (k := 2) (ds := []) (f' := (45, [some (.ref 64), some (.int l1), some (.int l2), some (.int l3), none, none], [.ref 64, .int l3], mo_h gx s gs q)) tk_X9_bound (by omega) rfl trivial ?_
     refine pm_Wg.callV (m' := 150) (ix := 55) (rr := 258) (pl := 1618) (b := 64) (As := []) (S := [.int l3]) (by decide) rfl (pm_dec tk_X9_bound rfl) rfl rfl (by decide) rfl rfl (by decide) (Nat.le_of_ble_eq_true rfl) rfl (e_X9_disks d (by omega) gx gs q _ _ q12) ?_
     by_cases h13 : r11 ≤ l3
     · rw [if_pos h13] at H
       cases b14 : pm_inb 0 18186 with
       | false => rw [b14] at H; cases H
       | true =>
        rw [b14] at H
        dsimp only at H
        have He := Option.some.inj H
        subst He
        have H := K0 _ hPe
        injection H with H1 H2
        subst H1
        subst H2
        refine pm_Wg.path (k := 7) (ds := [1]) (f' := (154, [some (.ref 64), some (.int l1), some (.int l2), some (.int l3), none, none], [.int ((s.2.2.1 3 (Int32.toNatClampNeg 0)) + l2)], mo_h gx s gs q)) tk_X9_bound (by omega) rfl ⟨pm_inb_vp b14, h13, trivial⟩ ?_
        exact pm_Wg.iret (pm_dec tk_X9_bound rfl) rfl rfl
     · rw [if_neg h13] at H
       cases q30 : pm_loop pm_fu lb_X9_bound_57 (s, l1, l2, l3, 0, 0) with
       | none => rw [q30] at H; cases H
       | some e9 =>
        rw [q30] at H
        try dsimp only at H
        refine pm_Wg.path (k := 5) (ds := [0]) (f' := (57, [some (.ref 64), some (.int l1), some (.int l2), some (.int l3), some (.int 0), some (.int 0)], [], mo_h gx s gs q)) tk_X9_bound (by omega) rfl ⟨h13, trivial⟩ ?_
        exact ll_X9_bound_57 (d + 1) (by omega) gx gs q r s1 (fun e9 => pm_lst LB (some (e9)) = some e) (fun _ _ _ _ hk => ih _ _ _ _ e hk hPe) (fun e0 hk => K0 e0 (Option.some.inj hk ▸ hPe)) pm_fu _ _ _ _ _ _ _ q30 H
set_option maxRecDepth 20000 in
set_option maxHeartbeats 20000000 in
theorem e_X9_bound (d : Nat) (hd : 3 ≤ d) (gx : List pm_E) (gs : List (List pm_E)) (q : Nat × Nat × Nat) (s : mo_S) (r : Int32) (s1 : mo_S) (H : f_X9_bound s = some (r, s1)) : pm_Mt 288 d [.ref 64] (mo_h gx s gs q) (.inl (some (.int r))) (mo_h gx s1 gs q) := by
  refine pm_Mt.of (by decide) (by decide +kernel) rfl rfl ?_
  obtain ⟨d, rfl⟩ : ∃ d', d = d' + 1 := ⟨d - 1, by omega⟩
  unfold f_X9_bound at H
  cases q2 : f_X9_isArray (mo_i s 2 0) with
  | none => rw [q2] at H; cases H
  | some r1 =>
   rw [q2] at H
   dsimp only at H
   refine pm_Wg.path (k := 4) (ds := []) (f' := (6, [some (.ref 64), none, none, none, none, none], [.ref 64], mo_h gx (mo_i s 2 0) gs q)) tk_X9_bound (by omega) rfl trivial ?_
   refine pm_Wg.callV (m' := 149) (ix := 51) (rr := 254) (pl := 1598) (b := 64) (As := []) (S := []) (by decide) rfl (pm_dec tk_X9_bound rfl) rfl rfl (by decide) rfl rfl (by decide) (Nat.le_of_ble_eq_true rfl) rfl (e_X9_isArray d (by omega) gx gs q _ _ q2) ?_
   by_cases h3 : r1 = 0
   · rw [if_pos h3] at H
     cases b4 : pm_inb 1 18186 with
     | false => rw [b4] at H; cases H
     | true =>
      rw [b4] at H
      dsimp only at H
      by_cases h5 : ((mo_i s 2 0).2.2.1 3 (Int32.toNatClampNeg 1)) = (-1)
      · rw [if_pos h5] at H
        injection H with H
        injection H with H1 H2
        subst H1
        subst H2
        refine pm_Wg.path (k := 10) (ds := [1, 1]) (f' := (38, [some (.ref 64), some (.int 0), none, none, none, none], [.int (-1)], mo_h gx (mo_i s 2 0) gs q)) tk_X9_bound (by omega) rfl ⟨h5, pm_inb_vp b4, h3, trivial⟩ ?_
        exact pm_Wg.iret (pm_dec tk_X9_bound rfl) rfl rfl
      · rw [if_neg h5] at H
        injection H with H
        injection H with H1 H2
        subst H1
        subst H2
        refine pm_Wg.path (k := 12) (ds := [1, 0, 0]) (f' := (38, [some (.ref 64), some (.int 0), none, none, none, none], [.int (-1)], mo_h gx (mo_i s 2 0) gs q)) tk_X9_bound (by omega) rfl ⟨(by decide), h5, pm_inb_vp b4, h3, trivial⟩ ?_
        exact pm_Wg.iret (pm_dec tk_X9_bound rfl) rfl rfl
   · rw [if_neg h3] at H
     cases q7 : f_X9_shareOf (mo_i s 2 0) 0 0 with
     | none => rw [q7] at H; cases H
     | some r6 =>
      rw [q7] at H
      dsimp only at H
      refine pm_Wg.path (k := 4) (ds := [0]) (f' := (15, [some (.ref 64), none, none, none, none, none], [.int 0, .int 0, .ref 64], mo_h gx (mo_i s 2 0) gs q)) tk_X9_bound (by omega) rfl ⟨h3, trivial⟩ ?_
      refine pm_Wg.callV (m' := 157) (ix := 221) (rr := 272) (pl := 1675) (b := 64) (As := [.int 0, .int 0]) (S := []) (by decide) rfl (pm_dec tk_X9_bound rfl) rfl rfl (by decide) rfl rfl (by decide) (Nat.le_of_ble_eq_true rfl) rfl (e_X9_shareOf d (by omega) gx gs q _ _ _ _ q7) ?_
      cases b8 : pm_inb 1 18186 with
      | false => rw [b8] at H; cases H
      | true =>
       rw [b8] at H
       dsimp only at H
       by_cases h9 : ((mo_i s 2 0).2.2.1 3 (Int32.toNatClampNeg 1)) = (-1)
       · rw [if_pos h9] at H
         injection H with H
         injection H with H1 H2
         subst H1
         subst H2
         refine pm_Wg.path (k := 9) (ds := [1]) (f' := (38, [some (.ref 64), some (.int r6), none, none, none, none], [.int (-1)], mo_h gx (mo_i s 2 0) gs q)) tk_X9_bound (by omega) rfl ⟨h9, pm_inb_vp b8, trivial⟩ ?_
         exact pm_Wg.iret (pm_dec tk_X9_bound rfl) rfl rfl
       · rw [if_neg h9] at H
         by_cases h10 : r6 = 0
         · rw [if_pos h10] at H
           injection H with H
           injection H with H1 H2
           subst H1
           subst H2
           refine pm_Wg.path (k := 11) (ds := [0, 0]) (f' := (38, [some (.ref 64), some (.int r6), none, none, none, none], [.int (-1)], mo_h gx (mo_i s 2 0) gs q)) tk_X9_bound (by omega) rfl ⟨h10, h9, pm_inb_vp b8, trivial⟩ ?_
           exact pm_Wg.iret (pm_dec tk_X9_bound rfl) rfl rfl
         · rw [if_neg h10] at H
           refine pm_Wg.path (k := 14) (ds := [0, 1]) (f' := (43, [some (.ref 64), some (.int r6), some (.int 0), some (.int 0), none, none], [], mo_h gx (mo_i s 2 0) gs q)) tk_X9_bound (by omega) rfl ⟨h10, h9, pm_inb_vp b8, trivial⟩ ?_
           exact ll_X9_bound_43 (d + 1) (by omega) gx gs q r s1 (fun e => e = (r, s1)) (fun e he => he) pm_fu _ _ _ _ _ H rfl

def f_X9_feed (s : mo_S) (a0 : Int32) (a1 : Int32) (a2 : Int32) (a3 : Int32) (a4 : Int32) : Option (Int32 × mo_S) :=
  (if (((mo_i s 2 0).1 8) + 20) ≤ 800 then
   (match f_X9_append (mo_i s 2 0) a0 with
   | none => none
   | some s2 =>
    (match f_X9_append s2 a1 with
    | none => none
    | some s4 =>
     (match f_X9_append s4 a2 with
     | none => none
     | some s6 =>
      (match f_X9_append s6 a3 with
      | none => none
      | some s8 =>
       (match f_X9_append s8 a4 with
       | none => none
       | some s10 =>
        some ((s10.1 8), s10))))))
  else
   (match f_X9_refuse (mo_i s 2 0) 1 with
   | none => none
   | some (r12, s13) =>
    some (r12, s13)))
def tb_X9_feed : List pm_I := [(0, .aload_n 0, 0, 0), (1, .iconst 0, 2, 0), (2, .putfield 45, 161, 0), (5, .aload_n 0, 0, 0), (6, .getfield 66, 167, 0), (9, .bipush 20, 15, 0), (11, .iadd, 0, 0), (12, .sipush 800, 38, 0), (15, .if_icmp .le 9, 24, 0), (18, .aload_n 0, 0, 0), (19, .iconst 1, 3, 0), (20, .invokevirtual 69, 227, 0), (23, .ireturn, 0, 0), (24, .aload_n 0, 0, 0), (25, .iload_n 1, 0, 0), (26, .invokevirtual 73, 228, 0), (29, .aload_n 0, 0, 0), (30, .iload_n 2, 0, 0), (31, .invokevirtual 73, 228, 0), (34, .aload_n 0, 0, 0), (35, .iload_n 3, 0, 0), (36, .invokevirtual 73, 228, 0), (39, .aload_n 0, 0, 0), (40, .iload 4, 0, 0), (42, .invokevirtual 73, 228, 0), (45, .aload_n 0, 0, 0), (46, .iload 5, 0, 0), (48, .invokevirtual 73, 228, 0), (51, .aload_n 0, 0, 0), (52, .getfield 66, 167, 0), (55, .ireturn, 0, 0)]
theorem tk_X9_feed : ∀ e ∈ tb_X9_feed, pm_ck 158 e = true := List.all_eq_true.mp (by decide +kernel)
set_option maxRecDepth 20000 in
set_option maxHeartbeats 20000000 in
theorem e_X9_feed (d : Nat) (hd : 2 ≤ d) (gx : List pm_E) (gs : List (List pm_E)) (q : Nat × Nat × Nat) (s : mo_S) (a0 : Int32) (a1 : Int32) (a2 : Int32) (a3 : Int32) (a4 : Int32) (r : Int32) (s1 : mo_S) (H : f_X9_feed s a0 a1 a2 a3 a4 = some (r, s1)) : pm_Mt 158 d [.ref 64, .int a0, .int a1, .int a2, .int a3, .int a4] (mo_h gx s gs q) (.inl (some (.int r))) (mo_h gx s1 gs q) := by
  refine pm_Mt.of (by decide) (by decide +kernel) rfl rfl ?_
  obtain ⟨d, rfl⟩ : ∃ d', d = d' + 1 := ⟨d - 1, by omega⟩
  unfold f_X9_feed at H
  by_cases h1 : (((mo_i s 2 0).1 8) + 20) ≤ 800
  · rw [if_pos h1] at H
    cases q3 : f_X9_append (mo_i s 2 0) a0 with
    | none => rw [q3] at H; cases H
    | some s2 =>
     rw [q3] at H
     dsimp only at H
     refine pm_Wg.path (k := 11) (ds := [1]) (f' := (26, [some (.ref 64), some (.int a0), some (.int a1), some (.int a2), some (.int a3), some (.int a4)], [.int a0, .ref 64], mo_h gx (mo_i s 2 0) gs q)) tk_X9_feed (by omega) rfl ⟨h1, trivial⟩ ?_
     refine pm_Wg.callV (m' := 159) (ix := 73) (rr := 228) (pl := 1487) (b := 64) (As := [.int a0]) (S := []) (by decide) rfl (pm_dec tk_X9_feed rfl) rfl rfl (by decide) rfl rfl (by decide) (Nat.le_of_ble_eq_true rfl) rfl (e_X9_append d (by omega) gx gs q _ _ _ q3) ?_
     cases q5 : f_X9_append s2 a1 with
     | none => rw [q5] at H; cases H
     | some s4 =>
      rw [q5] at H
      dsimp only at H
      refine pm_Wg.path (k := 2) (ds := []) (f' := (31, [some (.ref 64), some (.int a0), some (.int a1), some (.int a2), some (.int a3), some (.int a4)], [.int a1, .ref 64], mo_h gx s2 gs q)) tk_X9_feed (by omega) rfl trivial ?_
      refine pm_Wg.callV (m' := 159) (ix := 73) (rr := 228) (pl := 1487) (b := 64) (As := [.int a1]) (S := []) (by decide) rfl (pm_dec tk_X9_feed rfl) rfl rfl (by decide) rfl rfl (by decide) (Nat.le_of_ble_eq_true rfl) rfl (e_X9_append d (by omega) gx gs q _ _ _ q5) ?_
      cases q7 : f_X9_append s4 a2 with
      | none => rw [q7] at H; cases H
      | some s6 =>
       rw [q7] at H
       dsimp only at H
       refine pm_Wg.path (k := 2) (ds := []) (f' := (36, [some (.ref 64), some (.int a0), some (.int a1), some (.int a2), some (.int a3), some (.int a4)], [.int a2, .ref 64], mo_h gx s4 gs q)) tk_X9_feed (by omega) rfl trivial ?_
       refine pm_Wg.callV (m' := 159) (ix := 73) (rr := 228) (pl := 1487) (b := 64) (As := [.int a2]) (S := []) (by decide) rfl (pm_dec tk_X9_feed rfl) rfl rfl (by decide) rfl rfl (by decide) (Nat.le_of_ble_eq_true rfl) rfl (e_X9_append d (by omega) gx gs q _ _ _ q7) ?_
       cases q9 : f_X9_append s6 a3 with
       | none => rw [q9] at H; cases H
       | some s8 =>
        rw [q9] at H
        dsimp only at H
        refine pm_Wg.path (k := 2) (ds := []) (f' := (42, [some (.ref 64), some (.int a0), some (.int a1), some (.int a2), some (.int a3), some (.int a4)], [.int a3, .ref 64], mo_h gx s6 gs q)) tk_X9_feed (by omega) rfl trivial ?_
        refine pm_Wg.callV (m' := 159) (ix := 73) (rr := 228) (pl := 1487) (b := 64) (As := [.int a3]) (S := []) (by decide) rfl (pm_dec tk_X9_feed rfl) rfl rfl (by decide) rfl rfl (by decide) (Nat.le_of_ble_eq_true rfl) rfl (e_X9_append d (by omega) gx gs q _ _ _ q9) ?_
        cases q11 : f_X9_append s8 a4 with
        | none => rw [q11] at H; cases H
        | some s10 =>
         rw [q11] at H
         dsimp only at H
         refine pm_Wg.path (k := 2) (ds := []) (f' := (48, [some (.ref 64), some (.int a0), some (.int a1), some (.int a2), some (.int a3), some (.int a4)], [.int a4, .ref 64], mo_h gx s8 gs q)) tk_X9_feed (by omega) rfl trivial ?_
         refine pm_Wg.callV (m' := 159) (ix := 73) (rr := 228) (pl := 1487) (b := 64) (As := [.int a4]) (S := []) (by decide) rfl (pm_dec tk_X9_feed rfl) rfl rfl (by decide) rfl rfl (by decide) (Nat.le_of_ble_eq_true rfl) rfl (e_X9_append d (by omega) gx gs q _ _ _ q11) ?_
         injection H with H
         injection H with H1 H2
         subst H1
         subst H2
         refine pm_Wg.path (k := 2) (ds := []) (f' := (55, [some (.ref 64), some (.int a0), some (.int a1), some (.int a2), some (.int a3), some (.int a4)], [.int (s10.1 8)], mo_h gx s10 gs q)) tk_X9_feed (by omega) rfl trivial ?_
         exact pm_Wg.iret (pm_dec tk_X9_feed rfl) rfl rfl
  · rw [if_neg h1] at H
    cases q14 : f_X9_refuse (mo_i s 2 0) 1 with
    | none => rw [q14] at H; cases H
    | some w =>
     obtain ⟨r12, s13⟩ := w
     rw [q14] at H
     dsimp only at H
     refine pm_Wg.path (k := 11) (ds := [0]) (f' := (20, [some (.ref 64), some (.int a0), some (.int a1), some (.int a2), some (.int a3), some (.int a4)], [.int 1, .ref 64], mo_h gx (mo_i s 2 0) gs q)) tk_X9_feed (by omega) rfl ⟨h1, trivial⟩ ?_
     refine pm_Wg.callV (m' := 145) (ix := 69) (rr := 227) (pl := 1483) (b := 64) (As := [.int 1]) (S := []) (by decide) rfl (pm_dec tk_X9_feed rfl) rfl rfl (by decide) rfl rfl (by decide) (Nat.le_of_ble_eq_true rfl) rfl (e_X9_refuse d (by omega) gx gs q _ _ _ _ q14) ?_
     injection H with H
     injection H with H1 H2
     subst H1
     subst H2
     exact pm_Wg.iret (pm_dec tk_X9_feed rfl) rfl rfl
