/-! The reference's methods with loops, and what stands on them, by program (wip/whole/dec2.py). -/
def lb_X9_begin_163 (x : mo_S × Int32) : Option ((mo_S × Int32) ⊕ (mo_S)) := match x with
  | (s, l1) =>
   (if 2200 ≤ l1 then
    some (.inr (mo_i s 19 0))
   else
    (if 2200 ≤ (l1 + 1) then
     (match pm_inb ((2786 + (7 * l1)) + 5) 18186 with
     | false => none
     | true =>
     some (.inl ((mo_a s 3 ((2786 + (7 * l1)) + 5) (-1)), (l1 + 1))))
    else
     (match pm_inb ((2786 + (7 * l1)) + 5) 18186 with
     | false => none
     | true =>
     some (.inl ((mo_a s 3 ((2786 + (7 * l1)) + 5) (l1 + 1)), (l1 + 1))))))
def lb_X9_begin_133 (x : mo_S × Int32) : Option ((mo_S × Int32) ⊕ (mo_S)) := match x with
  | (s, l1) =>
   (if 6 ≤ l1 then
    (match pm_loop pm_fu lb_X9_begin_163 (s, 0) with
    | none => none
    | some e => some (.inr e))
   else
    (match pm_inb ((2744 + (7 * l1)) + 2) 18186 with
    | false => none
    | true =>
    some (.inl ((mo_a s 3 ((2744 + (7 * l1)) + 2) (-1)), (l1 + 1)))))
def lb_X9_begin_89 (x : mo_S × Int32) : Option ((mo_S × Int32) ⊕ (mo_S)) := match x with
  | (s, l1) =>
   (if 42 ≤ l1 then
    (match pm_loop pm_fu lb_X9_begin_133 (s, 0) with
    | none => none
    | some e => some (.inr e))
   else
    (match pm_inb ((44 + (6 * l1)) + 0) 18186 with
    | false => none
    | true =>
    (match pm_inb ((44 + (6 * l1)) + 1) 18186 with
    | false => none
    | true =>
    some (.inl ((mo_a (mo_a s 3 ((44 + (6 * l1)) + 0) (-1)) 3 ((44 + (6 * l1)) + 1) (-1)), (l1 + 1))))))
def lb_X9_begin_47 (x : mo_S × Int32) : Option ((mo_S × Int32) ⊕ (mo_S)) := match x with
  | (s, l1) =>
   (if 7 ≤ l1 then
    (match pm_loop pm_fu lb_X9_begin_89 (s, 0) with
    | none => none
    | some e => some (.inr e))
   else
    (match pm_inb ((16 + (4 * l1)) + 0) 18186 with
    | false => none
    | true =>
    (match pm_inb ((16 + (4 * l1)) + 1) 18186 with
    | false => none
    | true =>
    some (.inl ((mo_a (mo_a s 3 ((16 + (4 * l1)) + 0) (-1)) 3 ((16 + (4 * l1)) + 1) (-1)), (l1 + 1))))))
def lb_X9_begin_2 (x : mo_S × Int32) : Option ((mo_S × Int32) ⊕ (mo_S)) := match x with
  | (s, l1) =>
   (if 18186 ≤ l1 then
    (match pm_inb 1 18186 with
    | false => none
    | true =>
    (match pm_inb 7 18186 with
    | false => none
    | true =>
    (match pm_inb 10 18186 with
    | false => none
    | true =>
    (match pm_loop pm_fu lb_X9_begin_47 ((mo_a (mo_a (mo_a s 3 1 (-1)) 3 7 (-1)) 3 10 (-1)), 0) with
    | none => none
    | some e => some (.inr e)))))
   else
    (match pm_inb l1 18186 with
    | false => none
    | true =>
    some (.inl ((mo_a s 3 l1 0), (l1 + 1)))))
def f_X9_begin (s : mo_S) : Option mo_S :=
  (pm_loop pm_fu lb_X9_begin_2 (s, 0))
def tb_X9_begin : List pm_I := [(0, .iconst 0, 2, 0), (1, .istore_n 1, 0, 0), (2, .iload_n 1, 0, 0), (3, .sipush 18186, 47, 0), (6, .if_icmp .ge 16, 22, 0), (9, .aload_n 0, 0, 0), (10, .getfield 16, 162, 0), (13, .iload_n 1, 0, 0), (14, .iconst 0, 2, 0), (15, .iastore, 0, 0), (16, .iinc 1 1, 3, 0), (19, .goto (-17), 2, 0), (22, .aload_n 0, 0, 0), (23, .getfield 16, 162, 0), (26, .iconst 1, 3, 0), (27, .iconst (-1), 1, 0), (28, .iastore, 0, 0), (29, .aload_n 0, 0, 0), (30, .getfield 16, 162, 0), (33, .bipush 7, 9, 0), (35, .iconst (-1), 1, 0), (36, .iastore, 0, 0), (37, .aload_n 0, 0, 0), (38, .getfield 16, 162, 0), (41, .bipush 10, 12, 0), (43, .iconst (-1), 1, 0), (44, .iastore, 0, 0), (45, .iconst 0, 2, 0), (46, .istore_n 1, 0, 0), (47, .iload_n 1, 0, 0), (48, .bipush 7, 9, 0), (50, .if_icmp .ge 37, 87, 0), (53, .aload_n 0, 0, 0), (54, .getfield 16, 162, 0), (57, .bipush 16, 13, 0), (59, .iconst 4, 6, 0), (60, .iload_n 1, 0, 0), (61, .imul, 0, 0), (62, .iadd, 0, 0), (63, .iconst 0, 2, 0), (64, .iadd, 0, 0), (65, .iconst (-1), 1, 0), (66, .iastore, 0, 0), (67, .aload_n 0, 0, 0), (68, .getfield 16, 162, 0), (71, .bipush 16, 13, 0), (73, .iconst 4, 6, 0), (74, .iload_n 1, 0, 0), (75, .imul, 0, 0), (76, .iadd, 0, 0), (77, .iconst 1, 3, 0), (78, .iadd, 0, 0), (79, .iconst (-1), 1, 0), (80, .iastore, 0, 0), (81, .iinc 1 1, 3, 0), (84, .goto (-37), 47, 0), (87, .iconst 0, 2, 0), (88, .istore_n 1, 0, 0), (89, .iload_n 1, 0, 0), (90, .bipush 42, 19, 0), (92, .if_icmp .ge 39, 131, 0), (95, .aload_n 0, 0, 0), (96, .getfield 16, 162, 0), (99, .bipush 44, 20, 0), (101, .bipush 6, 8, 0), (103, .iload_n 1, 0, 0), (104, .imul, 0, 0), (105, .iadd, 0, 0), (106, .iconst 0, 2, 0), (107, .iadd, 0, 0), (108, .iconst (-1), 1, 0), (109, .iastore, 0, 0), (110, .aload_n 0, 0, 0), (111, .getfield 16, 162, 0), (114, .bipush 44, 20, 0), (116, .bipush 6, 8, 0), (118, .iload_n 1, 0, 0), (119, .imul, 0, 0), (120, .iadd, 0, 0), (121, .iconst 1, 3, 0), (122, .iadd, 0, 0), (123, .iconst (-1), 1, 0), (124, .iastore, 0, 0), (125, .iinc 1 1, 3, 0), (128, .goto (-39), 89, 0), (131, .iconst 0, 2, 0), (132, .istore_n 1, 0, 0), (133, .iload_n 1, 0, 0), (134, .bipush 6, 8, 0), (136, .if_icmp .ge 25, 161, 0), (139, .aload_n 0, 0, 0), (140, .getfield 16, 162, 0), (143, .sipush 2744, 42, 0), (146, .bipush 7, 9, 0), (148, .iload_n 1, 0, 0), (149, .imul, 0, 0), (150, .iadd, 0, 0), (151, .iconst 2, 4, 0), (152, .iadd, 0, 0), (153, .iconst (-1), 1, 0), (154, .iastore, 0, 0), (155, .iinc 1 1, 3, 0), (158, .goto (-25), 133, 0), (161, .iconst 0, 2, 0), (162, .istore_n 1, 0, 0), (163, .iload_n 1, 0, 0), (164, .sipush 2200, 41, 0), (167, .if_icmp .ge 40, 207, 0), (170, .aload_n 0, 0, 0), (171, .getfield 16, 162, 0), (174, .sipush 2786, 43, 0), (177, .bipush 7, 9, 0), (179, .iload_n 1, 0, 0), (180, .imul, 0, 0), (181, .iadd, 0, 0), (182, .iconst 5, 7, 0), (183, .iadd, 0, 0), (184, .iload_n 1, 0, 0), (185, .iconst 1, 3, 0), (186, .iadd, 0, 0), (187, .sipush 2200, 41, 0), (190, .if_icmp .ge 9, 199, 0), (193, .iload_n 1, 0, 0), (194, .iconst 1, 3, 0), (195, .iadd, 0, 0), (196, .goto 4, 200, 0), (199, .iconst (-1), 1, 0), (200, .iastore, 0, 0), (201, .iinc 1 1, 3, 0), (204, .goto (-41), 163, 0), (207, .aload_n 0, 0, 0), (208, .iconst 0, 2, 0), (209, .putfield 48, 178, 0), (212, .return_, 0, 0)]
theorem tk_X9_begin : ∀ e ∈ tb_X9_begin, pm_ck 148 e = true := List.all_eq_true.mp (by decide +kernel)
set_option maxRecDepth 20000 in
set_option maxHeartbeats 40000000 in
theorem ll_X9_begin_163 (d : Nat) (hd : 1 ≤ d) (gx : List pm_E) (gs : List (List pm_E)) (q : Nat × Nat × Nat) (s1 : mo_S) (P : mo_S → Prop) (K0 : ∀ e : mo_S, P (e) → e = s1) : ∀ (n : Nat) (s : mo_S) (l1 : Int32) (e : mo_S), pm_loop n lb_X9_begin_163 (s, l1) = some e → P e → pm_Wg 148 d (.inl (none)) (mo_h gx s1 gs q) (163, [some (.ref 64), some (.int l1)], [], mo_h gx s gs q) := by
  intro n
  induction n with
  | zero => intro s l1 e H; cases H
  | succ n ih =>
    intro s l1 e H hPe
    unfold pm_loop lb_X9_begin_163 at H
    try dsimp only at H
    by_cases h14 : 2200 ≤ l1
    · rw [if_pos h14] at H
      have He := Option.some.inj H
      subst He
      have H := K0 _ hPe
      subst H
      refine pm_Wg.path (k := 6) (ds := [1]) (f' := (212, [some (.ref 64), some (.int l1)], [], mo_h gx (mo_i s 19 0) gs q)) tk_X9_begin (by omega) rfl ⟨h14, trivial⟩ ?_
      exact pm_Wg.vret (pm_dec tk_X9_begin rfl) rfl
    · rw [if_neg h14] at H
      by_cases h15 : 2200 ≤ (l1 + 1)
      · rw [if_pos h15] at H
        cases b16 : pm_inb ((2786 + (7 * l1)) + 5) 18186 with
        | false => rw [b16] at H; cases H
        | true =>
         rw [b16] at H
         dsimp only at H
         refine pm_Wg.path (k := 21) (ds := [0, 1]) (f' := (163, [some (.ref 64), some (.int (l1 + 1))], [], mo_h gx (mo_a s 3 ((2786 + (7 * l1)) + 5) (-1)) gs q)) tk_X9_begin (by omega) rfl ⟨pm_inb_vp b16, h15, h14, trivial⟩ ?_
         exact ih _ _ e H hPe
      · rw [if_neg h15] at H
        cases b17 : pm_inb ((2786 + (7 * l1)) + 5) 18186 with
        | false => rw [b17] at H; cases H
        | true =>
         rw [b17] at H
         dsimp only at H
         refine pm_Wg.path (k := 24) (ds := [0, 0]) (f' := (163, [some (.ref 64), some (.int (l1 + 1))], [], mo_h gx (mo_a s 3 ((2786 + (7 * l1)) + 5) (l1 + 1)) gs q)) tk_X9_begin (by omega) rfl ⟨pm_inb_vp b17, h15, h14, trivial⟩ ?_
         exact ih _ _ e H hPe
set_option maxRecDepth 20000 in
set_option maxHeartbeats 40000000 in
theorem ll_X9_begin_133 (d : Nat) (hd : 1 ≤ d) (gx : List pm_E) (gs : List (List pm_E)) (q : Nat × Nat × Nat) (s1 : mo_S) (P : mo_S → Prop) (K0 : ∀ e : mo_S, P (e) → e = s1) : ∀ (n : Nat) (s : mo_S) (l1 : Int32) (e : mo_S), pm_loop n lb_X9_begin_133 (s, l1) = some e → P e → pm_Wg 148 d (.inl (none)) (mo_h gx s1 gs q) (133, [some (.ref 64), some (.int l1)], [], mo_h gx s gs q) := by
  intro n
  induction n with
  | zero => intro s l1 e H; cases H
  | succ n ih =>
    intro s l1 e H hPe
    unfold pm_loop lb_X9_begin_133 at H
    try dsimp only at H
    by_cases h12 : 6 ≤ l1
    · rw [if_pos h12] at H
      cases q18 : pm_loop pm_fu lb_X9_begin_163 (s, 0) with
      | none => rw [q18] at H; cases H
      | some e9 =>
       rw [q18] at H
       try dsimp only at H
       refine pm_Wg.path (k := 5) (ds := [1]) (f' := (163, [some (.ref 64), some (.int 0)], [], mo_h gx s gs q)) tk_X9_begin (by omega) rfl ⟨h12, trivial⟩ ?_
       exact ll_X9_begin_163 d (by omega) gx gs q s1 (fun e9 => pm_lst (pm_loop n lb_X9_begin_133) (some (.inr e9)) = some e) (fun e0 hk => K0 e0 (Option.some.inj hk ▸ hPe)) pm_fu _ _ _ q18 H
    · rw [if_neg h12] at H
      cases b13 : pm_inb ((2744 + (7 * l1)) + 2) 18186 with
      | false => rw [b13] at H; cases H
      | true =>
       rw [b13] at H
       dsimp only at H
       refine pm_Wg.path (k := 16) (ds := [0]) (f' := (133, [some (.ref 64), some (.int (l1 + 1))], [], mo_h gx (mo_a s 3 ((2744 + (7 * l1)) + 2) (-1)) gs q)) tk_X9_begin (by omega) rfl ⟨pm_inb_vp b13, h12, trivial⟩ ?_
       exact ih _ _ e H hPe
set_option maxRecDepth 20000 in
set_option maxHeartbeats 40000000 in
theorem ll_X9_begin_89 (d : Nat) (hd : 1 ≤ d) (gx : List pm_E) (gs : List (List pm_E)) (q : Nat × Nat × Nat) (s1 : mo_S) (P : mo_S → Prop) (K0 : ∀ e : mo_S, P (e) → e = s1) : ∀ (n : Nat) (s : mo_S) (l1 : Int32) (e : mo_S), pm_loop n lb_X9_begin_89 (s, l1) = some e → P e → pm_Wg 148 d (.inl (none)) (mo_h gx s1 gs q) (89, [some (.ref 64), some (.int l1)], [], mo_h gx s gs q) := by
  intro n
  induction n with
  | zero => intro s l1 e H; cases H
  | succ n ih =>
    intro s l1 e H hPe
    unfold pm_loop lb_X9_begin_89 at H
    try dsimp only at H
    by_cases h9 : 42 ≤ l1
    · rw [if_pos h9] at H
      cases q19 : pm_loop pm_fu lb_X9_begin_133 (s, 0) with
      | none => rw [q19] at H; cases H
      | some e9 =>
       rw [q19] at H
       try dsimp only at H
       refine pm_Wg.path (k := 5) (ds := [1]) (f' := (133, [some (.ref 64), some (.int 0)], [], mo_h gx s gs q)) tk_X9_begin (by omega) rfl ⟨h9, trivial⟩ ?_
       exact ll_X9_begin_133 d (by omega) gx gs q s1 (fun e9 => pm_lst (pm_loop n lb_X9_begin_89) (some (.inr e9)) = some e) (fun e0 hk => K0 e0 (Option.some.inj hk ▸ hPe)) pm_fu _ _ _ q19 H
    · rw [if_neg h9] at H
      cases b10 : pm_inb ((44 + (6 * l1)) + 0) 18186 with
      | false => rw [b10] at H; cases H
      | true =>
       rw [b10] at H
       dsimp only at H
       cases b11 : pm_inb ((44 + (6 * l1)) + 1) 18186 with
       | false => rw [b11] at H; cases H
       | true =>
        rw [b11] at H
        dsimp only at H
        refine pm_Wg.path (k := 27) (ds := [0]) (f' := (89, [some (.ref 64), some (.int (l1 + 1))], [], mo_h gx (mo_a (mo_a s 3 ((44 + (6 * l1)) + 0) (-1)) 3 ((44 + (6 * l1)) + 1) (-1)) gs q)) tk_X9_begin (by omega) rfl ⟨pm_inb_vp b11, pm_inb_vp b10, h9, trivial⟩ ?_
        exact ih _ _ e H hPe
set_option maxRecDepth 20000 in
set_option maxHeartbeats 40000000 in
theorem ll_X9_begin_47 (d : Nat) (hd : 1 ≤ d) (gx : List pm_E) (gs : List (List pm_E)) (q : Nat × Nat × Nat) (s1 : mo_S) (P : mo_S → Prop) (K0 : ∀ e : mo_S, P (e) → e = s1) : ∀ (n : Nat) (s : mo_S) (l1 : Int32) (e : mo_S), pm_loop n lb_X9_begin_47 (s, l1) = some e → P e → pm_Wg 148 d (.inl (none)) (mo_h gx s1 gs q) (47, [some (.ref 64), some (.int l1)], [], mo_h gx s gs q) := by
  intro n
  induction n with
  | zero => intro s l1 e H; cases H
  | succ n ih =>
    intro s l1 e H hPe
    unfold pm_loop lb_X9_begin_47 at H
    try dsimp only at H
    by_cases h6 : 7 ≤ l1
    · rw [if_pos h6] at H
      cases q20 : pm_loop pm_fu lb_X9_begin_89 (s, 0) with
      | none => rw [q20] at H; cases H
      | some e9 =>
       rw [q20] at H
       try dsimp only at H
       refine pm_Wg.path (k := 5) (ds := [1]) (f' := (89, [some (.ref 64), some (.int 0)], [], mo_h gx s gs q)) tk_X9_begin (by omega) rfl ⟨h6, trivial⟩ ?_
       exact ll_X9_begin_89 d (by omega) gx gs q s1 (fun e9 => pm_lst (pm_loop n lb_X9_begin_47) (some (.inr e9)) = some e) (fun e0 hk => K0 e0 (Option.some.inj hk ▸ hPe)) pm_fu _ _ _ q20 H
    · rw [if_neg h6] at H
      cases b7 : pm_inb ((16 + (4 * l1)) + 0) 18186 with
      | false => rw [b7] at H; cases H
      | true =>
       rw [b7] at H
       dsimp only at H
       cases b8 : pm_inb ((16 + (4 * l1)) + 1) 18186 with
       | false => rw [b8] at H; cases H
       | true =>
        rw [b8] at H
        dsimp only at H
        refine pm_Wg.path (k := 27) (ds := [0]) (f' := (47, [some (.ref 64), some (.int (l1 + 1))], [], mo_h gx (mo_a (mo_a s 3 ((16 + (4 * l1)) + 0) (-1)) 3 ((16 + (4 * l1)) + 1) (-1)) gs q)) tk_X9_begin (by omega) rfl ⟨pm_inb_vp b8, pm_inb_vp b7, h6, trivial⟩ ?_
        exact ih _ _ e H hPe
set_option maxRecDepth 20000 in
set_option maxHeartbeats 40000000 in
theorem ll_X9_begin_2 (d : Nat) (hd : 1 ≤ d) (gx : List pm_E) (gs : List (List pm_E)) (q : Nat × Nat × Nat) (s1 : mo_S) (P : mo_S → Prop) (K0 : ∀ e : mo_S, P (e) → e = s1) : ∀ (n : Nat) (s : mo_S) (l1 : Int32) (e : mo_S), pm_loop n lb_X9_begin_2 (s, l1) = some e → P e → pm_Wg 148 d (.inl (none)) (mo_h gx s1 gs q) (2, [some (.ref 64), some (.int l1)], [], mo_h gx s gs q) := by
  intro n
  induction n with
  | zero => intro s l1 e H; cases H
  | succ n ih =>
    intro s l1 e H hPe
    unfold pm_loop lb_X9_begin_2 at H
    try dsimp only at H
    by_cases h1 : 18186 ≤ l1
    · rw [if_pos h1] at H
      cases b2 : pm_inb 1 18186 with
      | false => rw [b2] at H; cases H
      | true =>
       rw [b2] at H
       dsimp only at H
       cases b3 : pm_inb 7 18186 with
       | false => rw [b3] at H; cases H
       | true =>
        rw [b3] at H
        dsimp only at H
        cases b4 : pm_inb 10 18186 with
        | false => rw [b4] at H; cases H
        | true =>
         rw [b4] at H
         dsimp only at H
         cases q21 : pm_loop pm_fu lb_X9_begin_47 ((mo_a (mo_a (mo_a s 3 1 (-1)) 3 7 (-1)) 3 10 (-1)), 0) with
         | none => rw [q21] at H; cases H
         | some e9 =>
          rw [q21] at H
          try dsimp only at H
          refine pm_Wg.path (k := 20) (ds := [1]) (f' := (47, [some (.ref 64), some (.int 0)], [], mo_h gx (mo_a (mo_a (mo_a s 3 1 (-1)) 3 7 (-1)) 3 10 (-1)) gs q)) tk_X9_begin (by omega) rfl ⟨pm_inb_vp b4, pm_inb_vp b3, pm_inb_vp b2, h1, trivial⟩ ?_
          exact ll_X9_begin_47 d (by omega) gx gs q s1 (fun e9 => pm_lst (pm_loop n lb_X9_begin_2) (some (.inr e9)) = some e) (fun e0 hk => K0 e0 (Option.some.inj hk ▸ hPe)) pm_fu _ _ _ q21 H
    · rw [if_neg h1] at H
      cases b5 : pm_inb l1 18186 with
      | false => rw [b5] at H; cases H
      | true =>
       rw [b5] at H
       dsimp only at H
       refine pm_Wg.path (k := 10) (ds := [0]) (f' := (2, [some (.ref 64), some (.int (l1 + 1))], [], mo_h gx (mo_a s 3 l1 0) gs q)) tk_X9_begin (by omega) rfl ⟨pm_inb_vp b5, h1, trivial⟩ ?_
       exact ih _ _ e H hPe
set_option maxRecDepth 20000 in
set_option maxHeartbeats 20000000 in
theorem e_X9_begin (d : Nat) (hd : 1 ≤ d) (gx : List pm_E) (gs : List (List pm_E)) (q : Nat × Nat × Nat) (s : mo_S) (s1 : mo_S) (H : f_X9_begin s = some s1) : pm_Mt 148 d [.ref 64] (mo_h gx s gs q) (.inl (none)) (mo_h gx s1 gs q) := by
  refine pm_Mt.of (by decide) (by decide +kernel) rfl rfl ?_
  unfold f_X9_begin at H
  refine pm_Wg.path (k := 2) (ds := []) (f' := (2, [some (.ref 64), some (.int 0)], [], mo_h gx s gs q)) tk_X9_begin (by omega) rfl trivial ?_
  exact ll_X9_begin_2 d (by omega) gx gs q s1 (fun e => e = s1) (fun e he => he) pm_fu _ _ _ H rfl

def lb_X9_append_3 (x : mo_S × Int32 × Int32) : Option ((mo_S × Int32 × Int32) ⊕ (mo_S)) := match x with
  | (s, l1, l2) =>
   (if l2 < 0 then
    some (.inr s)
   else
    (match pm_inb (s.1 8) 800 with
    | false => none
    | true =>
    some (.inl ((mo_i (mo_a s 7 (s.1 8) ((l1 >>> (l2 &&& 31)) &&& 255)) 8 (((mo_a s 7 (s.1 8) ((l1 >>> (l2 &&& 31)) &&& 255)).1 8) + 1)), l1, (l2 - 8)))))
def f_X9_append (s : mo_S) (a0 : Int32) : Option mo_S :=
  (pm_loop pm_fu lb_X9_append_3 (s, a0, 24))
def tb_X9_append : List pm_I := [(0, .bipush 24, 16, 0), (2, .istore_n 2, 0, 0), (3, .iload_n 2, 0, 0), (4, .ifCond .lt 37, 41, 0), (7, .aload_n 0, 0, 0), (8, .getfield 29, 166, 0), (11, .aload_n 0, 0, 0), (12, .getfield 66, 167, 0), (15, .iload_n 1, 0, 0), (16, .iload_n 2, 0, 0), (17, .ishr, 0, 0), (18, .sipush 255, 31, 0), (21, .iand, 0, 0), (22, .iastore, 0, 0), (23, .aload_n 0, 0, 0), (24, .aload_n 0, 0, 0), (25, .getfield 66, 167, 0), (28, .iconst 1, 3, 0), (29, .iadd, 0, 0), (30, .putfield 66, 167, 0), (33, .iload_n 2, 0, 0), (34, .bipush 8, 10, 0), (36, .isub, 0, 0), (37, .istore_n 2, 0, 0), (38, .goto (-35), 3, 0), (41, .return_, 0, 0)]
theorem tk_X9_append : ∀ e ∈ tb_X9_append, pm_ck 159 e = true := List.all_eq_true.mp (by decide +kernel)
set_option maxRecDepth 20000 in
set_option maxHeartbeats 40000000 in
theorem ll_X9_append_3 (d : Nat) (hd : 1 ≤ d) (gx : List pm_E) (gs : List (List pm_E)) (q : Nat × Nat × Nat) (s1 : mo_S) (P : mo_S → Prop) (K0 : ∀ e : mo_S, P (e) → e = s1) : ∀ (n : Nat) (s : mo_S) (l1 : Int32) (l2 : Int32) (e : mo_S), pm_loop n lb_X9_append_3 (s, l1, l2) = some e → P e → pm_Wg 159 d (.inl (none)) (mo_h gx s1 gs q) (3, [some (.ref 64), some (.int l1), some (.int l2)], [], mo_h gx s gs q) := by
  intro n
  induction n with
  | zero => intro s l1 l2 e H; cases H
  | succ n ih =>
    intro s l1 l2 e H hPe
    unfold pm_loop lb_X9_append_3 at H
    try dsimp only at H
    by_cases h1 : l2 < 0
    · rw [if_pos h1] at H
      have He := Option.some.inj H
      subst He
      have H := K0 _ hPe
      subst H
      refine pm_Wg.path (k := 2) (ds := [1]) (f' := (41, [some (.ref 64), some (.int l1), some (.int l2)], [], mo_h gx s gs q)) tk_X9_append (by omega) rfl ⟨h1, trivial⟩ ?_
      exact pm_Wg.vret (pm_dec tk_X9_append rfl) rfl
    · rw [if_neg h1] at H
      cases b2 : pm_inb (s.1 8) 800 with
      | false => rw [b2] at H; cases H
      | true =>
       rw [b2] at H
       dsimp only at H
       refine pm_Wg.path (k := 23) (ds := [0]) (f' := (3, [some (.ref 64), some (.int l1), some (.int (l2 - 8))], [], mo_h gx (mo_i (mo_a s 7 (s.1 8) ((l1 >>> (l2 &&& 31)) &&& 255)) 8 (((mo_a s 7 (s.1 8) ((l1 >>> (l2 &&& 31)) &&& 255)).1 8) + 1)) gs q)) tk_X9_append (by omega) rfl ⟨pm_inb_vp b2, h1, trivial⟩ ?_
       exact ih _ _ _ e H hPe
set_option maxRecDepth 20000 in
set_option maxHeartbeats 20000000 in
theorem e_X9_append (d : Nat) (hd : 1 ≤ d) (gx : List pm_E) (gs : List (List pm_E)) (q : Nat × Nat × Nat) (s : mo_S) (a0 : Int32) (s1 : mo_S) (H : f_X9_append s a0 = some s1) : pm_Mt 159 d [.ref 64, .int a0] (mo_h gx s gs q) (.inl (none)) (mo_h gx s1 gs q) := by
  refine pm_Mt.of (by decide) (by decide +kernel) rfl rfl ?_
  unfold f_X9_append at H
  refine pm_Wg.path (k := 2) (ds := []) (f' := (3, [some (.ref 64), some (.int a0), some (.int 24)], [], mo_h gx s gs q)) tk_X9_append (by omega) rfl trivial ?_
  exact ll_X9_append_3 d (by omega) gx gs q s1 (fun e => e = s1) (fun e he => he) pm_fu _ _ _ _ H rfl

def lb_X9_peek_0 (x : mo_S) : Option ((mo_S) ⊕ (Int32 × mo_S)) := match x with
  | s =>
   (match f_X9_byteAt s (s.1 9) with
   | none => none
   | some r1 =>
    (if r1 = 32 then
     some (.inl (mo_i s 9 ((s.1 9) + 1)))
    else
     (if r1 = 10 then
      some (.inl (mo_i s 9 ((s.1 9) + 1)))
     else
      (match f_X9_byteAt (mo_i s 12 (s.1 9)) ((mo_i s 12 (s.1 9)).1 9) with
      | none => none
      | some r7 =>
       some (.inr (r7, (mo_i s 12 (s.1 9))))))))
def f_X9_peek (s : mo_S) : Option (Int32 × mo_S) :=
  (pm_loop pm_fu lb_X9_peek_0 s)
def tb_X9_peek : List pm_I := [(0, .aload_n 0, 0, 0), (1, .aload_n 0, 0, 0), (2, .getfield 86, 168, 0), (5, .invokevirtual 89, 241, 0), (8, .bipush 32, 18, 0), (10, .if_icmp .eq 16, 26, 0), (13, .aload_n 0, 0, 0), (14, .aload_n 0, 0, 0), (15, .getfield 86, 168, 0), (18, .invokevirtual 89, 241, 0), (21, .bipush 10, 12, 0), (23, .if_icmp .ne 16, 39, 0), (26, .aload_n 0, 0, 0), (27, .aload_n 0, 0, 0), (28, .getfield 86, 168, 0), (31, .iconst 1, 3, 0), (32, .iadd, 0, 0), (33, .putfield 86, 168, 0), (36, .goto (-36), 0, 0), (39, .aload_n 0, 0, 0), (40, .aload_n 0, 0, 0), (41, .getfield 86, 168, 0), (44, .putfield 92, 171, 0), (47, .aload_n 0, 0, 0), (48, .aload_n 0, 0, 0), (49, .getfield 86, 168, 0), (52, .invokevirtual 89, 241, 0), (55, .ireturn, 0, 0)]
theorem tk_X9_peek : ∀ e ∈ tb_X9_peek, pm_ck 165 e = true := List.all_eq_true.mp (by decide +kernel)
set_option maxRecDepth 20000 in
set_option maxHeartbeats 40000000 in
theorem ll_X9_peek_0 (d : Nat) (hd : 2 ≤ d) (gx : List pm_E) (gs : List (List pm_E)) (q : Nat × Nat × Nat) (r : Int32) (s1 : mo_S) (P : Int32 × mo_S → Prop) (K0 : ∀ e : Int32 × mo_S, P (e) → e = (r, s1)) : ∀ (n : Nat) (s : mo_S) (e : Int32 × mo_S), pm_loop n lb_X9_peek_0 s = some e → P e → pm_Wg 165 d (.inl (some (.int r))) (mo_h gx s1 gs q) (0, [some (.ref 64)], [], mo_h gx s gs q) := by
  intro n
  induction n with
  | zero => intro s e H; cases H
  | succ n ih =>
    intro s e H hPe
    obtain ⟨d, rfl⟩ : ∃ d', d = d' + 1 := ⟨d - 1, by omega⟩
    unfold pm_loop lb_X9_peek_0 at H
    try dsimp only at H
    cases q2 : f_X9_byteAt s (s.1 9) with
    | none => rw [q2] at H; cases H
    | some r1 =>
     rw [q2] at H
     dsimp only at H
     refine pm_Wg.path (k := 3) (ds := []) (f' := (5, [some (.ref 64)], [.int (s.1 9), .ref 64], mo_h gx s gs q)) tk_X9_peek (by omega) rfl trivial ?_
     refine pm_Wg.callV (m' := 162) (ix := 89) (rr := 241) (pl := 1539) (b := 64) (As := [.int (s.1 9)]) (S := []) (by decide) rfl (pm_dec tk_X9_peek rfl) rfl rfl (by decide) rfl rfl (by decide) (Nat.le_of_ble_eq_true rfl) rfl (e_X9_byteAt d (by omega) gx gs q _ _ _ q2) ?_
     by_cases h3 : r1 = 32
     · rw [if_pos h3] at H
       refine pm_Wg.path (k := 9) (ds := [1]) (f' := (0, [some (.ref 64)], [], mo_h gx (mo_i s 9 ((s.1 9) + 1)) gs q)) tk_X9_peek (by omega) rfl ⟨h3, trivial⟩ ?_
       exact ih _ e H hPe
     · rw [if_neg h3] at H
       refine pm_Wg.path (k := 5) (ds := [0]) (f' := (18, [some (.ref 64)], [.int (s.1 9), .ref 64], mo_h gx s gs q)) tk_X9_peek (by omega) rfl ⟨h3, trivial⟩ ?_
       refine pm_Wg.callV (m' := 162) (ix := 89) (rr := 241) (pl := 1539) (b := 64) (As := [.int (s.1 9)]) (S := []) (by decide) rfl (pm_dec tk_X9_peek rfl) rfl rfl (by decide) rfl rfl (by decide) (Nat.le_of_ble_eq_true rfl) rfl (e_X9_byteAt d (by omega) gx gs q _ _ _ q2) ?_
       by_cases h6 : r1 = 10
       · rw [if_pos h6] at H
         refine pm_Wg.path (k := 9) (ds := [0]) (f' := (0, [some (.ref 64)], [], mo_h gx (mo_i s 9 ((s.1 9) + 1)) gs q)) tk_X9_peek (by omega) rfl ⟨h6, trivial⟩ ?_
         exact ih _ e H hPe
       · rw [if_neg h6] at H
         cases q8 : f_X9_byteAt (mo_i s 12 (s.1 9)) ((mo_i s 12 (s.1 9)).1 9) with
         | none => rw [q8] at H; cases H
         | some r7 =>
          rw [q8] at H
          dsimp only at H
          refine pm_Wg.path (k := 9) (ds := [1]) (f' := (52, [some (.ref 64)], [.int ((mo_i s 12 (s.1 9)).1 9), .ref 64], mo_h gx (mo_i s 12 (s.1 9)) gs q)) tk_X9_peek (by omega) rfl ⟨h6, trivial⟩ ?_
          refine pm_Wg.callV (m' := 162) (ix := 89) (rr := 241) (pl := 1539) (b := 64) (As := [.int ((mo_i s 12 (s.1 9)).1 9)]) (S := []) (by decide) rfl (pm_dec tk_X9_peek rfl) rfl rfl (by decide) rfl rfl (by decide) (Nat.le_of_ble_eq_true rfl) rfl (e_X9_byteAt d (by omega) gx gs q _ _ _ q8) ?_
          have He := Option.some.inj H
          subst He
          have H := K0 _ hPe
          injection H with H1 H2
          subst H1
          subst H2
          exact pm_Wg.iret (pm_dec tk_X9_peek rfl) rfl rfl
set_option maxRecDepth 20000 in
set_option maxHeartbeats 20000000 in
theorem e_X9_peek (d : Nat) (hd : 2 ≤ d) (gx : List pm_E) (gs : List (List pm_E)) (q : Nat × Nat × Nat) (s : mo_S) (r : Int32) (s1 : mo_S) (H : f_X9_peek s = some (r, s1)) : pm_Mt 165 d [.ref 64] (mo_h gx s gs q) (.inl (some (.int r))) (mo_h gx s1 gs q) := by
  refine pm_Mt.of (by decide) (by decide +kernel) rfl rfl ?_
  obtain ⟨d, rfl⟩ : ∃ d', d = d' + 1 := ⟨d - 1, by omega⟩
  unfold f_X9_peek at H
  exact ll_X9_peek_0 (d + 1) (by omega) gx gs q r s1 (fun e => e = (r, s1)) (fun e he => he) pm_fu _ _ H rfl

def lb_X9_seesWord_38 (x : mo_S × Int32) : Option ((mo_S × Int32) ⊕ (Int32 × mo_S)) := match x with
  | (s, l1) =>
   (match f_X9_byteAt s ((s.1 12) + l1) with
   | none => none
   | some r16 =>
    (match f_X9_isLetter s r16 with
    | none => none
    | some r18 =>
     (if r18 = 0 then
      some (.inr (1, s))
     else
      (if 7 ≤ l1 then
       some (.inl ((mo_w s 0), (l1 + 1)))
      else
       some (.inl ((mo_w s (((32 * s.2.1) + (Int32.toInt64 r16)) - 96)), (l1 + 1)))))))
def f_X9_seesWord (s : mo_S) : Option (Int32 × mo_S) :=
  (match f_X9_peek s with
  | none => none
  | some (r1, s2) =>
   (match f_X9_isLetter s2 r1 with
   | none => none
   | some r4 =>
    (if r4 = 0 then
     (match f_X9_fails s2 1 (s2.1 12) with
     | none => none
     | some (r8, s9) =>
      (if r8 &&& 1 = r8 then some (r8, s9) else none))
    else
     (if (s2.1 12) = (s2.1 11) then
      (match f_X9_fails s2 1 (s2.1 12) with
      | none => none
      | some (r12, s13) =>
       (if r12 &&& 1 = r12 then some (r12, s13) else none))
     else
      (pm_loop pm_fu lb_X9_seesWord_38 ((mo_w s2 0), 0))))))
def tb_X9_seesWord : List pm_I := [(0, .aload_n 0, 0, 0), (1, .invokevirtual 95, 240, 0), (4, .invokestatic 98, 242, 0), (7, .ifCond .eq 14, 21, 0), (10, .aload_n 0, 0, 0), (11, .getfield 92, 171, 0), (14, .aload_n 0, 0, 0), (15, .getfield 102, 170, 0), (18, .if_icmp .ne 13, 31, 0), (21, .aload_n 0, 0, 0), (22, .iconst 1, 3, 0), (23, .aload_n 0, 0, 0), (24, .getfield 92, 171, 0), (27, .invokevirtual 105, 243, 0), (30, .ireturn, 0, 0), (31, .aload_n 0, 0, 0), (32, .lconst 0, 0, 0), (33, .putfield 109, 175, 0), (36, .iconst 0, 2, 0), (37, .istore_n 1, 0, 0), (38, .aload_n 0, 0, 0), (39, .aload_n 0, 0, 0), (40, .getfield 92, 171, 0), (43, .iload_n 1, 0, 0), (44, .iadd, 0, 0), (45, .invokevirtual 89, 241, 0), (48, .invokestatic 98, 242, 0), (51, .ifCond .eq 48, 99, 0), (54, .aload_n 0, 0, 0), (55, .iload_n 1, 0, 0), (56, .bipush 7, 9, 0), (58, .if_icmp .ge 30, 88, 0), (61, .ldc2_w 113, 6, 0), (64, .aload_n 0, 0, 0), (65, .getfield 109, 175, 0), (68, .lmul, 0, 0), (69, .aload_n 0, 0, 0), (70, .aload_n 0, 0, 0), (71, .getfield 92, 171, 0), (74, .iload_n 1, 0, 0), (75, .iadd, 0, 0), (76, .invokevirtual 89, 241, 0), (79, .i2l, 0, 0), (80, .ladd, 0, 0), (81, .ldc2_w 115, 7, 0), (84, .lsub, 0, 0), (85, .goto 4, 89, 0), (88, .lconst 0, 0, 0), (89, .putfield 109, 175, 0), (92, .iload_n 1, 0, 0), (93, .iconst 1, 3, 0), (94, .iadd, 0, 0), (95, .istore_n 1, 0, 0), (96, .goto (-58), 38, 0), (99, .iconst 1, 3, 0), (100, .ireturn, 0, 0)]
theorem tk_X9_seesWord : ∀ e ∈ tb_X9_seesWord, pm_ck 167 e = true := List.all_eq_true.mp (by decide +kernel)
set_option maxRecDepth 20000 in
set_option maxHeartbeats 40000000 in
theorem ll_X9_seesWord_38 (d : Nat) (hd : 3 ≤ d) (gx : List pm_E) (gs : List (List pm_E)) (q : Nat × Nat × Nat) (r : Int32) (s1 : mo_S) (P : Int32 × mo_S → Prop) (K0 : ∀ e : Int32 × mo_S, P (e) → e = (r, s1)) : ∀ (n : Nat) (s : mo_S) (l1 : Int32) (e : Int32 × mo_S), pm_loop n lb_X9_seesWord_38 (s, l1) = some e → P e → pm_Wg 167 d (.inl (some (.int r))) (mo_h gx s1 gs q) (38, [some (.ref 64), some (.int l1)], [], mo_h gx s gs q) := by
  intro n
  induction n with
  | zero => intro s l1 e H; cases H
  | succ n ih =>
    intro s l1 e H hPe
    obtain ⟨d, rfl⟩ : ∃ d', d = d' + 1 := ⟨d - 1, by omega⟩
    unfold pm_loop lb_X9_seesWord_38 at H
    try dsimp only at H
    cases q17 : f_X9_byteAt s ((s.1 12) + l1) with
    | none => rw [q17] at H; cases H
    | some r16 =>
     rw [q17] at H
     dsimp only at H
     refine pm_Wg.path (k := 5) (ds := []) (f' := (45, [some (.ref 64), some (.int l1)], [.int ((s.1 12) + l1), .ref 64], mo_h gx s gs q)) tk_X9_seesWord (by omega) rfl trivial ?_
     refine pm_Wg.callV (m' := 162) (ix := 89) (rr := 241) (pl := 1539) (b := 64) (As := [.int ((s.1 12) + l1)]) (S := []) (by decide) rfl (pm_dec tk_X9_seesWord rfl) rfl rfl (by decide) rfl rfl (by decide) (Nat.le_of_ble_eq_true rfl) rfl (e_X9_byteAt d (by omega) gx gs q _ _ _ q17) ?_
     cases q19 : f_X9_isLetter s r16 with
     | none => rw [q19] at H; cases H
     | some r18 =>
      rw [q19] at H
      dsimp only at H
      refine pm_Wg.callS (m' := 163) (ix := 98) (rr := 242) (pl := 1543) (As := [.int r16]) (S := []) (by decide) rfl (pm_dec tk_X9_seesWord rfl) rfl rfl rfl (Nat.le_of_ble_eq_true rfl) rfl (e_X9_isLetter d (by omega) gx gs q _ _ _ q19) ?_
      by_cases h20 : r18 = 0
      · rw [if_pos h20] at H
        have He := Option.some.inj H
        subst He
        have H := K0 _ hPe
        injection H with H1 H2
        subst H1
        subst H2
        refine pm_Wg.path (k := 2) (ds := [1]) (f' := (100, [some (.ref 64), some (.int l1)], [.int 1], mo_h gx s gs q)) tk_X9_seesWord (by omega) rfl ⟨h20, trivial⟩ ?_
        exact pm_Wg.iret (pm_dec tk_X9_seesWord rfl) rfl rfl
      · rw [if_neg h20] at H
        by_cases h21 : 7 ≤ l1
        · rw [if_pos h21] at H
          refine pm_Wg.path (k := 12) (ds := [0, 1]) (f' := (38, [some (.ref 64), some (.int (l1 + 1))], [], mo_h gx (mo_w s 0) gs q)) tk_X9_seesWord (by omega) rfl ⟨h21, h20, trivial⟩ ?_
          exact ih _ _ e H hPe
        · rw [if_neg h21] at H
          refine pm_Wg.path (k := 14) (ds := [0, 0]) (f' := (76, [some (.ref 64), some (.int l1)], [.int ((s.1 12) + l1), .ref 64, .long (32 * s.2.1), .ref 64], mo_h gx s gs q)) tk_X9_seesWord (by omega) rfl ⟨h21, h20, trivial⟩ ?_
          refine pm_Wg.callV (m' := 162) (ix := 89) (rr := 241) (pl := 1539) (b := 64) (As := [.int ((s.1 12) + l1)]) (S := [.long (32 * s.2.1), .ref 64]) (by decide) rfl (pm_dec tk_X9_seesWord rfl) rfl rfl (by decide) rfl rfl (by decide) (Nat.le_of_ble_eq_true rfl) rfl (e_X9_byteAt d (by omega) gx gs q _ _ _ q17) ?_
          refine pm_Wg.path (k := 11) (ds := []) (f' := (38, [some (.ref 64), some (.int (l1 + 1))], [], mo_h gx (mo_w s (((32 * s.2.1) + (Int32.toInt64 r16)) - 96)) gs q)) tk_X9_seesWord (by omega) rfl trivial ?_
          exact ih _ _ e H hPe
set_option maxRecDepth 20000 in
set_option maxHeartbeats 20000000 in
theorem e_X9_seesWord (d : Nat) (hd : 3 ≤ d) (gx : List pm_E) (gs : List (List pm_E)) (q : Nat × Nat × Nat) (s : mo_S) (r : Int32) (s1 : mo_S) (H : f_X9_seesWord s = some (r, s1)) : pm_Mt 167 d [.ref 64] (mo_h gx s gs q) (.inl (some (.int r))) (mo_h gx s1 gs q) := by
  refine pm_Mt.of (by decide) (by decide +kernel) rfl rfl ?_
  obtain ⟨d, rfl⟩ : ∃ d', d = d' + 1 := ⟨d - 1, by omega⟩
  unfold f_X9_seesWord at H
  cases q3 : f_X9_peek s with
  | none => rw [q3] at H; cases H
  | some w =>
   obtain ⟨r1, s2⟩ := w
   rw [q3] at H
   dsimp only at H
   refine pm_Wg.path (k := 1) (ds := []) (f' := (1, [some (.ref 64), none], [.ref 64], mo_h gx s gs q)) tk_X9_seesWord (by omega) rfl trivial ?_
   refine pm_Wg.callV (m' := 165) (ix := 95) (rr := 240) (pl := 1535) (b := 64) (As := []) (S := []) (by decide) rfl (pm_dec tk_X9_seesWord rfl) rfl rfl (by decide) rfl rfl (by decide) (Nat.le_of_ble_eq_true rfl) rfl (e_X9_peek d (by omega) gx gs q _ _ _ q3) ?_
   cases q5 : f_X9_isLetter s2 r1 with
   | none => rw [q5] at H; cases H
   | some r4 =>
    rw [q5] at H
    dsimp only at H
    refine pm_Wg.callS (m' := 163) (ix := 98) (rr := 242) (pl := 1543) (As := [.int r1]) (S := []) (by decide) rfl (pm_dec tk_X9_seesWord rfl) rfl rfl rfl (Nat.le_of_ble_eq_true rfl) rfl (e_X9_isLetter d (by omega) gx gs q _ _ _ q5) ?_
    by_cases h6 : r4 = 0
    · rw [if_pos h6] at H
      cases q10 : f_X9_fails s2 1 (s2.1 12) with
      | none => rw [q10] at H; cases H
      | some w =>
       obtain ⟨r8, s9⟩ := w
       rw [q10] at H
       dsimp only at H
       refine pm_Wg.path (k := 5) (ds := [1]) (f' := (27, [some (.ref 64), none], [.int (s2.1 12), .int 1, .ref 64], mo_h gx s2 gs q)) tk_X9_seesWord (by omega) rfl ⟨h6, trivial⟩ ?_
       refine pm_Wg.callV (m' := 166) (ix := 105) (rr := 243) (pl := 1546) (b := 64) (As := [.int 1, .int (s2.1 12)]) (S := []) (by decide) rfl (pm_dec tk_X9_seesWord rfl) rfl rfl (by decide) rfl rfl (by decide) (Nat.le_of_ble_eq_true rfl) rfl (e_X9_fails d (by omega) gx gs q _ _ _ _ _ q10) ?_
       by_cases z11 : r8 &&& 1 = r8
       case neg => rw [if_neg z11] at H; cases H
       rw [if_pos z11] at H
       injection H with H
       injection H with H1 H2
       subst H1
       subst H2
       exact pm_Wg.iret (pm_dec tk_X9_seesWord rfl) rfl (pm_nb1 z11)
    · rw [if_neg h6] at H
      by_cases h7 : (s2.1 12) = (s2.1 11)
      · rw [if_pos h7] at H
        cases q14 : f_X9_fails s2 1 (s2.1 12) with
        | none => rw [q14] at H; cases H
        | some w =>
         obtain ⟨r12, s13⟩ := w
         rw [q14] at H
         dsimp only at H
         refine pm_Wg.path (k := 10) (ds := [0, 0]) (f' := (27, [some (.ref 64), none], [.int (s2.1 12), .int 1, .ref 64], mo_h gx s2 gs q)) tk_X9_seesWord (by omega) rfl ⟨h7, h6, trivial⟩ ?_
         refine pm_Wg.callV (m' := 166) (ix := 105) (rr := 243) (pl := 1546) (b := 64) (As := [.int 1, .int (s2.1 12)]) (S := []) (by decide) rfl (pm_dec tk_X9_seesWord rfl) rfl rfl (by decide) rfl rfl (by decide) (Nat.le_of_ble_eq_true rfl) rfl (e_X9_fails d (by omega) gx gs q _ _ _ _ _ q14) ?_
         by_cases z15 : r12 &&& 1 = r12
         case neg => rw [if_neg z15] at H; cases H
         rw [if_pos z15] at H
         injection H with H
         injection H with H1 H2
         subst H1
         subst H2
         exact pm_Wg.iret (pm_dec tk_X9_seesWord rfl) rfl (pm_nb1 z15)
      · rw [if_neg h7] at H
        refine pm_Wg.path (k := 11) (ds := [0, 1]) (f' := (38, [some (.ref 64), some (.int 0)], [], mo_h gx (mo_w s2 0) gs q)) tk_X9_seesWord (by omega) rfl ⟨h7, h6, trivial⟩ ?_
        exact ll_X9_seesWord_38 (d + 1) (by omega) gx gs q r s1 (fun e => e = (r, s1)) (fun e he => he) pm_fu _ _ _ H rfl

def lb_X9_passWord_0 (x : mo_S) : Option ((mo_S) ⊕ (mo_S)) := match x with
  | s =>
   (match f_X9_byteAt s (s.1 9) with
   | none => none
   | some r1 =>
    (match f_X9_isLetter s r1 with
    | none => none
    | some r3 =>
     (if r3 = 0 then
      some (.inr (mo_i s 11 (s.1 9)))
     else
      some (.inl (mo_i s 9 ((s.1 9) + 1))))))
def f_X9_passWord (s : mo_S) : Option mo_S :=
  (pm_loop pm_fu lb_X9_passWord_0 s)
def tb_X9_passWord : List pm_I := [(0, .aload_n 0, 0, 0), (1, .aload_n 0, 0, 0), (2, .getfield 86, 168, 0), (5, .invokevirtual 89, 241, 0), (8, .invokestatic 98, 242, 0), (11, .ifCond .eq 16, 27, 0), (14, .aload_n 0, 0, 0), (15, .aload_n 0, 0, 0), (16, .getfield 86, 168, 0), (19, .iconst 1, 3, 0), (20, .iadd, 0, 0), (21, .putfield 86, 168, 0), (24, .goto (-24), 0, 0), (27, .aload_n 0, 0, 0), (28, .aload_n 0, 0, 0), (29, .getfield 86, 168, 0), (32, .putfield 102, 170, 0), (35, .return_, 0, 0)]
theorem tk_X9_passWord : ∀ e ∈ tb_X9_passWord, pm_ck 168 e = true := List.all_eq_true.mp (by decide +kernel)
set_option maxRecDepth 20000 in
set_option maxHeartbeats 40000000 in
theorem ll_X9_passWord_0 (d : Nat) (hd : 3 ≤ d) (gx : List pm_E) (gs : List (List pm_E)) (q : Nat × Nat × Nat) (s1 : mo_S) (P : mo_S → Prop) (K0 : ∀ e : mo_S, P (e) → e = s1) : ∀ (n : Nat) (s : mo_S) (e : mo_S), pm_loop n lb_X9_passWord_0 s = some e → P e → pm_Wg 168 d (.inl (none)) (mo_h gx s1 gs q) (0, [some (.ref 64)], [], mo_h gx s gs q) := by
  intro n
  induction n with
  | zero => intro s e H; cases H
  | succ n ih =>
    intro s e H hPe
    obtain ⟨d, rfl⟩ : ∃ d', d = d' + 1 := ⟨d - 1, by omega⟩
    unfold pm_loop lb_X9_passWord_0 at H
    try dsimp only at H
    cases q2 : f_X9_byteAt s (s.1 9) with
    | none => rw [q2] at H; cases H
    | some r1 =>
     rw [q2] at H
     dsimp only at H
     refine pm_Wg.path (k := 3) (ds := []) (f' := (5, [some (.ref 64)], [.int (s.1 9), .ref 64], mo_h gx s gs q)) tk_X9_passWord (by omega) rfl trivial ?_
     refine pm_Wg.callV (m' := 162) (ix := 89) (rr := 241) (pl := 1539) (b := 64) (As := [.int (s.1 9)]) (S := []) (by decide) rfl (pm_dec tk_X9_passWord rfl) rfl rfl (by decide) rfl rfl (by decide) (Nat.le_of_ble_eq_true rfl) rfl (e_X9_byteAt d (by omega) gx gs q _ _ _ q2) ?_
     cases q4 : f_X9_isLetter s r1 with
     | none => rw [q4] at H; cases H
     | some r3 =>
      rw [q4] at H
      dsimp only at H
      refine pm_Wg.callS (m' := 163) (ix := 98) (rr := 242) (pl := 1543) (As := [.int r1]) (S := []) (by decide) rfl (pm_dec tk_X9_passWord rfl) rfl rfl rfl (Nat.le_of_ble_eq_true rfl) rfl (e_X9_isLetter d (by omega) gx gs q _ _ _ q4) ?_
      by_cases h5 : r3 = 0
      · rw [if_pos h5] at H
        have He := Option.some.inj H
        subst He
        have H := K0 _ hPe
        subst H
        refine pm_Wg.path (k := 5) (ds := [1]) (f' := (35, [some (.ref 64)], [], mo_h gx (mo_i s 11 (s.1 9)) gs q)) tk_X9_passWord (by omega) rfl ⟨h5, trivial⟩ ?_
        exact pm_Wg.vret (pm_dec tk_X9_passWord rfl) rfl
      · rw [if_neg h5] at H
        refine pm_Wg.path (k := 8) (ds := [0]) (f' := (0, [some (.ref 64)], [], mo_h gx (mo_i s 9 ((s.1 9) + 1)) gs q)) tk_X9_passWord (by omega) rfl ⟨h5, trivial⟩ ?_
        exact ih _ e H hPe
set_option maxRecDepth 20000 in
set_option maxHeartbeats 20000000 in
theorem e_X9_passWord (d : Nat) (hd : 3 ≤ d) (gx : List pm_E) (gs : List (List pm_E)) (q : Nat × Nat × Nat) (s : mo_S) (s1 : mo_S) (H : f_X9_passWord s = some s1) : pm_Mt 168 d [.ref 64] (mo_h gx s gs q) (.inl (none)) (mo_h gx s1 gs q) := by
  refine pm_Mt.of (by decide) (by decide +kernel) rfl rfl ?_
  obtain ⟨d, rfl⟩ : ∃ d', d = d' + 1 := ⟨d - 1, by omega⟩
  unfold f_X9_passWord at H
  exact ll_X9_passWord_0 (d + 1) (by omega) gx gs q s1 (fun e => e = s1) (fun e he => he) pm_fu _ _ H rfl

def f_X9_takesWord (s : mo_S) (a0 : Int64) : Option (Int32 × mo_S) :=
  (match f_X9_seesWord s with
  | none => none
  | some (r1, s2) =>
   (if r1 = 0 then
    some (0, s2)
   else
    (if (lg_cmp s2.2.1 a0) = 0 then
     (match f_X9_passWord s2 with
     | none => none
     | some s6 =>
      some (1, s6))
    else
     (match f_X9_fails s2 1 (s2.1 12) with
     | none => none
     | some (r8, s9) =>
      (if r8 &&& 1 = r8 then some (r8, s9) else none)))))
def tb_X9_takesWord : List pm_I := [(0, .aload_n 0, 0, 0), (1, .invokevirtual 117, 239, 0), (4, .ifCond .ne 5, 9, 0), (7, .iconst 0, 2, 0), (8, .ireturn, 0, 0), (9, .aload_n 0, 0, 0), (10, .getfield 109, 175, 0), (13, .lload_n 1, 0, 0), (14, .lcmp, 0, 0), (15, .ifCond .eq 13, 28, 0), (18, .aload_n 0, 0, 0), (19, .iconst 1, 3, 0), (20, .aload_n 0, 0, 0), (21, .getfield 92, 171, 0), (24, .invokevirtual 105, 243, 0), (27, .ireturn, 0, 0), (28, .aload_n 0, 0, 0), (29, .invokevirtual 120, 244, 0), (32, .iconst 1, 3, 0), (33, .ireturn, 0, 0)]
theorem tk_X9_takesWord : ∀ e ∈ tb_X9_takesWord, pm_ck 169 e = true := List.all_eq_true.mp (by decide +kernel)
set_option maxRecDepth 20000 in
set_option maxHeartbeats 20000000 in
theorem e_X9_takesWord (d : Nat) (hd : 4 ≤ d) (gx : List pm_E) (gs : List (List pm_E)) (q : Nat × Nat × Nat) (s : mo_S) (a0 : Int64) (r : Int32) (s1 : mo_S) (H : f_X9_takesWord s a0 = some (r, s1)) : pm_Mt 169 d [.ref 64, .long a0] (mo_h gx s gs q) (.inl (some (.int r))) (mo_h gx s1 gs q) := by
  refine pm_Mt.of (by decide) (by decide +kernel) rfl rfl ?_
  obtain ⟨d, rfl⟩ : ∃ d', d = d' + 1 := ⟨d - 1, by omega⟩
  unfold f_X9_takesWord at H
  cases q3 : f_X9_seesWord s with
  | none => rw [q3] at H; cases H
  | some w =>
   obtain ⟨r1, s2⟩ := w
   rw [q3] at H
   dsimp only at H
   refine pm_Wg.path (k := 1) (ds := []) (f' := (1, [some (.ref 64), some (.long a0), none], [.ref 64], mo_h gx s gs q)) tk_X9_takesWord (by omega) rfl trivial ?_
   refine pm_Wg.callV (m' := 167) (ix := 117) (rr := 239) (pl := 1531) (b := 64) (As := []) (S := []) (by decide) rfl (pm_dec tk_X9_takesWord rfl) rfl rfl (by decide) rfl rfl (by decide) (Nat.le_of_ble_eq_true rfl) rfl (e_X9_seesWord d (by omega) gx gs q _ _ _ q3) ?_
   by_cases h4 : r1 = 0
   · rw [if_pos h4] at H
     injection H with H
     injection H with H1 H2
     subst H1
     subst H2
     refine pm_Wg.path (k := 2) (ds := [0]) (f' := (8, [some (.ref 64), some (.long a0), none], [.int 0], mo_h gx s2 gs q)) tk_X9_takesWord (by omega) rfl ⟨h4, trivial⟩ ?_
     exact pm_Wg.iret (pm_dec tk_X9_takesWord rfl) rfl rfl
   · rw [if_neg h4] at H
     by_cases h5 : (lg_cmp s2.2.1 a0) = 0
     · rw [if_pos h5] at H
       cases q7 : f_X9_passWord s2 with
       | none => rw [q7] at H; cases H
       | some s6 =>
        rw [q7] at H
        dsimp only at H
        refine pm_Wg.path (k := 7) (ds := [1, 1]) (f' := (29, [some (.ref 64), some (.long a0), none], [.ref 64], mo_h gx s2 gs q)) tk_X9_takesWord (by omega) rfl ⟨h5, h4, trivial⟩ ?_
        refine pm_Wg.callV (m' := 168) (ix := 120) (rr := 244) (pl := 1552) (b := 64) (As := []) (S := []) (by decide) rfl (pm_dec tk_X9_takesWord rfl) rfl rfl (by decide) rfl rfl (by decide) (Nat.le_of_ble_eq_true rfl) rfl (e_X9_passWord d (by omega) gx gs q _ _ q7) ?_
        injection H with H
        injection H with H1 H2
        subst H1
        subst H2
        refine pm_Wg.path (k := 1) (ds := []) (f' := (33, [some (.ref 64), some (.long a0), none], [.int 1], mo_h gx s6 gs q)) tk_X9_takesWord (by omega) rfl trivial ?_
        exact pm_Wg.iret (pm_dec tk_X9_takesWord rfl) rfl rfl
     · rw [if_neg h5] at H
       cases q10 : f_X9_fails s2 1 (s2.1 12) with
       | none => rw [q10] at H; cases H
       | some w =>
        obtain ⟨r8, s9⟩ := w
        rw [q10] at H
        dsimp only at H
        refine pm_Wg.path (k := 10) (ds := [1, 0]) (f' := (24, [some (.ref 64), some (.long a0), none], [.int (s2.1 12), .int 1, .ref 64], mo_h gx s2 gs q)) tk_X9_takesWord (by omega) rfl ⟨h5, h4, trivial⟩ ?_
        refine pm_Wg.callV (m' := 166) (ix := 105) (rr := 243) (pl := 1546) (b := 64) (As := [.int 1, .int (s2.1 12)]) (S := []) (by decide) rfl (pm_dec tk_X9_takesWord rfl) rfl rfl (by decide) rfl rfl (by decide) (Nat.le_of_ble_eq_true rfl) rfl (e_X9_fails d (by omega) gx gs q _ _ _ _ _ q10) ?_
        by_cases z11 : r8 &&& 1 = r8
        case neg => rw [if_neg z11] at H; cases H
        rw [if_pos z11] at H
        injection H with H
        injection H with H1 H2
        subst H1
        subst H2
        exact pm_Wg.iret (pm_dec tk_X9_takesWord rfl) rfl (pm_nb1 z11)
