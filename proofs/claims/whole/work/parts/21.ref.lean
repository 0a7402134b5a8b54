/-! The reference's methods without loops, by program (wip/whole/dec.py). -/
def f_X9_thrown (s : mo_S) : Option Int32 :=
  some (s.1 2)
def tb_X9_thrown : List pm_I := [(0, .aload_n 0, 0, 0), (1, .getfield 45, 161, 0), (4, .ireturn, 0, 0)]
theorem tk_X9_thrown : ∀ e ∈ tb_X9_thrown, pm_ck 144 e = true := List.all_eq_true.mp (by decide +kernel)
set_option maxRecDepth 20000 in
theorem e_X9_thrown (d : Nat) (hd : 1 ≤ d) (gx : List pm_E) (gs : List (List pm_E)) (q : Nat × Nat × Nat) (s : mo_S) (r : Int32) (H : f_X9_thrown s = some r) : pm_Mt 144 d [.ref 64] (mo_h gx s gs q) (.inl (some (.int r))) (mo_h gx s gs q) := by
  refine pm_Mt.of (by decide) (by decide +kernel) rfl rfl ?_
  unfold f_X9_thrown at H
  cases H
  refine pm_Wg.path (k := 2) (ds := []) (f' := (4, [some (.ref 64)], [.int (s.1 2)], mo_h gx s gs q)) tk_X9_thrown (by omega) rfl trivial ?_
  exact pm_Wg.iret (pm_dec tk_X9_thrown rfl) rfl rfl

def f_X9_refuse (s : mo_S) (a0 : Int32) : Option (Int32 × mo_S) :=
  some (0, (mo_i s 2 a0))
def tb_X9_refuse : List pm_I := [(0, .aload_n 0, 0, 0), (1, .iload_n 1, 0, 0), (2, .putfield 45, 161, 0), (5, .iconst 0, 2, 0), (6, .ireturn, 0, 0)]
theorem tk_X9_refuse : ∀ e ∈ tb_X9_refuse, pm_ck 145 e = true := List.all_eq_true.mp (by decide +kernel)
set_option maxRecDepth 20000 in
theorem e_X9_refuse (d : Nat) (hd : 1 ≤ d) (gx : List pm_E) (gs : List (List pm_E)) (q : Nat × Nat × Nat) (s : mo_S) (a0 : Int32) (r : Int32) (s1 : mo_S) (H : f_X9_refuse s a0 = some (r, s1)) : pm_Mt 145 d [.ref 64, .int a0] (mo_h gx s gs q) (.inl (some (.int r))) (mo_h gx s1 gs q) := by
  refine pm_Mt.of (by decide) (by decide +kernel) rfl rfl ?_
  unfold f_X9_refuse at H
  cases H
  refine pm_Wg.path (k := 4) (ds := []) (f' := (6, [some (.ref 64), some (.int a0)], [.int 0], mo_h gx (mo_i s 2 a0) gs q)) tk_X9_refuse (by omega) rfl trivial ?_
  exact pm_Wg.iret (pm_dec tk_X9_refuse rfl) rfl rfl

def f_X9_told (s : mo_S) (a0 : Int32) : Option (Int32 × mo_S) :=
  some (a0, (mo_i s 2 0))
def tb_X9_told : List pm_I := [(0, .aload_n 0, 0, 0), (1, .iconst 0, 2, 0), (2, .putfield 45, 161, 0), (5, .iload_n 1, 0, 0), (6, .ireturn, 0, 0)]
theorem tk_X9_told : ∀ e ∈ tb_X9_told, pm_ck 146 e = true := List.all_eq_true.mp (by decide +kernel)
set_option maxRecDepth 20000 in
theorem e_X9_told (d : Nat) (hd : 1 ≤ d) (gx : List pm_E) (gs : List (List pm_E)) (q : Nat × Nat × Nat) (s : mo_S) (a0 : Int32) (r : Int32) (s1 : mo_S) (H : f_X9_told s a0 = some (r, s1)) : pm_Mt 146 d [.ref 64, .int a0] (mo_h gx s gs q) (.inl (some (.int r))) (mo_h gx s1 gs q) := by
  refine pm_Mt.of (by decide) (by decide +kernel) rfl rfl ?_
  unfold f_X9_told at H
  cases H
  refine pm_Wg.path (k := 4) (ds := []) (f' := (6, [some (.ref 64), some (.int a0)], [.int a0], mo_h gx (mo_i s 2 0) gs q)) tk_X9_told (by omega) rfl trivial ?_
  exact pm_Wg.iret (pm_dec tk_X9_told rfl) rfl rfl

def f_X9_in (s : mo_S) (a0 : Int32) (a1 : Int32) (a2 : Int32) : Option Int32 :=
  (if a0 < a1 then
   some 0
  else
   (if a2 < a0 then
    some 0
   else
    some 1))
def tb_X9_in : List pm_I := [(0, .iload_n 0, 0, 0), (1, .iload_n 1, 0, 0), (2, .if_icmp .lt 12, 14, 0), (5, .iload_n 0, 0, 0), (6, .iload_n 2, 0, 0), (7, .if_icmp .gt 7, 14, 0), (10, .iconst 1, 3, 0), (11, .goto 4, 15, 0), (14, .iconst 0, 2, 0), (15, .ireturn, 0, 0)]
theorem tk_X9_in : ∀ e ∈ tb_X9_in, pm_ck 147 e = true := List.all_eq_true.mp (by decide +kernel)
set_option maxRecDepth 20000 in
theorem e_X9_in (d : Nat) (hd : 1 ≤ d) (gx : List pm_E) (gs : List (List pm_E)) (q : Nat × Nat × Nat) (s : mo_S) (a0 : Int32) (a1 : Int32) (a2 : Int32) (r : Int32) (H : f_X9_in s a0 a1 a2 = some r) : pm_Mt 147 d [.int a0, .int a1, .int a2] (mo_h gx s gs q) (.inl (some (.int r))) (mo_h gx s gs q) := by
  refine pm_Mt.of (by decide) (by decide +kernel) rfl rfl ?_
  unfold f_X9_in at H
  by_cases h1 : a0 < a1
  · rw [if_pos h1] at H
    cases H
    refine pm_Wg.path (k := 4) (ds := [1]) (f' := (15, [some (.int a0), some (.int a1), some (.int a2)], [.int 0], mo_h gx s gs q)) tk_X9_in (by omega) rfl ⟨h1, trivial⟩ ?_
    exact pm_Wg.iret (pm_dec tk_X9_in rfl) rfl rfl
  · rw [if_neg h1] at H
    by_cases h2 : a2 < a0
    · rw [if_pos h2] at H
      cases H
      refine pm_Wg.path (k := 7) (ds := [0, 1]) (f' := (15, [some (.int a0), some (.int a1), some (.int a2)], [.int 0], mo_h gx s gs q)) tk_X9_in (by omega) rfl ⟨h2, h1, trivial⟩ ?_
      exact pm_Wg.iret (pm_dec tk_X9_in rfl) rfl rfl
    · rw [if_neg h2] at H
      cases H
      refine pm_Wg.path (k := 8) (ds := [0, 0]) (f' := (15, [some (.int a0), some (.int a1), some (.int a2)], [.int 1], mo_h gx s gs q)) tk_X9_in (by omega) rfl ⟨h2, h1, trivial⟩ ?_
      exact pm_Wg.iret (pm_dec tk_X9_in rfl) rfl rfl

def f_X9_isArray (s : mo_S) : Option Int32 :=
  (match pm_inb 0 26 with
  | false => none
  | true =>
  (if (s.2.2.1 0 (Int32.toNatClampNeg 0)) ≤ 0 then
   some 0
  else
   some 1))
def tb_X9_isArray : List pm_I := [(0, .aload_n 0, 0, 0), (1, .getfield 7, 159, 0), (4, .iconst 0, 2, 0), (5, .iaload, 0, 0), (6, .ifCond .le 7, 13, 0), (9, .iconst 1, 3, 0), (10, .goto 4, 14, 0), (13, .iconst 0, 2, 0), (14, .ireturn, 0, 0)]
theorem tk_X9_isArray : ∀ e ∈ tb_X9_isArray, pm_ck 149 e = true := List.all_eq_true.mp (by decide +kernel)
set_option maxRecDepth 20000 in
theorem e_X9_isArray (d : Nat) (hd : 1 ≤ d) (gx : List pm_E) (gs : List (List pm_E)) (q : Nat × Nat × Nat) (s : mo_S) (r : Int32) (H : f_X9_isArray s = some r) : pm_Mt 149 d [.ref 64] (mo_h gx s gs q) (.inl (some (.int r))) (mo_h gx s gs q) := by
  refine pm_Mt.of (by decide) (by decide +kernel) rfl rfl ?_
  unfold f_X9_isArray at H
  cases b1 : pm_inb 0 26 with
  | false => rw [b1] at H; cases H
  | true =>
   rw [b1] at H
   dsimp only at H
   by_cases h2 : (s.2.2.1 0 (Int32.toNatClampNeg 0)) ≤ 0
   · rw [if_pos h2] at H
     cases H
     refine pm_Wg.path (k := 6) (ds := [1]) (f' := (14, [some (.ref 64)], [.int 0], mo_h gx s gs q)) tk_X9_isArray (by omega) rfl ⟨h2, pm_inb_vp b1, trivial⟩ ?_
     exact pm_Wg.iret (pm_dec tk_X9_isArray rfl) rfl rfl
   · rw [if_neg h2] at H
     cases H
     refine pm_Wg.path (k := 7) (ds := [0]) (f' := (14, [some (.ref 64)], [.int 1], mo_h gx s gs q)) tk_X9_isArray (by omega) rfl ⟨h2, pm_inb_vp b1, trivial⟩ ?_
     exact pm_Wg.iret (pm_dec tk_X9_isArray rfl) rfl rfl

def f_X9_disks (s : mo_S) : Option Int32 :=
  (match pm_inb 0 26 with
  | false => none
  | true =>
  some (s.2.2.1 0 (Int32.toNatClampNeg 0)))
def tb_X9_disks : List pm_I := [(0, .aload_n 0, 0, 0), (1, .getfield 7, 159, 0), (4, .iconst 0, 2, 0), (5, .iaload, 0, 0), (6, .ireturn, 0, 0)]
theorem tk_X9_disks : ∀ e ∈ tb_X9_disks, pm_ck 150 e = true := List.all_eq_true.mp (by decide +kernel)
set_option maxRecDepth 20000 in
theorem e_X9_disks (d : Nat) (hd : 1 ≤ d) (gx : List pm_E) (gs : List (List pm_E)) (q : Nat × Nat × Nat) (s : mo_S) (r : Int32) (H : f_X9_disks s = some r) : pm_Mt 150 d [.ref 64] (mo_h gx s gs q) (.inl (some (.int r))) (mo_h gx s gs q) := by
  refine pm_Mt.of (by decide) (by decide +kernel) rfl rfl ?_
  unfold f_X9_disks at H
  cases b1 : pm_inb 0 26 with
  | false => rw [b1] at H; cases H
  | true =>
   rw [b1] at H
   dsimp only at H
   cases H
   refine pm_Wg.path (k := 4) (ds := []) (f' := (6, [some (.ref 64)], [.int (s.2.2.1 0 (Int32.toNatClampNeg 0))], mo_h gx s gs q)) tk_X9_disks (by omega) rfl ⟨pm_inb_vp b1, trivial⟩ ?_
   exact pm_Wg.iret (pm_dec tk_X9_disks rfl) rfl rfl

def f_X9_isDisk (s : mo_S) (a0 : Int32) : Option Int32 :=
  (match f_X9_isArray s with
  | none => none
  | some r1 =>
   (if r1 = 0 then
    some 0
   else
    (match f_X9_disks s with
    | none => none
    | some r4 =>
     (match f_X9_in s a0 0 r4 with
     | none => none
     | some r6 =>
      (if r6 = 0 then
       some 0
      else
       some 1)))))
def tb_X9_isDisk : List pm_I := [(0, .aload_n 0, 0, 0), (1, .invokevirtual 51, 254, 0), (4, .ifCond .eq 19, 23, 0), (7, .iload_n 1, 0, 0), (8, .iconst 0, 2, 0), (9, .aload_n 0, 0, 0), (10, .invokevirtual 55, 258, 0), (13, .invokestatic 59, 233, 0), (16, .ifCond .eq 7, 23, 0), (19, .iconst 1, 3, 0), (20, .goto 4, 24, 0), (23, .iconst 0, 2, 0), (24, .ireturn, 0, 0)]
theorem tk_X9_isDisk : ∀ e ∈ tb_X9_isDisk, pm_ck 151 e = true := List.all_eq_true.mp (by decide +kernel)
set_option maxRecDepth 20000 in
theorem e_X9_isDisk (d : Nat) (hd : 2 ≤ d) (gx : List pm_E) (gs : List (List pm_E)) (q : Nat × Nat × Nat) (s : mo_S) (a0 : Int32) (r : Int32) (H : f_X9_isDisk s a0 = some r) : pm_Mt 151 d [.ref 64, .int a0] (mo_h gx s gs q) (.inl (some (.int r))) (mo_h gx s gs q) := by
  refine pm_Mt.of (by decide) (by decide +kernel) rfl rfl ?_
  obtain ⟨d, rfl⟩ : ∃ d', d = d' + 1 := ⟨d - 1, by omega⟩
  unfold f_X9_isDisk at H
  cases q2 : f_X9_isArray s with
  | none => rw [q2] at H; cases H
  | some r1 =>
   rw [q2] at H
   dsimp only at H
   refine pm_Wg.path (k := 1) (ds := []) (f' := (1, [some (.ref 64), some (.int a0)], [.ref 64], mo_h gx s gs q)) tk_X9_isDisk (by omega) rfl trivial ?_
   refine pm_Wg.callV (m' := 149) (ix := 51) (rr := 254) (pl := 1598) (b := 64) (As := []) (S := []) (by decide) rfl (pm_dec tk_X9_isDisk rfl) rfl rfl (by decide) rfl rfl (by decide) (Nat.le_of_ble_eq_true rfl) rfl (e_X9_isArray d (by omega) gx gs q _ _ q2) ?_
   by_cases h3 : r1 = 0
   · rw [if_pos h3] at H
     cases H
     refine pm_Wg.path (k := 2) (ds := [1]) (f' := (24, [some (.ref 64), some (.int a0)], [.int 0], mo_h gx s gs q)) tk_X9_isDisk (by omega) rfl ⟨h3, trivial⟩ ?_
     exact pm_Wg.iret (pm_dec tk_X9_isDisk rfl) rfl rfl
   · rw [if_neg h3] at H
     cases q5 : f_X9_disks s with
     | none => rw [q5] at H; cases H
     | some r4 =>
      rw [q5] at H
      dsimp only at H
      refine pm_Wg.path (k := 4) (ds := [0]) (f' := (10, [some (.ref 64), some (.int a0)], [.ref 64, .int 0, .int a0], mo_h gx s gs q)) tk_X9_isDisk (by omega) rfl ⟨h3, trivial⟩ ?_
      refine pm_Wg.callV (m' := 150) (ix := 55) (rr := 258) (pl := 1618) (b := 64) (As := []) (S := [.int 0, .int a0]) (by decide) rfl (pm_dec tk_X9_isDisk rfl) rfl rfl (by decide) rfl rfl (by decide) (Nat.le_of_ble_eq_true rfl) rfl (e_X9_disks d (by omega) gx gs q _ _ q5) ?_
      cases q7 : f_X9_in s a0 0 r4 with
      | none => rw [q7] at H; cases H
      | some r6 =>
       rw [q7] at H
       dsimp only at H
       refine pm_Wg.callS (m' := 147) (ix := 59) (rr := 233) (pl := 1507) (As := [.int a0, .int 0, .int r4]) (S := []) (by decide) rfl (pm_dec tk_X9_isDisk rfl) rfl rfl rfl (Nat.le_of_ble_eq_true rfl) rfl (e_X9_in d (by omega) gx gs q _ _ _ _ _ q7) ?_
       by_cases h8 : r6 = 0
       · rw [if_pos h8] at H
         cases H
         refine pm_Wg.path (k := 2) (ds := [1]) (f' := (24, [some (.ref 64), some (.int a0)], [.int 0], mo_h gx s gs q)) tk_X9_isDisk (by omega) rfl ⟨h8, trivial⟩ ?_
         exact pm_Wg.iret (pm_dec tk_X9_isDisk rfl) rfl rfl
       · rw [if_neg h8] at H
         cases H
         refine pm_Wg.path (k := 3) (ds := [0]) (f' := (24, [some (.ref 64), some (.int a0)], [.int 1], mo_h gx s gs q)) tk_X9_isDisk (by omega) rfl ⟨h8, trivial⟩ ?_
         exact pm_Wg.iret (pm_dec tk_X9_isDisk rfl) rfl rfl

def f_X9_isStripe (s : mo_S) (a0 : Int32) : Option Int32 :=
  (match pm_inb 1 26 with
  | false => none
  | true =>
  (match f_X9_in s a0 0 ((s.2.2.1 0 (Int32.toNatClampNeg 1)) - 1) with
  | none => none
  | some r2 =>
   (if r2 &&& 1 = r2 then some r2 else none)))
def tb_X9_isStripe : List pm_I := [(0, .iload_n 1, 0, 0), (1, .iconst 0, 2, 0), (2, .aload_n 0, 0, 0), (3, .getfield 7, 159, 0), (6, .iconst 1, 3, 0), (7, .iaload, 0, 0), (8, .iconst 1, 3, 0), (9, .isub, 0, 0), (10, .invokestatic 59, 233, 0), (13, .ireturn, 0, 0)]
theorem tk_X9_isStripe : ∀ e ∈ tb_X9_isStripe, pm_ck 152 e = true := List.all_eq_true.mp (by decide +kernel)
set_option maxRecDepth 20000 in
theorem e_X9_isStripe (d : Nat) (hd : 2 ≤ d) (gx : List pm_E) (gs : List (List pm_E)) (q : Nat × Nat × Nat) (s : mo_S) (a0 : Int32) (r : Int32) (H : f_X9_isStripe s a0 = some r) : pm_Mt 152 d [.ref 64, .int a0] (mo_h gx s gs q) (.inl (some (.int r))) (mo_h gx s gs q) := by
  refine pm_Mt.of (by decide) (by decide +kernel) rfl rfl ?_
  obtain ⟨d, rfl⟩ : ∃ d', d = d' + 1 := ⟨d - 1, by omega⟩
  unfold f_X9_isStripe at H
  cases b1 : pm_inb 1 26 with
  | false => rw [b1] at H; cases H
  | true =>
   rw [b1] at H
   dsimp only at H
   cases q3 : f_X9_in s a0 0 ((s.2.2.1 0 (Int32.toNatClampNeg 1)) - 1) with
   | none => rw [q3] at H; cases H
   | some r2 =>
    rw [q3] at H
    dsimp only at H
    refine pm_Wg.path (k := 8) (ds := []) (f' := (10, [some (.ref 64), some (.int a0)], [.int ((s.2.2.1 0 (Int32.toNatClampNeg 1)) - 1), .int 0, .int a0], mo_h gx s gs q)) tk_X9_isStripe (by omega) rfl ⟨pm_inb_vp b1, trivial⟩ ?_
    refine pm_Wg.callS (m' := 147) (ix := 59) (rr := 233) (pl := 1507) (As := [.int a0, .int 0, .int ((s.2.2.1 0 (Int32.toNatClampNeg 1)) - 1)]) (S := []) (by decide) rfl (pm_dec tk_X9_isStripe rfl) rfl rfl rfl (Nat.le_of_ble_eq_true rfl) rfl (e_X9_in d (by omega) gx gs q _ _ _ _ _ q3) ?_
    by_cases z4 : r2 &&& 1 = r2
    case neg => rw [if_neg z4] at H; cases H
    rw [if_pos z4] at H
    cases H
    exact pm_Wg.iret (pm_dec tk_X9_isStripe rfl) rfl (pm_nb1 z4)

def f_X9_isTenant (s : mo_S) (a0 : Int32) : Option Int32 :=
  (match pm_inb 6 26 with
  | false => none
  | true =>
  (match f_X9_in s a0 0 ((s.2.2.1 0 (Int32.toNatClampNeg 6)) - 1) with
  | none => none
  | some r2 =>
   (if r2 &&& 1 = r2 then some r2 else none)))
def tb_X9_isTenant : List pm_I := [(0, .iload_n 1, 0, 0), (1, .iconst 0, 2, 0), (2, .aload_n 0, 0, 0), (3, .getfield 7, 159, 0), (6, .bipush 6, 8, 0), (8, .iaload, 0, 0), (9, .iconst 1, 3, 0), (10, .isub, 0, 0), (11, .invokestatic 59, 233, 0), (14, .ireturn, 0, 0)]
theorem tk_X9_isTenant : ∀ e ∈ tb_X9_isTenant, pm_ck 153 e = true := List.all_eq_true.mp (by decide +kernel)
set_option maxRecDepth 20000 in
theorem e_X9_isTenant (d : Nat) (hd : 2 ≤ d) (gx : List pm_E) (gs : List (List pm_E)) (q : Nat × Nat × Nat) (s : mo_S) (a0 : Int32) (r : Int32) (H : f_X9_isTenant s a0 = some r) : pm_Mt 153 d [.ref 64, .int a0] (mo_h gx s gs q) (.inl (some (.int r))) (mo_h gx s gs q) := by
  refine pm_Mt.of (by decide) (by decide +kernel) rfl rfl ?_
  obtain ⟨d, rfl⟩ : ∃ d', d = d' + 1 := ⟨d - 1, by omega⟩
  unfold f_X9_isTenant at H
  cases b1 : pm_inb 6 26 with
  | false => rw [b1] at H; cases H
  | true =>
   rw [b1] at H
   dsimp only at H
   cases q3 : f_X9_in s a0 0 ((s.2.2.1 0 (Int32.toNatClampNeg 6)) - 1) with
   | none => rw [q3] at H; cases H
   | some r2 =>
    rw [q3] at H
    dsimp only at H
    refine pm_Wg.path (k := 8) (ds := []) (f' := (11, [some (.ref 64), some (.int a0)], [.int ((s.2.2.1 0 (Int32.toNatClampNeg 6)) - 1), .int 0, .int a0], mo_h gx s gs q)) tk_X9_isTenant (by omega) rfl ⟨pm_inb_vp b1, trivial⟩ ?_
    refine pm_Wg.callS (m' := 147) (ix := 59) (rr := 233) (pl := 1507) (As := [.int a0, .int 0, .int ((s.2.2.1 0 (Int32.toNatClampNeg 6)) - 1)]) (S := []) (by decide) rfl (pm_dec tk_X9_isTenant rfl) rfl rfl rfl (Nat.le_of_ble_eq_true rfl) rfl (e_X9_in d (by omega) gx gs q _ _ _ _ _ q3) ?_
    by_cases z4 : r2 &&& 1 = r2
    case neg => rw [if_neg z4] at H; cases H
    rw [if_pos z4] at H
    cases H
    exact pm_Wg.iret (pm_dec tk_X9_isTenant rfl) rfl (pm_nb1 z4)

def f_X9_units (s : mo_S) : Option Int32 :=
  (match f_X9_disks s with
  | none => none
  | some r1 =>
   (match pm_inb 1 26 with
   | false => none
   | true =>
   some ((r1 - 1) * (s.2.2.1 0 (Int32.toNatClampNeg 1)))))
def tb_X9_units : List pm_I := [(0, .aload_n 0, 0, 0), (1, .invokevirtual 55, 258, 0), (4, .iconst 1, 3, 0), (5, .isub, 0, 0), (6, .aload_n 0, 0, 0), (7, .getfield 7, 159, 0), (10, .iconst 1, 3, 0), (11, .iaload, 0, 0), (12, .imul, 0, 0), (13, .ireturn, 0, 0)]
theorem tk_X9_units : ∀ e ∈ tb_X9_units, pm_ck 154 e = true := List.all_eq_true.mp (by decide +kernel)
set_option maxRecDepth 20000 in
theorem e_X9_units (d : Nat) (hd : 2 ≤ d) (gx : List pm_E) (gs : List (List pm_E)) (q : Nat × Nat × Nat) (s : mo_S) (r : Int32) (H : f_X9_units s = some r) : pm_Mt 154 d [.ref 64] (mo_h gx s gs q) (.inl (some (.int r))) (mo_h gx s gs q) := by
  refine pm_Mt.of (by decide) (by decide +kernel) rfl rfl ?_
  obtain ⟨d, rfl⟩ : ∃ d', d = d' + 1 := ⟨d - 1, by omega⟩
  unfold f_X9_units at H
  cases q2 : f_X9_disks s with
  | none => rw [q2] at H; cases H
  | some r1 =>
   rw [q2] at H
   dsimp only at H
   refine pm_Wg.path (k := 1) (ds := []) (f' := (1, [some (.ref 64)], [.ref 64], mo_h gx s gs q)) tk_X9_units (by omega) rfl trivial ?_
   refine pm_Wg.callV (m' := 150) (ix := 55) (rr := 258) (pl := 1618) (b := 64) (As := []) (S := []) (by decide) rfl (pm_dec tk_X9_units rfl) rfl rfl (by decide) rfl rfl (by decide) (Nat.le_of_ble_eq_true rfl) rfl (e_X9_disks d (by omega) gx gs q _ _ q2) ?_
   cases b3 : pm_inb 1 26 with
   | false => rw [b3] at H; cases H
   | true =>
    rw [b3] at H
    dsimp only at H
    cases H
    refine pm_Wg.path (k := 7) (ds := []) (f' := (13, [some (.ref 64)], [.int ((r1 - 1) * (s.2.2.1 0 (Int32.toNatClampNeg 1)))], mo_h gx s gs q)) tk_X9_units (by omega) rfl ⟨pm_inb_vp b3, trivial⟩ ?_
    exact pm_Wg.iret (pm_dec tk_X9_units rfl) rfl rfl

def f_X9_isUnit (s : mo_S) (a0 : Int32) : Option Int32 :=
  (match f_X9_isArray s with
  | none => none
  | some r1 =>
   (if r1 = 0 then
    some 0
   else
    (match f_X9_units s with
    | none => none
    | some r4 =>
     (match f_X9_in s a0 0 (r4 - 1) with
     | none => none
     | some r6 =>
      (if r6 = 0 then
       some 0
      else
       some 1)))))
def tb_X9_isUnit : List pm_I := [(0, .aload_n 0, 0, 0), (1, .invokevirtual 51, 254, 0), (4, .ifCond .eq 21, 25, 0), (7, .iload_n 1, 0, 0), (8, .iconst 0, 2, 0), (9, .aload_n 0, 0, 0), (10, .invokevirtual 63, 257, 0), (13, .iconst 1, 3, 0), (14, .isub, 0, 0), (15, .invokestatic 59, 233, 0), (18, .ifCond .eq 7, 25, 0), (21, .iconst 1, 3, 0), (22, .goto 4, 26, 0), (25, .iconst 0, 2, 0), (26, .ireturn, 0, 0)]
theorem tk_X9_isUnit : ∀ e ∈ tb_X9_isUnit, pm_ck 155 e = true := List.all_eq_true.mp (by decide +kernel)
set_option maxRecDepth 20000 in
theorem e_X9_isUnit (d : Nat) (hd : 3 ≤ d) (gx : List pm_E) (gs : List (List pm_E)) (q : Nat × Nat × Nat) (s : mo_S) (a0 : Int32) (r : Int32) (H : f_X9_isUnit s a0 = some r) : pm_Mt 155 d [.ref 64, .int a0] (mo_h gx s gs q) (.inl (some (.int r))) (mo_h gx s gs q) := by
  refine pm_Mt.of (by decide) (by decide +kernel) rfl rfl ?_
  obtain ⟨d, rfl⟩ : ∃ d', d = d' + 1 := ⟨d - 1, by omega⟩
  unfold f_X9_isUnit at H
  cases q2 : f_X9_isArray s with
  | none => rw [q2] at H; cases H
  | some r1 =>
   rw [q2] at H
   dsimp only at H
   refine pm_Wg.path (k := 1) (ds := []) (f' := (1, [some (.ref 64), some (.int a0)], [.ref 64], mo_h gx s gs q)) tk_X9_isUnit (by omega) rfl trivial ?_
   refine pm_Wg.callV (m' := 149) (ix := 51) (rr := 254) (pl := 1598) (b := 64) (As := []) (S := []) (by decide) rfl (pm_dec tk_X9_isUnit rfl) rfl rfl (by decide) rfl rfl (by decide) (Nat.le_of_ble_eq_true rfl) rfl (e_X9_isArray d (by omega) gx gs q _ _ q2) ?_
   by_cases h3 : r1 = 0
   · rw [if_pos h3] at H
     cases H
     refine pm_Wg.path (k := 2) (ds := [1]) (f' := (26, [some (.ref 64), some (.int a0)], [.int 0], mo_h gx s gs q)) tk_X9_isUnit (by omega) rfl ⟨h3, trivial⟩ ?_
     exact pm_Wg.iret (pm_dec tk_X9_isUnit rfl) rfl rfl
   · rw [if_neg h3] at H
     cases q5 : f_X9_units s with
     | none => rw [q5] at H; cases H
     | some r4 =>
      rw [q5] at H
      dsimp only at H
      refine pm_Wg.path (k := 4) (ds := [0]) (f' := (10, [some (.ref 64), some (.int a0)], [.ref 64, .int 0, .int a0], mo_h gx s gs q)) tk_X9_isUnit (by omega) rfl ⟨h3, trivial⟩ ?_
      refine pm_Wg.callV (m' := 154) (ix := 63) (rr := 257) (pl := 1614) (b := 64) (As := []) (S := [.int 0, .int a0]) (by decide) rfl (pm_dec tk_X9_isUnit rfl) rfl rfl (by decide) rfl rfl (by decide) (Nat.le_of_ble_eq_true rfl) rfl (e_X9_units d (by omega) gx gs q _ _ q5) ?_
      cases q7 : f_X9_in s a0 0 (r4 - 1) with
      | none => rw [q7] at H; cases H
      | some r6 =>
       rw [q7] at H
       dsimp only at H
       refine pm_Wg.path (k := 2) (ds := []) (f' := (15, [some (.ref 64), some (.int a0)], [.int (r4 - 1), .int 0, .int a0], mo_h gx s gs q)) tk_X9_isUnit (by omega) rfl trivial ?_
       refine pm_Wg.callS (m' := 147) (ix := 59) (rr := 233) (pl := 1507) (As := [.int a0, .int 0, .int (r4 - 1)]) (S := []) (by decide) rfl (pm_dec tk_X9_isUnit rfl) rfl rfl rfl (Nat.le_of_ble_eq_true rfl) rfl (e_X9_in d (by omega) gx gs q _ _ _ _ _ q7) ?_
       by_cases h8 : r6 = 0
       · rw [if_pos h8] at H
         cases H
         refine pm_Wg.path (k := 2) (ds := [1]) (f' := (26, [some (.ref 64), some (.int a0)], [.int 0], mo_h gx s gs q)) tk_X9_isUnit (by omega) rfl ⟨h8, trivial⟩ ?_
         exact pm_Wg.iret (pm_dec tk_X9_isUnit rfl) rfl rfl
       · rw [if_neg h8] at H
         cases H
         refine pm_Wg.path (k := 3) (ds := [0]) (f' := (26, [some (.ref 64), some (.int a0)], [.int 1], mo_h gx s gs q)) tk_X9_isUnit (by omega) rfl ⟨h8, trivial⟩ ?_
         exact pm_Wg.iret (pm_dec tk_X9_isUnit rfl) rfl rfl

def f_X9_isRequest (s : mo_S) (a0 : Int32) : Option Int32 :=
  (match pm_inb 2 18186 with
  | false => none
  | true =>
  (match f_X9_in s a0 0 ((s.2.2.1 3 (Int32.toNatClampNeg 2)) - 1) with
  | none => none
  | some r2 =>
   (if r2 &&& 1 = r2 then some r2 else none)))
def tb_X9_isRequest : List pm_I := [(0, .iload_n 1, 0, 0), (1, .iconst 0, 2, 0), (2, .aload_n 0, 0, 0), (3, .getfield 16, 162, 0), (6, .iconst 2, 4, 0), (7, .iaload, 0, 0), (8, .iconst 1, 3, 0), (9, .isub, 0, 0), (10, .invokestatic 59, 233, 0), (13, .ireturn, 0, 0)]
theorem tk_X9_isRequest : ∀ e ∈ tb_X9_isRequest, pm_ck 156 e = true := List.all_eq_true.mp (by decide +kernel)
set_option maxRecDepth 20000 in
theorem e_X9_isRequest (d : Nat) (hd : 2 ≤ d) (gx : List pm_E) (gs : List (List pm_E)) (q : Nat × Nat × Nat) (s : mo_S) (a0 : Int32) (r : Int32) (H : f_X9_isRequest s a0 = some r) : pm_Mt 156 d [.ref 64, .int a0] (mo_h gx s gs q) (.inl (some (.int r))) (mo_h gx s gs q) := by
  refine pm_Mt.of (by decide) (by decide +kernel) rfl rfl ?_
  obtain ⟨d, rfl⟩ : ∃ d', d = d' + 1 := ⟨d - 1, by omega⟩
  unfold f_X9_isRequest at H
  cases b1 : pm_inb 2 18186 with
  | false => rw [b1] at H; cases H
  | true =>
   rw [b1] at H
   dsimp only at H
   cases q3 : f_X9_in s a0 0 ((s.2.2.1 3 (Int32.toNatClampNeg 2)) - 1) with
   | none => rw [q3] at H; cases H
   | some r2 =>
    rw [q3] at H
    dsimp only at H
    refine pm_Wg.path (k := 8) (ds := []) (f' := (10, [some (.ref 64), some (.int a0)], [.int ((s.2.2.1 3 (Int32.toNatClampNeg 2)) - 1), .int 0, .int a0], mo_h gx s gs q)) tk_X9_isRequest (by omega) rfl ⟨pm_inb_vp b1, trivial⟩ ?_
    refine pm_Wg.callS (m' := 147) (ix := 59) (rr := 233) (pl := 1507) (As := [.int a0, .int 0, .int ((s.2.2.1 3 (Int32.toNatClampNeg 2)) - 1)]) (S := []) (by decide) rfl (pm_dec tk_X9_isRequest rfl) rfl rfl rfl (Nat.le_of_ble_eq_true rfl) rfl (e_X9_in d (by omega) gx gs q _ _ _ _ _ q3) ?_
    by_cases z4 : r2 &&& 1 = r2
    case neg => rw [if_neg z4] at H; cases H
    rw [if_pos z4] at H
    cases H
    exact pm_Wg.iret (pm_dec tk_X9_isRequest rfl) rfl (pm_nb1 z4)
