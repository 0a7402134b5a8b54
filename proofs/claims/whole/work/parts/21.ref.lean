/-! The reference's methods without loops, by program (wip/whole/dec.py). -/
def f_X9_thrown (s : mo_S) : Option Int32 :=
  some (s.1 2)
def tb_X9_thrown : List pm_I := [(0, .aload_n 0, 0, 0), (1, .getfield 45, 161, 0), (4, .ireturn, 0, 0)]
theorem tk_X9_thrown : ∀ e ∈ tb_X9_thrown, pm_ck 144 e = true := List.all_eq_true.mp (by decide +kernel)
set_option maxRecDepth 20000 in
set_option maxHeartbeats 20000000 in
theorem e_X9_thrown (d : Nat) (hd : 1 ≤ d) (gx : List pm_E) (gs : List (List pm_E)) (q : Nat × Nat × Nat) (s : mo_S) (r : Int32) (H : f_X9_thrown s = some r) : pm_Mt 144 d [.ref 64] (mo_h gx s gs q) (.inl (some (.int r))) (mo_h gx s gs q) := by
  refine pm_Mt.of (by decide) (by decide +kernel) rfl rfl ?_
  unfold f_X9_thrown at H
  have H1 := Option.some.inj H
  subst H1
  refine pm_Wg.path (k := 2) (ds := []) (f' := (4, [some (.ref 64)], [.int (s.1 2)], mo_h gx s gs q)) tk_X9_thrown (by omega) rfl trivial ?_
  exact pm_Wg.iret (pm_dec tk_X9_thrown rfl) rfl rfl

def f_X9_refuse (s : mo_S) (a0 : Int32) : Option (Int32 × mo_S) :=
  some (0, (mo_i s 2 a0))
def tb_X9_refuse : List pm_I := [(0, .aload_n 0, 0, 0), (1, .iload_n 1, 0, 0), (2, .putfield 45, 161, 0), (5, .iconst 0, 2, 0), (6, .ireturn, 0, 0)]
theorem tk_X9_refuse : ∀ e ∈ tb_X9_refuse, pm_ck 145 e = true := List.all_eq_true.mp (by decide +kernel)
set_option maxRecDepth 20000 in
set_option maxHeartbeats 20000000 in
theorem e_X9_refuse (d : Nat) (hd : 1 ≤ d) (gx : List pm_E) (gs : List (List pm_E)) (q : Nat × Nat × Nat) (s : mo_S) (a0 : Int32) (r : Int32) (s1 : mo_S) (H : f_X9_refuse s a0 = some (r, s1)) : pm_Mt 145 d [.ref 64, .int a0] (mo_h gx s gs q) (.inl (some (.int r))) (mo_h gx s1 gs q) := by
  refine pm_Mt.of (by decide) (by decide +kernel) rfl rfl ?_
  unfold f_X9_refuse at H
  injection H with H
  injection H with H1 H2
  subst H1
  subst H2
  refine pm_Wg.path (k := 4) (ds := []) (f' := (6, [some (.ref 64), some (.int a0)], [.int 0], mo_h gx (mo_i s 2 a0) gs q)) tk_X9_refuse (by omega) rfl trivial ?_
  exact pm_Wg.iret (pm_dec tk_X9_refuse rfl) rfl rfl

def f_X9_told (s : mo_S) (a0 : Int32) : Option (Int32 × mo_S) :=
  some (a0, (mo_i s 2 0))
def tb_X9_told : List pm_I := [(0, .aload_n 0, 0, 0), (1, .iconst 0, 2, 0), (2, .putfield 45, 161, 0), (5, .iload_n 1, 0, 0), (6, .ireturn, 0, 0)]
theorem tk_X9_told : ∀ e ∈ tb_X9_told, pm_ck 146 e = true := List.all_eq_true.mp (by decide +kernel)
set_option maxRecDepth 20000 in
set_option maxHeartbeats 20000000 in
theorem e_X9_told (d : Nat) (hd : 1 ≤ d) (gx : List pm_E) (gs : List (List pm_E)) (q : Nat × Nat × Nat) (s : mo_S) (a0 : Int32) (r : Int32) (s1 : mo_S) (H : f_X9_told s a0 = some (r, s1)) : pm_Mt 146 d [.ref 64, .int a0] (mo_h gx s gs q) (.inl (some (.int r))) (mo_h gx s1 gs q) := by
  refine pm_Mt.of (by decide) (by decide +kernel) rfl rfl ?_
  unfold f_X9_told at H
  injection H with H
  injection H with H1 H2
  subst H1
  subst H2
  refine pm_Wg.path (k := 4) (ds := []) (f' := (6, [some (.ref 64), some (.int a0)], [.int a0], mo_h gx (mo_i s 2 0) gs q)) tk_X9_told (by omega) rfl trivial ?_
  exact pm_Wg.iret (pm_dec tk_X9_told rfl) rfl rfl

def f_X9_in (s : mo_S) (a0 : Int32) (a1 : Int32) (a2 : Int32) : Option Int32 :=
  (if a0 < a1 then
   some 0
  else
   (if a2 < a0 then
    some 0
   else
    some 1))
def tb_X9_in : List pm_I := [(0, .iload_n 0, 0, 0), (1, .iload_n 1, 0, 0), (2, .if_icmp .lt 12, 14, 0), (5, .iload_n 0, 0, 0), (6, .iload_n 2, 0, 0), (7, .if_icmp .gt 7, 14, 0), (10, .iconst 1, 3, 0), (11, .goto 4, 15, 0), (14, .iconst 0, 2, 0), (15, .ireturn, 0, 0)]
theorem tk_X9_in : ∀ e ∈ tb_X9_in, pm_ck 147 e = true := List.all_eq_true.mp (by decide +kernel)
set_option maxRecDepth 20000 in
set_option maxHeartbeats 20000000 in
theorem e_X9_in (d : Nat) (hd : 1 ≤ d) (gx : List pm_E) (gs : List (List pm_E)) (q : Nat × Nat × Nat) (s : mo_S) (a0 : Int32) (a1 : Int32) (a2 : Int32) (r : Int32) (H : f_X9_in s a0 a1 a2 = some r) : pm_Mt 147 d [.int a0, .int a1, .int a2] (mo_h gx s gs q) (.inl (some (.int r))) (mo_h gx s gs q) := by
  refine pm_Mt.of (by decide) (by decide +kernel) rfl rfl ?_
  unfold f_X9_in at H
  by_cases h1 : a0 < a1
  · rw [if_pos h1] at H
    have H1 := Option.some.inj H
    subst H1
    refine pm_Wg.path (k := 4) (ds := [1]) (f' := (15, [some (.int a0), some (.int a1), some (.int a2)], [.int 0], mo_h gx s gs q)) tk_X9_in (by omega) rfl ⟨h1, trivial⟩ ?_
    exact pm_Wg.iret (pm_dec tk_X9_in rfl) rfl rfl
  · rw [if_neg h1] at H
    by_cases h2 : a2 < a0
    · rw [if_pos h2] at H
      have H1 := Option.some.inj H
      subst H1
      refine pm_Wg.path (k := 7) (ds := [0, 1]) (f' := (15, [some (.int a0), some (.int a1), some (.int a2)], [.int 0], mo_h gx s gs q)) tk_X9_in (by omega) rfl ⟨h2, h1, trivial⟩ ?_
      exact pm_Wg.iret (pm_dec tk_X9_in rfl) rfl rfl
    · rw [if_neg h2] at H
      have H1 := Option.some.inj H
      subst H1
      refine pm_Wg.path (k := 8) (ds := [0, 0]) (f' := (15, [some (.int a0), some (.int a1), some (.int a2)], [.int 1], mo_h gx s gs q)) tk_X9_in (by omega) rfl ⟨h2, h1, trivial⟩ ?_
      exact pm_Wg.iret (pm_dec tk_X9_in rfl) rfl rfl

def f_X9_isArray (s : mo_S) : Option Int32 :=
  (match pm_inb 0 26 with
  | false => none
  | true =>
  (if (s.2.2.1 0 (Int32.toNatClampNeg 0)) ≤ 0 then
   some 0
  else
   some 1))
def tb_X9_isArray : List pm_I := [(0, .aload_n 0, 0, 0), (1, .getfield 7, 159, 0), (4, .iconst 0, 2, 0), (5, .iaload, 0, 0), (6, .ifCond .le 7, 13, 0), (9, .iconst 1, 3, 0), (10, .goto 4, 14, 0), (13, .iconst 0, 2, 0), (14, .ireturn, 0, 0)]
theorem tk_X9_isArray : ∀ e ∈ tb_X9_isArray, pm_ck 149 e = true := List.all_eq_true.mp (by decide +kernel)
set_option maxRecDepth 20000 in
set_option maxHeartbeats 20000000 in
theorem e_X9_isArray (d : Nat) (hd : 1 ≤ d) (gx : List pm_E) (gs : List (List pm_E)) (q : Nat × Nat × Nat) (s : mo_S) (r : Int32) (H : f_X9_isArray s = some r) : pm_Mt 149 d [.ref 64] (mo_h gx s gs q) (.inl (some (.int r))) (mo_h gx s gs q) := by
  refine pm_Mt.of (by decide) (by decide +kernel) rfl rfl ?_
  unfold f_X9_isArray at H
  cases b1 : pm_inb 0 26 with
  | false => rw [b1] at H; cases H
  | true =>
   rw [b1] at H
   dsimp only at H
   by_cases h2 : (s.2.2.1 0 (Int32.toNatClampNeg 0)) ≤ 0
   · rw [if_pos h2] at H
     have H1 := Option.some.inj H
     subst H1
     refine pm_Wg.path (k := 6) (ds := [1]) (f' := (14, [some (.ref 64)], [.int 0], mo_h gx s gs q)) tk_X9_isArray (by omega) rfl ⟨h2, pm_inb_vp b1, trivial⟩ ?_
     exact pm_Wg.iret (pm_dec tk_X9_isArray rfl) rfl rfl
   · rw [if_neg h2] at H
     have H1 := Option.some.inj H
     subst H1
     refine pm_Wg.path (k := 7) (ds := [0]) (f' := (14, [some (.ref 64)], [.int 1], mo_h gx s gs q)) tk_X9_isArray (by omega) rfl ⟨h2, pm_inb_vp b1, trivial⟩ ?_
     exact pm_Wg.iret (pm_dec tk_X9_isArray rfl) rfl rfl

def f_X9_disks (s : mo_S) : Option Int32 :=
  (match pm_inb 0 26 with
  | false => none
  | true =>
  some (s.2.2.1 0 (Int32.toNatClampNeg 0)))
def tb_X9_disks : List pm_I := [(0, .aload_n 0, 0, 0), (1, .getfield 7, 159, 0), (4, .iconst 0, 2, 0), (5, .iaload, 0, 0), (6, .ireturn, 0, 0)]
theorem tk_X9_disks : ∀ e ∈ tb_X9_disks, pm_ck 150 e = true := List.all_eq_true.mp (by decide +kernel)
set_option maxRecDepth 20000 in
set_option maxHeartbeats 20000000 in
theorem e_X9_disks (d : Nat) (hd : 1 ≤ d) (gx : List pm_E) (gs : List (List pm_E)) (q : Nat × Nat × Nat) (s : mo_S) (r : Int32) (H : f_X9_disks s = some r) : pm_Mt 150 d [.ref 64] (mo_h gx s gs q) (.inl (some (.int r))) (mo_h gx s gs q) := by
  refine pm_Mt.of (by decide) (by decide +kernel) rfl rfl ?_
  unfold f_X9_disks at H
  cases b1 : pm_inb 0 26 with
  | false => rw [b1] at H; cases H
  | true =>
   rw [b1] at H
   dsimp only at H
   have H1 := Option.some.inj H
   subst H1
   refine pm_Wg.path (k := 4) (ds := []) (f' := (6, [some (.ref 64)], [.int (s.2.2.1 0 (Int32.toNatClampNeg 0))], mo_h gx s gs q)) tk_X9_disks (by omega) rfl ⟨pm_inb_vp b1, trivial⟩ ?_
   exact pm_Wg.iret (pm_dec tk_X9_disks rfl) rfl rfl

def f_X9_isDisk (s : mo_S) (a0 : Int32) : Option Int32 :=
  (match f_X9_isArray s with
  | none => none
  | some r1 =>
   (if r1 = 0 then
    some 0
   else
    (match f_X9_disks s with
    | none => none
    | some r4 =>
     (match f_X9_in s a0 0 r4 with
     | none => none
     | some r6 =>
      (if r6 = 0 then
       some 0
      else
       some 1)))))
def tb_X9_isDisk : List pm_I := [(0, .aload_n 0, 0, 0), (1, .invokevirtual 51, 254, 0), (4, .ifCond .eq 19, 23, 0), (7, .iload_n 1, 0, 0), (8, .iconst 0, 2, 0), (9, .aload_n 0, 0, 0), (10, .invokevirtual 55, 258, 0), (13, .invokestatic 59, 233, 0), (16, .ifCond .eq 7, 23, 0), (19, .iconst 1, 3, 0), (20, .goto 4, 24, 0), (23, .iconst 0, 2, 0), (24, .ireturn, 0, 0)]
theorem tk_X9_isDisk : ∀ e ∈ tb_X9_isDisk, pm_ck 151 e = true := List.all_eq_true.mp (by decide +kernel)
set_option maxRecDepth 20000 in
set_option maxHeartbeats 20000000 in
theorem e_X9_isDisk (d : Nat) (hd : 2 ≤ d) (gx : List pm_E) (gs : List (List pm_E)) (q : Nat × Nat × Nat) (s : mo_S) (a0 : Int32) (r : Int32) (H : f_X9_isDisk s a0 = some r) : pm_Mt 151 d [.ref 64, .int a0] (mo_h gx s gs q) (.inl (some (.int r))) (mo_h gx s gs q) := by
  refine pm_Mt.of (by decide) (by decide +kernel) rfl rfl ?_
  obtain ⟨d, rfl⟩ : ∃ d', d = d' + 1 := ⟨d - 1, by omega⟩
  unfold f_X9_isDisk at H
  cases q2 : f_X9_isArray s with
  | none => rw [q2] at H; cases H
  | some r1 =>
   rw [q2] at H
   dsimp only at H
   refine pm_Wg.path (k := 1) (ds := []) (f' := (1, [some (.ref 64), some (.int a0)], [.ref 64], mo_h gx s gs q)) tk_X9_isDisk (by omega) rfl trivial ?_
   refine pm_Wg.callV (m' := 149) (ix := 51) (rr := 254) (pl := 1598) (b := 64) (As := []) (S := []) (by decide) rfl (pm_dec tk_X9_isDisk rfl) rfl rfl (by decide) rfl rfl (by decide) (Nat.le_of_ble_eq_true rfl) rfl (e_X9_isArray d (by omega) gx gs q _ _ q2) ?_
   by_cases h3 : r1 = 0
   · rw [if_pos h3] at H
     have H1 := Option.some.inj H
     subst H1
     refine pm_Wg.path (k := 2) (ds := [1]) (f' := (24, [some (.ref 64), some (.int a0)], [.int 0], mo_h gx s gs q)) tk_X9_isDisk (by omega) rfl ⟨h3, trivial⟩ ?_
     exact pm_Wg.iret (pm_dec tk_X9_isDisk rfl) rfl rfl
   · rw [if_neg h3] at H
     cases q5 : f_X9_disks s with
     | none => rw [q5] at H; cases H
     | some r4 =>
      rw [q5] at H
      dsimp only at H
      refine pm_Wg.path (k := 4) (ds := [0]) (f' := (10, [some (.ref 64), some (.int a0)], [.ref 64, .int 0, .int a0], mo_h gx s gs q)) tk_X9_isDisk (by omega) rfl ⟨h3, trivial⟩ ?_
      refine pm_Wg.callV (m' := 150) (ix := 55) (rr := 258) (pl := 1618) (b := 64) (As := []) (S := [.int 0, .int a0]) (by decide) rfl (pm_dec tk_X9_isDisk rfl) rfl rfl (by decide) rfl rfl (by decide) (Nat.le_of_ble_eq_true rfl) rfl (e_X9_disks d (by omega) gx gs q _ _ q5) ?_
      cases q7 : f_X9_in s a0 0 r4 with
      | none => rw [q7] at H; cases H
      | some r6 =>
       rw [q7] at H
       dsimp only at H
       refine pm_Wg.callS (m' := 147) (ix := 59) (rr := 233) (pl := 1507) (As := [.int a0, .int 0, .int r4]) (S := []) (by decide) rfl (pm_dec tk_X9_isDisk rfl) rfl rfl rfl (Nat.le_of_ble_eq_true rfl) rfl (e_X9_in d (by omega) gx gs q _ _ _ _ _ q7) ?_
       by_cases h8 : r6 = 0
       · rw [if_pos h8] at H
         have H1 := Option.some.inj H
         subst H1
         refine pm_Wg.path (k := 2) (ds := [1]) (f' := (24, [some (.ref 64), some (.int a0)], [.int 0], mo_h gx s gs q)) tk_X9_isDisk (by omega) rfl ⟨h8, trivial⟩ ?_
         exact pm_Wg.iret (pm_dec tk_X9_isDisk rfl) rfl rfl
       · rw [if_neg h8] at H
         have H1 := Option.some.inj H
         subst H1
         refine pm_Wg.path (k := 3) (ds := [0]) (f' := (24, [some (.ref 64), some (.int a0)], [.int 1], mo_h gx s gs q)) tk_X9_isDisk (by omega) rfl ⟨h8, trivial⟩ ?_
         exact pm_Wg.iret (pm_dec tk_X9_isDisk rfl) rfl rfl

def f_X9_isStripe (s : mo_S) (a0 : Int32) : Option Int32 :=
  (match pm_inb 1 26 with
  | false => none
  | true =>
  (match f_X9_in s a0 0 ((s.2.2.1 0 (Int32.toNatClampNeg 1)) - 1) with
  | none => none
  | some r2 =>
   (if r2 &&& 1 = r2 then some r2 else none)))
def tb_X9_isStripe : List pm_I := [(0, .iload_n 1, 0, 0), (1, .iconst 0, 2, 0), (2, .aload_n 0, 0, 0), (3, .getfield 7, 159, 0), (6, .iconst 1, 3, 0), (7, .iaload, 0, 0), (8, .iconst 1, 3, 0), (9, .isub, 0, 0), (10, .invokestatic 59, 233, 0), (13, .ireturn, 0, 0)]
theorem tk_X9_isStripe : ∀ e ∈ tb_X9_isStripe, pm_ck 152 e = true := List.all_eq_true.mp (by decide +kernel)
set_option maxRecDepth 20000 in
set_option maxHeartbeats 20000000 in
theorem e_X9_isStripe (d : Nat) (hd : 2 ≤ d) (gx : List pm_E) (gs : List (List pm_E)) (q : Nat × Nat × Nat) (s : mo_S) (a0 : Int32) (r : Int32) (H : f_X9_isStripe s a0 = some r) : pm_Mt 152 d [.ref 64, .int a0] (mo_h gx s gs q) (.inl (some (.int r))) (mo_h gx s gs q) := by
  refine pm_Mt.of (by decide) (by decide +kernel) rfl rfl ?_
  obtain ⟨d, rfl⟩ : ∃ d', d = d' + 1 := ⟨d - 1, by omega⟩
  unfold f_X9_isStripe at H
  cases b1 : pm_inb 1 26 with
  | false => rw [b1] at H; cases H
  | true =>
   rw [b1] at H
   dsimp only at H
   cases q3 : f_X9_in s a0 0 ((s.2.2.1 0 (Int32.toNatClampNeg 1)) - 1) with
   | none => rw [q3] at H; cases H
   | some r2 =>
    rw [q3] at H
    dsimp only at H
    refine pm_Wg.path (k := 8) (ds := []) (f' := (10, [some (.ref 64), some (.int a0)], [.int ((s.2.2.1 0 (Int32.toNatClampNeg 1)) - 1), .int 0, .int a0], mo_h gx s gs q)) tk_X9_isStripe (by omega) rfl ⟨pm_inb_vp b1, trivial⟩ ?_
    refine pm_Wg.callS (m' := 147) (ix := 59) (rr := 233) (pl := 1507) (As := [.int a0, .int 0, .int ((s.2.2.1 0 (Int32.toNatClampNeg 1)) - 1)]) (S := []) (by decide) rfl (pm_dec tk_X9_isStripe rfl) rfl rfl rfl (Nat.le_of_ble_eq_true rfl) rfl (e_X9_in d (by omega) gx gs q _ _ _ _ _ q3) ?_
    by_cases z4 : r2 &&& 1 = r2
    case neg => rw [if_neg z4] at H; cases H
    rw [if_pos z4] at H
    have H1 := Option.some.inj H
    subst H1
    exact pm_Wg.iret (pm_dec tk_X9_isStripe rfl) rfl (pm_nb1 z4)

def f_X9_isTenant (s : mo_S) (a0 : Int32) : Option Int32 :=
  (match pm_inb 6 26 with
  | false => none
  | true =>
  (match f_X9_in s a0 0 ((s.2.2.1 0 (Int32.toNatClampNeg 6)) - 1) with
  | none => none
  | some r2 =>
   (if r2 &&& 1 = r2 then some r2 else none)))
def tb_X9_isTenant : List pm_I := [(0, .iload_n 1, 0, 0), (1, .iconst 0, 2, 0), (2, .aload_n 0, 0, 0), (3, .getfield 7, 159, 0), (6, .bipush 6, 8, 0), (8, .iaload, 0, 0), (9, .iconst 1, 3, 0), (10, .isub, 0, 0), (11, .invokestatic 59, 233, 0), (14, .ireturn, 0, 0)]
theorem tk_X9_isTenant : ∀ e ∈ tb_X9_isTenant, pm_ck 153 e = true := List.all_eq_true.mp (by decide +kernel)
set_option maxRecDepth 20000 in
set_option maxHeartbeats 20000000 in
theorem e_X9_isTenant (d : Nat) (hd : 2 ≤ d) (gx : List pm_E) (gs : List (List pm_E)) (q : Nat × Nat × Nat) (s : mo_S) (a0 : Int32) (r : Int32) (H : f_X9_isTenant s a0 = some r) : pm_Mt 153 d [.ref 64, .int a0] (mo_h gx s gs q) (.inl (some (.int r))) (mo_h gx s gs q) := by
  refine pm_Mt.of (by decide) (by decide +kernel) rfl rfl ?_
  obtain ⟨d, rfl⟩ : ∃ d', d = d' + 1 := ⟨d - 1, by omega⟩
  unfold f_X9_isTenant at H
  cases b1 : pm_inb 6 26 with
  | false => rw [b1] at H; cases H
  | true =>
   rw [b1] at H
   dsimp only at H
   cases q3 : f_X9_in s a0 0 ((s.2.2.1 0 (Int32.toNatClampNeg 6)) - 1) with
   | none => rw [q3] at H; cases H
   | some r2 =>
    rw [q3] at H
    dsimp only at H
    refine pm_Wg.path (k := 8) (ds := []) (f' := (11, [some (.ref 64), some (.int a0)], [.int ((s.2.2.1 0 (Int32.toNatClampNeg 6)) - 1), .int 0, .int a0], mo_h gx s gs q)) tk_X9_isTenant (by omega) rfl ⟨pm_inb_vp b1, trivial⟩ ?_
    refine pm_Wg.callS (m' := 147) (ix := 59) (rr := 233) (pl := 1507) (As := [.int a0, .int 0, .int ((s.2.2.1 0 (Int32.toNatClampNeg 6)) - 1)]) (S := []) (by decide) rfl (pm_dec tk_X9_isTenant rfl) rfl rfl rfl (Nat.le_of_ble_eq_true rfl) rfl (e_X9_in d (by omega) gx gs q _ _ _ _ _ q3) ?_
    by_cases z4 : r2 &&& 1 = r2
    case neg => rw [if_neg z4] at H; cases H
    rw [if_pos z4] at H
    have H1 := Option.some.inj H
    subst H1
    exact pm_Wg.iret (pm_dec tk_X9_isTenant rfl) rfl (pm_nb1 z4)

def f_X9_units (s : mo_S) : Option Int32 :=
  (match f_X9_disks s with
  | none => none
  | some r1 =>
   (match pm_inb 1 26 with
   | false => none
   | true =>
   some ((r1 - 1) * (s.2.2.1 0 (Int32.toNatClampNeg 1)))))
def tb_X9_units : List pm_I := [(0, .aload_n 0, 0, 0), (1, .invokevirtual 55, 258, 0), (4, .iconst 1, 3, 0), (5, .isub, 0, 0), (6, .aload_n 0, 0, 0), (7, .getfield 7, 159, 0), (10, .iconst 1, 3, 0), (11, .iaload, 0, 0), (12, .imul, 0, 0), (13, .ireturn, 0, 0)]
theorem tk_X9_units : ∀ e ∈ tb_X9_units, pm_ck 154 e = true := List.all_eq_true.mp (by decide +kernel)
set_option maxRecDepth 20000 in
set_option maxHeartbeats 20000000 in
theorem e_X9_units (d : Nat) (hd : 2 ≤ d) (gx : List pm_E) (gs : List (List pm_E)) (q : Nat × Nat × Nat) (s : mo_S) (r : Int32) (H : f_X9_units s = some r) : pm_Mt 154 d [.ref 64] (mo_h gx s gs q) (.inl (some (.int r))) (mo_h gx s gs q) := by
  refine pm_Mt.of (by decide) (by decide +kernel) rfl rfl ?_
  obtain ⟨d, rfl⟩ : ∃ d', d = d' + 1 := ⟨d - 1, by omega⟩
  unfold f_X9_units at H
  cases q2 : f_X9_disks s with
  | none => rw [q2] at H; cases H
  | some r1 =>
   rw [q2] at H
   dsimp only at H
   refine pm_Wg.path (k := 1) (ds := []) (f' := (1, [some (.ref 64)], [.ref 64], mo_h gx s gs q)) tk_X9_units (by omega) rfl trivial ?_
   refine pm_Wg.callV (m' := 150) (ix := 55) (rr := 258) (pl := 1618) (b := 64) (As := []) (S := []) (by decide) rfl (pm_dec tk_X9_units rfl) rfl rfl (by decide) rfl rfl (by decide) (Nat.le_of_ble_eq_true rfl) rfl (e_X9_disks d (by omega) gx gs q _ _ q2) ?_
   cases b3 : pm_inb 1 26 with
   | false => rw [b3] at H; cases H
   | true =>
    rw [b3] at H
    dsimp only at H
    have H1 := Option.some.inj H
    subst H1
    refine pm_Wg.path (k := 7) (ds := []) (f' := (13, [some (.ref 64)], [.int ((r1 - 1) * (s.2.2.1 0 (Int32.toNatClampNeg 1)))], mo_h gx s gs q)) tk_X9_units (by omega) rfl ⟨pm_inb_vp b3, trivial⟩ ?_
    exact pm_Wg.iret (pm_dec tk_X9_units rfl) rfl rfl

def f_X9_isUnit (s : mo_S) (a0 : Int32) : Option Int32 :=
  (match f_X9_isArray s with
  | none => none
  | some r1 =>
   (if r1 = 0 then
    some 0
   else
    (match f_X9_units s with
    | none => none
    | some r4 =>
     (match f_X9_in s a0 0 (r4 - 1) with
     | none => none
     | some r6 =>
      (if r6 = 0 then
       some 0
      else
       some 1)))))
def tb_X9_isUnit : List pm_I := [(0, .aload_n 0, 0, 0), (1, .invokevirtual 51, 254, 0), (4, .ifCond .eq 21, 25, 0), (7, .iload_n 1, 0, 0), (8, .iconst 0, 2, 0), (9, .aload_n 0, 0, 0), (10, .invokevirtual 63, 257, 0), (13, .iconst 1, 3, 0), (14, .isub, 0, 0), (15, .invokestatic 59, 233, 0), (18, .ifCond .eq 7, 25, 0), (21, .iconst 1, 3, 0), (22, .goto 4, 26, 0), (25, .iconst 0, 2, 0), (26, .ireturn, 0, 0)]
theorem tk_X9_isUnit : ∀ e ∈ tb_X9_isUnit, pm_ck 155 e = true := List.all_eq_true.mp (by decide +kernel)
set_option maxRecDepth 20000 in
set_option maxHeartbeats 20000000 in
theorem e_X9_isUnit (d : Nat) (hd : 3 ≤ d) (gx : List pm_E) (gs : List (List pm_E)) (q : Nat × Nat × Nat) (s : mo_S) (a0 : Int32) (r : Int32) (H : f_X9_isUnit s a0 = some r) : pm_Mt 155 d [.ref 64, .int a0] (mo_h gx s gs q) (.inl (some (.int r))) (mo_h gx s gs q) := by
  refine pm_Mt.of (by decide) (by decide +kernel) rfl rfl ?_
  obtain ⟨d, rfl⟩ : ∃ d', d = d' + 1 := ⟨d - 1, by omega⟩
  unfold f_X9_isUnit at H
  cases q2 : f_X9_isArray s with
  | none => rw [q2] at H; cases H
  | some r1 =>
   rw [q2] at H
   dsimp only at H
   refine pm_Wg.path (k := 1) (ds := []) (f' := (1, [some (.ref 64), some (.int a0)], [.ref 64], mo_h gx s gs q)) tk_X9_isUnit (by omega) rfl trivial ?_
   refine pm_Wg.callV (m' := 149) (ix := 51) (rr := 254) (pl := 1598) (b := 64) (As := []) (S := []) (by decide) rfl (pm_dec tk_X9_isUnit rfl) rfl rfl (by decide) rfl rfl (by decide) (Nat.le_of_ble_eq_true rfl) rfl (e_X9_isArray d (by omega) gx gs q _ _ q2) ?_
   by_cases h3 : r1 = 0
   · rw [if_pos h3] at H
     have H1 := Option.some.inj H
     subst H1
     refine pm_Wg.path (k := 2) (ds := [1]) (f' := (26, [some (.ref 64), some (.int a0)], [.int 0], mo_h gx s gs q)) tk_X9_isUnit (by omega) rfl ⟨h3, trivial⟩ ?_
     exact pm_Wg.iret (pm_dec tk_X9_isUnit rfl) rfl rfl
   · rw [if_neg h3] at H
     cases q5 : f_X9_units s with
     | none => rw [q5] at H; cases H
     | some r4 =>
      rw [q5] at H
      dsimp only at H
      refine pm_Wg.path (k := 4) (ds := [0]) (f' := (10, [some (.ref 64), some (.int a0)], [.ref 64, .int 0, .int a0], mo_h gx s gs q)) tk_X9_isUnit (by omega) rfl ⟨h3, trivial⟩ ?_
      refine pm_Wg.callV (m' := 154) (ix := 63) (rr := 257) (pl := 1614) (b := 64) (As := []) (S := [.int 0, .int a0]) (by decide) rfl (pm_dec tk_X9_isUnit rfl) rfl rfl (by decide) rfl rfl (by decide) (Nat.le_of_ble_eq_true rfl) rfl (e_X9_units d (by omega) gx gs q _ _ q5) ?_
      cases q7 : f_X9_in s a0 0 (r4 - 1) with
      | none => rw [q7] at H; cases H
      | some r6 =>
       rw [q7] at H
       dsimp only at H
       refine pm_Wg.path (k := 2) (ds := []) (f' := (15, [some (.ref 64), some (.int a0)], [.int (r4 - 1), .int 0, .int a0], mo_h gx s gs q)) tk_X9_isUnit (by omega) rfl trivial ?_
       refine pm_Wg.callS (m' := 147) (ix := 59) (rr := 233) (pl := 1507) (As := [.int a0, .int 0, .int (r4 - 1)]) (S := []) (by decide) rfl (pm_dec tk_X9_isUnit rfl) rfl rfl rfl (Nat.le_of_ble_eq_true rfl) rfl (e_X9_in d (by omega) gx gs q _ _ _ _ _ q7) ?_
       by_cases h8 : r6 = 0
       · rw [if_pos h8] at H
         have H1 := Option.some.inj H
         subst H1
         refine pm_Wg.path (k := 2) (ds := [1]) (f' := (26, [some (.ref 64), some (.int a0)], [.int 0], mo_h gx s gs q)) tk_X9_isUnit (by omega) rfl ⟨h8, trivial⟩ ?_
         exact pm_Wg.iret (pm_dec tk_X9_isUnit rfl) rfl rfl
       · rw [if_neg h8] at H
         have H1 := Option.some.inj H
         subst H1
         refine pm_Wg.path (k := 3) (ds := [0]) (f' := (26, [some (.ref 64), some (.int a0)], [.int 1], mo_h gx s gs q)) tk_X9_isUnit (by omega) rfl ⟨h8, trivial⟩ ?_
         exact pm_Wg.iret (pm_dec tk_X9_isUnit rfl) rfl rfl

def f_X9_isRequest (s : mo_S) (a0 : Int32) : Option Int32 :=
  (match pm_inb 2 18186 with
  | false => none
  | true =>
  (match f_X9_in s a0 0 ((s.2.2.1 3 (Int32.toNatClampNeg 2)) - 1) with
  | none => none
  | some r2 =>
   (if r2 &&& 1 = r2 then some r2 else none)))
def tb_X9_isRequest : List pm_I := [(0, .iload_n 1, 0, 0), (1, .iconst 0, 2, 0), (2, .aload_n 0, 0, 0), (3, .getfield 16, 162, 0), (6, .iconst 2, 4, 0), (7, .iaload, 0, 0), (8, .iconst 1, 3, 0), (9, .isub, 0, 0), (10, .invokestatic 59, 233, 0), (13, .ireturn, 0, 0)]
theorem tk_X9_isRequest : ∀ e ∈ tb_X9_isRequest, pm_ck 156 e = true := List.all_eq_true.mp (by decide +kernel)
set_option maxRecDepth 20000 in
set_option maxHeartbeats 20000000 in
theorem e_X9_isRequest (d : Nat) (hd : 2 ≤ d) (gx : List pm_E) (gs : List (List pm_E)) (q : Nat × Nat × Nat) (s : mo_S) (a0 : Int32) (r : Int32) (H : f_X9_isRequest s a0 = some r) : pm_Mt 156 d [.ref 64, .int a0] (mo_h gx s gs q) (.inl (some (.int r))) (mo_h gx s gs q) := by
  refine pm_Mt.of (by decide) (by decide +kernel) rfl rfl ?_
  obtain ⟨d, rfl⟩ : ∃ d', d = d' + 1 := ⟨d - 1, by omega⟩
  unfold f_X9_isRequest at H
  cases b1 : pm_inb 2 18186 with
  | false => rw [b1] at H; cases H
  | true =>
   rw [b1] at H
   dsimp only at H
   cases q3 : f_X9_in s a0 0 ((s.2.2.1 3 (Int32.toNatClampNeg 2)) - 1) with
   | none => rw [q3] at H; cases H
   | some r2 =>
    rw [q3] at H
    dsimp only at H
    refine pm_Wg.path (k := 8) (ds := []) (f' := (10, [some (.ref 64), some (.int a0)], [.int ((s.2.2.1 3 (Int32.toNatClampNeg 2)) - 1), .int 0, .int a0], mo_h gx s gs q)) tk_X9_isRequest (by omega) rfl ⟨pm_inb_vp b1, trivial⟩ ?_
    refine pm_Wg.callS (m' := 147) (ix := 59) (rr := 233) (pl := 1507) (As := [.int a0, .int 0, .int ((s.2.2.1 3 (Int32.toNatClampNeg 2)) - 1)]) (S := []) (by decide) rfl (pm_dec tk_X9_isRequest rfl) rfl rfl rfl (Nat.le_of_ble_eq_true rfl) rfl (e_X9_in d (by omega) gx gs q _ _ _ _ _ q3) ?_
    by_cases z4 : r2 &&& 1 = r2
    case neg => rw [if_neg z4] at H; cases H
    rw [if_pos z4] at H
    have H1 := Option.some.inj H
    subst H1
    exact pm_Wg.iret (pm_dec tk_X9_isRequest rfl) rfl (pm_nb1 z4)

def f_X9_shareOf (s : mo_S) (a0 : Int32) (a1 : Int32) : Option Int32 :=
  (match pm_inb ((8 + (3 * a0)) + a1) 26 with
  | false => none
  | true =>
  some (s.2.2.1 0 (Int32.toNatClampNeg ((8 + (3 * a0)) + a1))))
def tb_X9_shareOf : List pm_I := [(0, .aload_n 0, 0, 0), (1, .getfield 7, 159, 0), (4, .bipush 8, 10, 0), (6, .iconst 3, 5, 0), (7, .iload_n 1, 0, 0), (8, .imul, 0, 0), (9, .iadd, 0, 0), (10, .iload_n 2, 0, 0), (11, .iadd, 0, 0), (12, .iaload, 0, 0), (13, .ireturn, 0, 0)]
theorem tk_X9_shareOf : ∀ e ∈ tb_X9_shareOf, pm_ck 157 e = true := List.all_eq_true.mp (by decide +kernel)
set_option maxRecDepth 20000 in
set_option maxHeartbeats 20000000 in
theorem e_X9_shareOf (d : Nat) (hd : 1 ≤ d) (gx : List pm_E) (gs : List (List pm_E)) (q : Nat × Nat × Nat) (s : mo_S) (a0 : Int32) (a1 : Int32) (r : Int32) (H : f_X9_shareOf s a0 a1 = some r) : pm_Mt 157 d [.ref 64, .int a0, .int a1] (mo_h gx s gs q) (.inl (some (.int r))) (mo_h gx s gs q) := by
  refine pm_Mt.of (by decide) (by decide +kernel) rfl rfl ?_
  unfold f_X9_shareOf at H
  cases b1 : pm_inb ((8 + (3 * a0)) + a1) 26 with
  | false => rw [b1] at H; cases H
  | true =>
   rw [b1] at H
   dsimp only at H
   have H1 := Option.some.inj H
   subst H1
   refine pm_Wg.path (k := 10) (ds := []) (f' := (13, [some (.ref 64), some (.int a0), some (.int a1)], [.int (s.2.2.1 0 (Int32.toNatClampNeg ((8 + (3 * a0)) + a1)))], mo_h gx s gs q)) tk_X9_shareOf (by omega) rfl ⟨pm_inb_vp b1, trivial⟩ ?_
   exact pm_Wg.iret (pm_dec tk_X9_shareOf rfl) rfl rfl

def f_X9_errorCode (s : mo_S) : Option (Int32 × mo_S) :=
  (match f_X9_told s (s.1 14) with
  | none => none
  | some (r1, s2) =>
   some (r1, s2))
def tb_X9_errorCode : List pm_I := [(0, .aload_n 0, 0, 0), (1, .aload_n 0, 0, 0), (2, .getfield 77, 173, 0), (5, .invokevirtual 80, 230, 0), (8, .ireturn, 0, 0)]
theorem tk_X9_errorCode : ∀ e ∈ tb_X9_errorCode, pm_ck 160 e = true := List.all_eq_true.mp (by decide +kernel)
set_option maxRecDepth 20000 in
set_option maxHeartbeats 20000000 in
theorem e_X9_errorCode (d : Nat) (hd : 2 ≤ d) (gx : List pm_E) (gs : List (List pm_E)) (q : Nat × Nat × Nat) (s : mo_S) (r : Int32) (s1 : mo_S) (H : f_X9_errorCode s = some (r, s1)) : pm_Mt 160 d [.ref 64] (mo_h gx s gs q) (.inl (some (.int r))) (mo_h gx s1 gs q) := by
  refine pm_Mt.of (by decide) (by decide +kernel) rfl rfl ?_
  obtain ⟨d, rfl⟩ : ∃ d', d = d' + 1 := ⟨d - 1, by omega⟩
  unfold f_X9_errorCode at H
  cases q3 : f_X9_told s (s.1 14) with
  | none => rw [q3] at H; cases H
  | some w =>
   obtain ⟨r1, s2⟩ := w
   rw [q3] at H
   dsimp only at H
   refine pm_Wg.path (k := 3) (ds := []) (f' := (5, [some (.ref 64)], [.int (s.1 14), .ref 64], mo_h gx s gs q)) tk_X9_errorCode (by omega) rfl trivial ?_
   refine pm_Wg.callV (m' := 146) (ix := 80) (rr := 230) (pl := 1495) (b := 64) (As := [.int (s.1 14)]) (S := []) (by decide) rfl (pm_dec tk_X9_errorCode rfl) rfl rfl (by decide) rfl rfl (by decide) (Nat.le_of_ble_eq_true rfl) rfl (e_X9_told d (by omega) gx gs q _ _ _ _ q3) ?_
   injection H with H
   injection H with H1 H2
   subst H1
   subst H2
   exact pm_Wg.iret (pm_dec tk_X9_errorCode rfl) rfl rfl

def f_X9_errorPosition (s : mo_S) : Option (Int32 × mo_S) :=
  (match f_X9_told s (s.1 15) with
  | none => none
  | some (r1, s2) =>
   some (r1, s2))
def tb_X9_errorPosition : List pm_I := [(0, .aload_n 0, 0, 0), (1, .aload_n 0, 0, 0), (2, .getfield 32, 174, 0), (5, .invokevirtual 80, 230, 0), (8, .ireturn, 0, 0)]
theorem tk_X9_errorPosition : ∀ e ∈ tb_X9_errorPosition, pm_ck 161 e = true := List.all_eq_true.mp (by decide +kernel)
set_option maxRecDepth 20000 in
set_option maxHeartbeats 20000000 in
theorem e_X9_errorPosition (d : Nat) (hd : 2 ≤ d) (gx : List pm_E) (gs : List (List pm_E)) (q : Nat × Nat × Nat) (s : mo_S) (r : Int32) (s1 : mo_S) (H : f_X9_errorPosition s = some (r, s1)) : pm_Mt 161 d [.ref 64] (mo_h gx s gs q) (.inl (some (.int r))) (mo_h gx s1 gs q) := by
  refine pm_Mt.of (by decide) (by decide +kernel) rfl rfl ?_
  obtain ⟨d, rfl⟩ : ∃ d', d = d' + 1 := ⟨d - 1, by omega⟩
  unfold f_X9_errorPosition at H
  cases q3 : f_X9_told s (s.1 15) with
  | none => rw [q3] at H; cases H
  | some w =>
   obtain ⟨r1, s2⟩ := w
   rw [q3] at H
   dsimp only at H
   refine pm_Wg.path (k := 3) (ds := []) (f' := (5, [some (.ref 64)], [.int (s.1 15), .ref 64], mo_h gx s gs q)) tk_X9_errorPosition (by omega) rfl trivial ?_
   refine pm_Wg.callV (m' := 146) (ix := 80) (rr := 230) (pl := 1495) (b := 64) (As := [.int (s.1 15)]) (S := []) (by decide) rfl (pm_dec tk_X9_errorPosition rfl) rfl rfl (by decide) rfl rfl (by decide) (Nat.le_of_ble_eq_true rfl) rfl (e_X9_told d (by omega) gx gs q _ _ _ _ q3) ?_
   injection H with H
   injection H with H1 H2
   subst H1
   subst H2
   exact pm_Wg.iret (pm_dec tk_X9_errorPosition rfl) rfl rfl

def f_X9_byteAt (s : mo_S) (a0 : Int32) : Option Int32 :=
  (if (s.1 10) ≤ a0 then
   some (-1)
  else
   (match pm_inb a0 800 with
   | false => none
   | true =>
   some (s.2.2.1 7 (Int32.toNatClampNeg a0))))
def tb_X9_byteAt : List pm_I := [(0, .iload_n 1, 0, 0), (1, .aload_n 0, 0, 0), (2, .getfield 83, 169, 0), (5, .if_icmp .ge 12, 17, 0), (8, .aload_n 0, 0, 0), (9, .getfield 29, 166, 0), (12, .iload_n 1, 0, 0), (13, .iaload, 0, 0), (14, .goto 4, 18, 0), (17, .iconst (-1), 1, 0), (18, .ireturn, 0, 0)]
theorem tk_X9_byteAt : ∀ e ∈ tb_X9_byteAt, pm_ck 162 e = true := List.all_eq_true.mp (by decide +kernel)
set_option maxRecDepth 20000 in
set_option maxHeartbeats 20000000 in
theorem e_X9_byteAt (d : Nat) (hd : 1 ≤ d) (gx : List pm_E) (gs : List (List pm_E)) (q : Nat × Nat × Nat) (s : mo_S) (a0 : Int32) (r : Int32) (H : f_X9_byteAt s a0 = some r) : pm_Mt 162 d [.ref 64, .int a0] (mo_h gx s gs q) (.inl (some (.int r))) (mo_h gx s gs q) := by
  refine pm_Mt.of (by decide) (by decide +kernel) rfl rfl ?_
  unfold f_X9_byteAt at H
  by_cases h1 : (s.1 10) ≤ a0
  · rw [if_pos h1] at H
    have H1 := Option.some.inj H
    subst H1
    refine pm_Wg.path (k := 5) (ds := [1]) (f' := (18, [some (.ref 64), some (.int a0)], [.int (-1)], mo_h gx s gs q)) tk_X9_byteAt (by omega) rfl ⟨h1, trivial⟩ ?_
    exact pm_Wg.iret (pm_dec tk_X9_byteAt rfl) rfl rfl
  · rw [if_neg h1] at H
    cases b2 : pm_inb a0 800 with
    | false => rw [b2] at H; cases H
    | true =>
     rw [b2] at H
     dsimp only at H
     have H1 := Option.some.inj H
     subst H1
     refine pm_Wg.path (k := 9) (ds := [0]) (f' := (18, [some (.ref 64), some (.int a0)], [.int (s.2.2.1 7 (Int32.toNatClampNeg a0))], mo_h gx s gs q)) tk_X9_byteAt (by omega) rfl ⟨pm_inb_vp b2, h1, trivial⟩ ?_
     exact pm_Wg.iret (pm_dec tk_X9_byteAt rfl) rfl rfl

def f_X9_isLetter (s : mo_S) (a0 : Int32) : Option Int32 :=
  (match f_X9_in s a0 97 122 with
  | none => none
  | some r1 =>
   (if r1 &&& 1 = r1 then some r1 else none))
def tb_X9_isLetter : List pm_I := [(0, .iload_n 0, 0, 0), (1, .bipush 97, 27, 0), (3, .bipush 122, 30, 0), (5, .invokestatic 59, 233, 0), (8, .ireturn, 0, 0)]
theorem tk_X9_isLetter : ∀ e ∈ tb_X9_isLetter, pm_ck 163 e = true := List.all_eq_true.mp (by decide +kernel)
set_option maxRecDepth 20000 in
set_option maxHeartbeats 20000000 in
theorem e_X9_isLetter (d : Nat) (hd : 2 ≤ d) (gx : List pm_E) (gs : List (List pm_E)) (q : Nat × Nat × Nat) (s : mo_S) (a0 : Int32) (r : Int32) (H : f_X9_isLetter s a0 = some r) : pm_Mt 163 d [.int a0] (mo_h gx s gs q) (.inl (some (.int r))) (mo_h gx s gs q) := by
  refine pm_Mt.of (by decide) (by decide +kernel) rfl rfl ?_
  obtain ⟨d, rfl⟩ : ∃ d', d = d' + 1 := ⟨d - 1, by omega⟩
  unfold f_X9_isLetter at H
  cases q2 : f_X9_in s a0 97 122 with
  | none => rw [q2] at H; cases H
  | some r1 =>
   rw [q2] at H
   dsimp only at H
   refine pm_Wg.path (k := 3) (ds := []) (f' := (5, [some (.int a0)], [.int 122, .int 97, .int a0], mo_h gx s gs q)) tk_X9_isLetter (by omega) rfl trivial ?_
   refine pm_Wg.callS (m' := 147) (ix := 59) (rr := 233) (pl := 1507) (As := [.int a0, .int 97, .int 122]) (S := []) (by decide) rfl (pm_dec tk_X9_isLetter rfl) rfl rfl rfl (Nat.le_of_ble_eq_true rfl) rfl (e_X9_in d (by omega) gx gs q _ _ _ _ _ q2) ?_
   by_cases z3 : r1 &&& 1 = r1
   case neg => rw [if_neg z3] at H; cases H
   rw [if_pos z3] at H
   have H1 := Option.some.inj H
   subst H1
   exact pm_Wg.iret (pm_dec tk_X9_isLetter rfl) rfl (pm_nb1 z3)

def f_X9_isDigit (s : mo_S) (a0 : Int32) : Option Int32 :=
  (match f_X9_in s a0 48 57 with
  | none => none
  | some r1 =>
   (if r1 &&& 1 = r1 then some r1 else none))
def tb_X9_isDigit : List pm_I := [(0, .iload_n 0, 0, 0), (1, .bipush 48, 21, 0), (3, .bipush 57, 23, 0), (5, .invokestatic 59, 233, 0), (8, .ireturn, 0, 0)]
theorem tk_X9_isDigit : ∀ e ∈ tb_X9_isDigit, pm_ck 164 e = true := List.all_eq_true.mp (by decide +kernel)
set_option maxRecDepth 20000 in
set_option maxHeartbeats 20000000 in
theorem e_X9_isDigit (d : Nat) (hd : 2 ≤ d) (gx : List pm_E) (gs : List (List pm_E)) (q : Nat × Nat × Nat) (s : mo_S) (a0 : Int32) (r : Int32) (H : f_X9_isDigit s a0 = some r) : pm_Mt 164 d [.int a0] (mo_h gx s gs q) (.inl (some (.int r))) (mo_h gx s gs q) := by
  refine pm_Mt.of (by decide) (by decide +kernel) rfl rfl ?_
  obtain ⟨d, rfl⟩ : ∃ d', d = d' + 1 := ⟨d - 1, by omega⟩
  unfold f_X9_isDigit at H
  cases q2 : f_X9_in s a0 48 57 with
  | none => rw [q2] at H; cases H
  | some r1 =>
   rw [q2] at H
   dsimp only at H
   refine pm_Wg.path (k := 3) (ds := []) (f' := (5, [some (.int a0)], [.int 57, .int 48, .int a0], mo_h gx s gs q)) tk_X9_isDigit (by omega) rfl trivial ?_
   refine pm_Wg.callS (m' := 147) (ix := 59) (rr := 233) (pl := 1507) (As := [.int a0, .int 48, .int 57]) (S := []) (by decide) rfl (pm_dec tk_X9_isDigit rfl) rfl rfl rfl (Nat.le_of_ble_eq_true rfl) rfl (e_X9_in d (by omega) gx gs q _ _ _ _ _ q2) ?_
   by_cases z3 : r1 &&& 1 = r1
   case neg => rw [if_neg z3] at H; cases H
   rw [if_pos z3] at H
   have H1 := Option.some.inj H
   subst H1
   exact pm_Wg.iret (pm_dec tk_X9_isDigit rfl) rfl (pm_nb1 z3)

def f_X9_fails (s : mo_S) (a0 : Int32) (a1 : Int32) : Option (Int32 × mo_S) :=
  ((fun s1 : mo_S =>
   some (0, (mo_i s1 15 a1))) (mo_i s 14 a0))
def tb_X9_fails : List pm_I := [(0, .aload_n 0, 0, 0), (1, .iload_n 1, 0, 0), (2, .putfield 77, 173, 0), (5, .aload_n 0, 0, 0), (6, .iload_n 2, 0, 0), (7, .putfield 32, 174, 0), (10, .iconst 0, 2, 0), (11, .ireturn, 0, 0)]
theorem tk_X9_fails : ∀ e ∈ tb_X9_fails, pm_ck 166 e = true := List.all_eq_true.mp (by decide +kernel)
set_option maxRecDepth 20000 in
set_option maxHeartbeats 20000000 in
theorem e_X9_fails (d : Nat) (hd : 1 ≤ d) (gx : List pm_E) (gs : List (List pm_E)) (q : Nat × Nat × Nat) (s : mo_S) (a0 : Int32) (a1 : Int32) (r : Int32) (s1 : mo_S) (H : f_X9_fails s a0 a1 = some (r, s1)) : pm_Mt 166 d [.ref 64, .int a0, .int a1] (mo_h gx s gs q) (.inl (some (.int r))) (mo_h gx s1 gs q) := by
  refine pm_Mt.of (by decide) (by decide +kernel) rfl rfl ?_
  unfold f_X9_fails at H
  refine pm_Wg.path (k := 5) (ds := []) (f' := (7, [some (.ref 64), some (.int a0), some (.int a1)], [.int a1, .ref 64], mo_h gx (mo_i s 14 a0) gs q)) tk_X9_fails (by omega) rfl trivial ?_
  generalize (mo_i s 14 a0) = s1 at H ⊢
  try dsimp only at H
  injection H with H
  injection H with H1 H2
  subst H1
  subst H2
  refine pm_Wg.path (k := 2) (ds := []) (f' := (11, [some (.ref 64), some (.int a0), some (.int a1)], [.int 0], mo_h gx (mo_i s1 15 a1) gs q)) tk_X9_fails (by omega) rfl trivial ?_
  exact pm_Wg.iret (pm_dec tk_X9_fails rfl) rfl rfl

def f_X9_isLimit (s : mo_S) (a0 : Int32) (a1 : Int32) : Option Int32 :=
  (if a0 = 0 then
   some 1
  else
   (if a0 < a1 then
    some 0
   else
    (if 1000 < a0 then
     some 0
    else
     some 1)))
def tb_X9_isLimit : List pm_I := [(0, .iload_n 0, 0, 0), (1, .ifCond .eq 15, 16, 0), (4, .iload_n 0, 0, 0), (5, .iload_n 1, 0, 0), (6, .if_icmp .lt 14, 20, 0), (9, .iload_n 0, 0, 0), (10, .sipush 1000, 39, 0), (13, .if_icmp .gt 7, 20, 0), (16, .iconst 1, 3, 0), (17, .goto 4, 21, 0), (20, .iconst 0, 2, 0), (21, .ireturn, 0, 0)]
theorem tk_X9_isLimit : ∀ e ∈ tb_X9_isLimit, pm_ck 174 e = true := List.all_eq_true.mp (by decide +kernel)
set_option maxRecDepth 20000 in
set_option maxHeartbeats 20000000 in
theorem e_X9_isLimit (d : Nat) (hd : 1 ≤ d) (gx : List pm_E) (gs : List (List pm_E)) (q : Nat × Nat × Nat) (s : mo_S) (a0 : Int32) (a1 : Int32) (r : Int32) (H : f_X9_isLimit s a0 a1 = some r) : pm_Mt 174 d [.int a0, .int a1] (mo_h gx s gs q) (.inl (some (.int r))) (mo_h gx s gs q) := by
  refine pm_Mt.of (by decide) (by decide +kernel) rfl rfl ?_
  unfold f_X9_isLimit at H
  by_cases h1 : a0 = 0
  · rw [if_pos h1] at H
    have H1 := Option.some.inj H
    subst H1
    refine pm_Wg.path (k := 4) (ds := [1]) (f' := (21, [some (.int a0), some (.int a1)], [.int 1], mo_h gx s gs q)) tk_X9_isLimit (by omega) rfl ⟨h1, trivial⟩ ?_
    exact pm_Wg.iret (pm_dec tk_X9_isLimit rfl) rfl rfl
  · rw [if_neg h1] at H
    by_cases h2 : a0 < a1
    · rw [if_pos h2] at H
      have H1 := Option.some.inj H
      subst H1
      refine pm_Wg.path (k := 6) (ds := [0, 1]) (f' := (21, [some (.int a0), some (.int a1)], [.int 0], mo_h gx s gs q)) tk_X9_isLimit (by omega) rfl ⟨h2, h1, trivial⟩ ?_
      exact pm_Wg.iret (pm_dec tk_X9_isLimit rfl) rfl rfl
    · rw [if_neg h2] at H
      by_cases h3 : 1000 < a0
      · rw [if_pos h3] at H
        have H1 := Option.some.inj H
        subst H1
        refine pm_Wg.path (k := 9) (ds := [0, 0, 1]) (f' := (21, [some (.int a0), some (.int a1)], [.int 0], mo_h gx s gs q)) tk_X9_isLimit (by omega) rfl ⟨h3, h2, h1, trivial⟩ ?_
        exact pm_Wg.iret (pm_dec tk_X9_isLimit rfl) rfl rfl
      · rw [if_neg h3] at H
        have H1 := Option.some.inj H
        subst H1
        refine pm_Wg.path (k := 10) (ds := [0, 0, 0]) (f' := (21, [some (.int a0), some (.int a1)], [.int 1], mo_h gx s gs q)) tk_X9_isLimit (by omega) rfl ⟨h3, h2, h1, trivial⟩ ?_
        exact pm_Wg.iret (pm_dec tk_X9_isLimit rfl) rfl rfl

def f_X9_startText (s : mo_S) (a0 : Int32) : Option mo_S :=
  ((fun s1 : mo_S =>
   ((fun s2 : mo_S =>
    ((fun s3 : mo_S =>
     ((fun s4 : mo_S =>
      some (mo_i s4 15 (-1))) (mo_i s3 14 0))) (mo_i s2 11 (-1)))) (mo_i s1 9 0))) (mo_i s 10 a0))
def tb_X9_startText : List pm_I := [(0, .aload_n 0, 0, 0), (1, .iload_n 1, 0, 0), (2, .putfield 83, 169, 0), (5, .aload_n 0, 0, 0), (6, .iconst 0, 2, 0), (7, .putfield 86, 168, 0), (10, .aload_n 0, 0, 0), (11, .iconst (-1), 1, 0), (12, .putfield 102, 170, 0), (15, .aload_n 0, 0, 0), (16, .iconst 0, 2, 0), (17, .putfield 77, 173, 0), (20, .aload_n 0, 0, 0), (21, .iconst (-1), 1, 0), (22, .putfield 32, 174, 0), (25, .return_, 0, 0)]
theorem tk_X9_startText : ∀ e ∈ tb_X9_startText, pm_ck 176 e = true := List.all_eq_true.mp (by decide +kernel)
set_option maxRecDepth 20000 in
set_option maxHeartbeats 20000000 in
theorem e_X9_startText (d : Nat) (hd : 1 ≤ d) (gx : List pm_E) (gs : List (List pm_E)) (q : Nat × Nat × Nat) (s : mo_S) (a0 : Int32) (s1 : mo_S) (H : f_X9_startText s a0 = some s1) : pm_Mt 176 d [.ref 64, .int a0] (mo_h gx s gs q) (.inl (none)) (mo_h gx s1 gs q) := by
  refine pm_Mt.of (by decide) (by decide +kernel) rfl rfl ?_
  unfold f_X9_startText at H
  refine pm_Wg.path (k := 5) (ds := []) (f' := (7, [some (.ref 64), some (.int a0)], [.int 0, .ref 64], mo_h gx (mo_i s 10 a0) gs q)) tk_X9_startText (by omega) rfl trivial ?_
  generalize (mo_i s 10 a0) = s1 at H ⊢
  try dsimp only at H
  refine pm_Wg.path (k := 3) (ds := []) (f' := (12, [some (.ref 64), some (.int a0)], [.int (-1), .ref 64], mo_h gx (mo_i s1 9 0) gs q)) tk_X9_startText (by omega) rfl trivial ?_
  generalize (mo_i s1 9 0) = s2 at H ⊢
  try dsimp only at H
  refine pm_Wg.path (k := 3) (ds := []) (f' := (17, [some (.ref 64), some (.int a0)], [.int 0, .ref 64], mo_h gx (mo_i s2 11 (-1)) gs q)) tk_X9_startText (by omega) rfl trivial ?_
  generalize (mo_i s2 11 (-1)) = s3 at H ⊢
  try dsimp only at H
  refine pm_Wg.path (k := 3) (ds := []) (f' := (22, [some (.ref 64), some (.int a0)], [.int (-1), .ref 64], mo_h gx (mo_i s3 14 0) gs q)) tk_X9_startText (by omega) rfl trivial ?_
  generalize (mo_i s3 14 0) = s4 at H ⊢
  try dsimp only at H
  injection H with H
  subst H
  refine pm_Wg.path (k := 1) (ds := []) (f' := (25, [some (.ref 64), some (.int a0)], [], mo_h gx (mo_i s4 15 (-1)) gs q)) tk_X9_startText (by omega) rfl trivial ?_
  exact pm_Wg.vret (pm_dec tk_X9_startText rfl) rfl

def f_X9_diskCount (s : mo_S) : Option (Int32 × mo_S) :=
  (match f_X9_disks s with
  | none => none
  | some r1 =>
   (match f_X9_told s r1 with
   | none => none
   | some (r3, s4) =>
    some (r3, s4)))
def tb_X9_diskCount : List pm_I := [(0, .aload_n 0, 0, 0), (1, .aload_n 0, 0, 0), (2, .invokevirtual 55, 258, 0), (5, .invokevirtual 80, 230, 0), (8, .ireturn, 0, 0)]
theorem tk_X9_diskCount : ∀ e ∈ tb_X9_diskCount, pm_ck 185 e = true := List.all_eq_true.mp (by decide +kernel)
set_option maxRecDepth 20000 in
set_option maxHeartbeats 20000000 in
theorem e_X9_diskCount (d : Nat) (hd : 2 ≤ d) (gx : List pm_E) (gs : List (List pm_E)) (q : Nat × Nat × Nat) (s : mo_S) (r : Int32) (s1 : mo_S) (H : f_X9_diskCount s = some (r, s1)) : pm_Mt 185 d [.ref 64] (mo_h gx s gs q) (.inl (some (.int r))) (mo_h gx s1 gs q) := by
  refine pm_Mt.of (by decide) (by decide +kernel) rfl rfl ?_
  obtain ⟨d, rfl⟩ : ∃ d', d = d' + 1 := ⟨d - 1, by omega⟩
  unfold f_X9_diskCount at H
  cases q2 : f_X9_disks s with
  | none => rw [q2] at H; cases H
  | some r1 =>
   rw [q2] at H
   dsimp only at H
   refine pm_Wg.path (k := 2) (ds := []) (f' := (2, [some (.ref 64)], [.ref 64, .ref 64], mo_h gx s gs q)) tk_X9_diskCount (by omega) rfl trivial ?_
   refine pm_Wg.callV (m' := 150) (ix := 55) (rr := 258) (pl := 1618) (b := 64) (As := []) (S := [.ref 64]) (by decide) rfl (pm_dec tk_X9_diskCount rfl) rfl rfl (by decide) rfl rfl (by decide) (Nat.le_of_ble_eq_true rfl) rfl (e_X9_disks d (by omega) gx gs q _ _ q2) ?_
   cases q5 : f_X9_told s r1 with
   | none => rw [q5] at H; cases H
   | some w =>
    obtain ⟨r3, s4⟩ := w
    rw [q5] at H
    dsimp only at H
    refine pm_Wg.callV (m' := 146) (ix := 80) (rr := 230) (pl := 1495) (b := 64) (As := [.int r1]) (S := []) (by decide) rfl (pm_dec tk_X9_diskCount rfl) rfl rfl (by decide) rfl rfl (by decide) (Nat.le_of_ble_eq_true rfl) rfl (e_X9_told d (by omega) gx gs q _ _ _ _ q5) ?_
    injection H with H
    injection H with H1 H2
    subst H1
    subst H2
    exact pm_Wg.iret (pm_dec tk_X9_diskCount rfl) rfl rfl

def f_X9_stripeCount (s : mo_S) : Option (Int32 × mo_S) :=
  (match pm_inb 1 26 with
  | false => none
  | true =>
  (match f_X9_told s (s.2.2.1 0 (Int32.toNatClampNeg 1)) with
  | none => none
  | some (r2, s3) =>
   some (r2, s3)))
def tb_X9_stripeCount : List pm_I := [(0, .aload_n 0, 0, 0), (1, .aload_n 0, 0, 0), (2, .getfield 7, 159, 0), (5, .iconst 1, 3, 0), (6, .iaload, 0, 0), (7, .invokevirtual 80, 230, 0), (10, .ireturn, 0, 0)]
theorem tk_X9_stripeCount : ∀ e ∈ tb_X9_stripeCount, pm_ck 186 e = true := List.all_eq_true.mp (by decide +kernel)
set_option maxRecDepth 20000 in
set_option maxHeartbeats 20000000 in
theorem e_X9_stripeCount (d : Nat) (hd : 2 ≤ d) (gx : List pm_E) (gs : List (List pm_E)) (q : Nat × Nat × Nat) (s : mo_S) (r : Int32) (s1 : mo_S) (H : f_X9_stripeCount s = some (r, s1)) : pm_Mt 186 d [.ref 64] (mo_h gx s gs q) (.inl (some (.int r))) (mo_h gx s1 gs q) := by
  refine pm_Mt.of (by decide) (by decide +kernel) rfl rfl ?_
  obtain ⟨d, rfl⟩ : ∃ d', d = d' + 1 := ⟨d - 1, by omega⟩
  unfold f_X9_stripeCount at H
  cases b1 : pm_inb 1 26 with
  | false => rw [b1] at H; cases H
  | true =>
   rw [b1] at H
   dsimp only at H
   cases q4 : f_X9_told s (s.2.2.1 0 (Int32.toNatClampNeg 1)) with
   | none => rw [q4] at H; cases H
   | some w =>
    obtain ⟨r2, s3⟩ := w
    rw [q4] at H
    dsimp only at H
    refine pm_Wg.path (k := 5) (ds := []) (f' := (7, [some (.ref 64)], [.int (s.2.2.1 0 (Int32.toNatClampNeg 1)), .ref 64], mo_h gx s gs q)) tk_X9_stripeCount (by omega) rfl ⟨pm_inb_vp b1, trivial⟩ ?_
    refine pm_Wg.callV (m' := 146) (ix := 80) (rr := 230) (pl := 1495) (b := 64) (As := [.int (s.2.2.1 0 (Int32.toNatClampNeg 1))]) (S := []) (by decide) rfl (pm_dec tk_X9_stripeCount rfl) rfl rfl (by decide) rfl rfl (by decide) (Nat.le_of_ble_eq_true rfl) rfl (e_X9_told d (by omega) gx gs q _ _ _ _ q4) ?_
    injection H with H
    injection H with H1 H2
    subst H1
    subst H2
    exact pm_Wg.iret (pm_dec tk_X9_stripeCount rfl) rfl rfl

def f_X9_tenantCount (s : mo_S) : Option (Int32 × mo_S) :=
  (match pm_inb 6 26 with
  | false => none
  | true =>
  (match f_X9_told s (s.2.2.1 0 (Int32.toNatClampNeg 6)) with
  | none => none
  | some (r2, s3) =>
   some (r2, s3)))
def tb_X9_tenantCount : List pm_I := [(0, .aload_n 0, 0, 0), (1, .aload_n 0, 0, 0), (2, .getfield 7, 159, 0), (5, .bipush 6, 8, 0), (7, .iaload, 0, 0), (8, .invokevirtual 80, 230, 0), (11, .ireturn, 0, 0)]
theorem tk_X9_tenantCount : ∀ e ∈ tb_X9_tenantCount, pm_ck 187 e = true := List.all_eq_true.mp (by decide +kernel)
set_option maxRecDepth 20000 in
set_option maxHeartbeats 20000000 in
theorem e_X9_tenantCount (d : Nat) (hd : 2 ≤ d) (gx : List pm_E) (gs : List (List pm_E)) (q : Nat × Nat × Nat) (s : mo_S) (r : Int32) (s1 : mo_S) (H : f_X9_tenantCount s = some (r, s1)) : pm_Mt 187 d [.ref 64] (mo_h gx s gs q) (.inl (some (.int r))) (mo_h gx s1 gs q) := by
  refine pm_Mt.of (by decide) (by decide +kernel) rfl rfl ?_
  obtain ⟨d, rfl⟩ : ∃ d', d = d' + 1 := ⟨d - 1, by omega⟩
  unfold f_X9_tenantCount at H
  cases b1 : pm_inb 6 26 with
  | false => rw [b1] at H; cases H
  | true =>
   rw [b1] at H
   dsimp only at H
   cases q4 : f_X9_told s (s.2.2.1 0 (Int32.toNatClampNeg 6)) with
   | none => rw [q4] at H; cases H
   | some w =>
    obtain ⟨r2, s3⟩ := w
    rw [q4] at H
    dsimp only at H
    refine pm_Wg.path (k := 5) (ds := []) (f' := (8, [some (.ref 64)], [.int (s.2.2.1 0 (Int32.toNatClampNeg 6)), .ref 64], mo_h gx s gs q)) tk_X9_tenantCount (by omega) rfl ⟨pm_inb_vp b1, trivial⟩ ?_
    refine pm_Wg.callV (m' := 146) (ix := 80) (rr := 230) (pl := 1495) (b := 64) (As := [.int (s.2.2.1 0 (Int32.toNatClampNeg 6))]) (S := []) (by decide) rfl (pm_dec tk_X9_tenantCount rfl) rfl rfl (by decide) rfl rfl (by decide) (Nat.le_of_ble_eq_true rfl) rfl (e_X9_told d (by omega) gx gs q _ _ _ _ q4) ?_
    injection H with H
    injection H with H1 H2
    subst H1
    subst H2
    exact pm_Wg.iret (pm_dec tk_X9_tenantCount rfl) rfl rfl

def f_X9_stripeFor (s : mo_S) (a0 : Int32) : Option Int32 :=
  (match f_X9_disks s with
  | none => none
  | some r1 =>
   (if (r1 - 1) = 0 then none else
   some (a0 / (r1 - 1))))
def tb_X9_stripeFor : List pm_I := [(0, .iload_n 1, 0, 0), (1, .aload_n 0, 0, 0), (2, .invokevirtual 55, 258, 0), (5, .iconst 1, 3, 0), (6, .isub, 0, 0), (7, .idiv, 0, 0), (8, .ireturn, 0, 0)]
theorem tk_X9_stripeFor : ∀ e ∈ tb_X9_stripeFor, pm_ck 188 e = true := List.all_eq_true.mp (by decide +kernel)
set_option maxRecDepth 20000 in
set_option maxHeartbeats 20000000 in
theorem e_X9_stripeFor (d : Nat) (hd : 2 ≤ d) (gx : List pm_E) (gs : List (List pm_E)) (q : Nat × Nat × Nat) (s : mo_S) (a0 : Int32) (r : Int32) (H : f_X9_stripeFor s a0 = some r) : pm_Mt 188 d [.ref 64, .int a0] (mo_h gx s gs q) (.inl (some (.int r))) (mo_h gx s gs q) := by
  refine pm_Mt.of (by decide) (by decide +kernel) rfl rfl ?_
  obtain ⟨d, rfl⟩ : ∃ d', d = d' + 1 := ⟨d - 1, by omega⟩
  unfold f_X9_stripeFor at H
  cases q2 : f_X9_disks s with
  | none => rw [q2] at H; cases H
  | some r1 =>
   rw [q2] at H
   dsimp only at H
   refine pm_Wg.path (k := 2) (ds := []) (f' := (2, [some (.ref 64), some (.int a0)], [.ref 64, .int a0], mo_h gx s gs q)) tk_X9_stripeFor (by omega) rfl trivial ?_
   refine pm_Wg.callV (m' := 150) (ix := 55) (rr := 258) (pl := 1618) (b := 64) (As := []) (S := [.int a0]) (by decide) rfl (pm_dec tk_X9_stripeFor rfl) rfl rfl (by decide) rfl rfl (by decide) (Nat.le_of_ble_eq_true rfl) rfl (e_X9_disks d (by omega) gx gs q _ _ q2) ?_
   by_cases b3 : (r1 - 1) = 0
   · rw [if_pos b3] at H; cases H
   rw [if_neg b3] at H
   have H1 := Option.some.inj H
   subst H1
   refine pm_Wg.path (k := 3) (ds := []) (f' := (8, [some (.ref 64), some (.int a0)], [.int (a0 / (r1 - 1))], mo_h gx s gs q)) tk_X9_stripeFor (by omega) rfl ⟨b3, trivial⟩ ?_
   exact pm_Wg.iret (pm_dec tk_X9_stripeFor rfl) rfl rfl

def f_X9_parityOf (s : mo_S) (a0 : Int32) : Option Int32 :=
  (match f_X9_disks s with
  | none => none
  | some r1 =>
   (if r1 = 0 then none else
   some (a0 - a0 / r1 * r1)))
def tb_X9_parityOf : List pm_I := [(0, .iload_n 1, 0, 0), (1, .aload_n 0, 0, 0), (2, .invokevirtual 55, 258, 0), (5, .irem, 0, 0), (6, .ireturn, 0, 0)]
theorem tk_X9_parityOf : ∀ e ∈ tb_X9_parityOf, pm_ck 189 e = true := List.all_eq_true.mp (by decide +kernel)
set_option maxRecDepth 20000 in
set_option maxHeartbeats 20000000 in
theorem e_X9_parityOf (d : Nat) (hd : 2 ≤ d) (gx : List pm_E) (gs : List (List pm_E)) (q : Nat × Nat × Nat) (s : mo_S) (a0 : Int32) (r : Int32) (H : f_X9_parityOf s a0 = some r) : pm_Mt 189 d [.ref 64, .int a0] (mo_h gx s gs q) (.inl (some (.int r))) (mo_h gx s gs q) := by
  refine pm_Mt.of (by decide) (by decide +kernel) rfl rfl ?_
  obtain ⟨d, rfl⟩ : ∃ d', d = d' + 1 := ⟨d - 1, by omega⟩
  unfold f_X9_parityOf at H
  cases q2 : f_X9_disks s with
  | none => rw [q2] at H; cases H
  | some r1 =>
   rw [q2] at H
   dsimp only at H
   refine pm_Wg.path (k := 2) (ds := []) (f' := (2, [some (.ref 64), some (.int a0)], [.ref 64, .int a0], mo_h gx s gs q)) tk_X9_parityOf (by omega) rfl trivial ?_
   refine pm_Wg.callV (m' := 150) (ix := 55) (rr := 258) (pl := 1618) (b := 64) (As := []) (S := [.int a0]) (by decide) rfl (pm_dec tk_X9_parityOf rfl) rfl rfl (by decide) rfl rfl (by decide) (Nat.le_of_ble_eq_true rfl) rfl (e_X9_disks d (by omega) gx gs q _ _ q2) ?_
   by_cases b3 : r1 = 0
   · rw [if_pos b3] at H; cases H
   rw [if_neg b3] at H
   have H1 := Option.some.inj H
   subst H1
   refine pm_Wg.path (k := 1) (ds := []) (f' := (6, [some (.ref 64), some (.int a0)], [.int (a0 - a0 / r1 * r1)], mo_h gx s gs q)) tk_X9_parityOf (by omega) rfl ⟨b3, trivial⟩ ?_
   exact pm_Wg.iret (pm_dec tk_X9_parityOf rfl) rfl rfl

def f_X9_diskFor (s : mo_S) (a0 : Int32) : Option Int32 :=
  (match f_X9_stripeFor s a0 with
  | none => none
  | some r1 =>
   (match f_X9_parityOf s r1 with
   | none => none
   | some r3 =>
    (match f_X9_disks s with
    | none => none
    | some r5 =>
     (if (r5 - 1) = 0 then none else
     (if r5 = 0 then none else
     some (((r3 + 1) + (a0 - a0 / (r5 - 1) * (r5 - 1))) - ((r3 + 1) + (a0 - a0 / (r5 - 1) * (r5 - 1))) / r5 * r5))))))
def tb_X9_diskFor : List pm_I := [(0, .aload_n 0, 0, 0), (1, .aload_n 0, 0, 0), (2, .iload_n 1, 0, 0), (3, .invokevirtual 203, 264, 0), (6, .invokevirtual 206, 267, 0), (9, .iconst 1, 3, 0), (10, .iadd, 0, 0), (11, .iload_n 1, 0, 0), (12, .aload_n 0, 0, 0), (13, .invokevirtual 55, 258, 0), (16, .iconst 1, 3, 0), (17, .isub, 0, 0), (18, .irem, 0, 0), (19, .iadd, 0, 0), (20, .aload_n 0, 0, 0), (21, .invokevirtual 55, 258, 0), (24, .irem, 0, 0), (25, .ireturn, 0, 0)]
theorem tk_X9_diskFor : ∀ e ∈ tb_X9_diskFor, pm_ck 190 e = true := List.all_eq_true.mp (by decide +kernel)
set_option maxRecDepth 20000 in
set_option maxHeartbeats 20000000 in
theorem e_X9_diskFor (d : Nat) (hd : 3 ≤ d) (gx : List pm_E) (gs : List (List pm_E)) (q : Nat × Nat × Nat) (s : mo_S) (a0 : Int32) (r : Int32) (H : f_X9_diskFor s a0 = some r) : pm_Mt 190 d [.ref 64, .int a0] (mo_h gx s gs q) (.inl (some (.int r))) (mo_h gx s gs q) := by
  refine pm_Mt.of (by decide) (by decide +kernel) rfl rfl ?_
  obtain ⟨d, rfl⟩ : ∃ d', d = d' + 1 := ⟨d - 1, by omega⟩
  unfold f_X9_diskFor at H
  cases q2 : f_X9_stripeFor s a0 with
  | none => rw [q2] at H; cases H
  | some r1 =>
   rw [q2] at H
   dsimp only at H
   refine pm_Wg.path (k := 3) (ds := []) (f' := (3, [some (.ref 64), some (.int a0)], [.int a0, .ref 64, .ref 64], mo_h gx s gs q)) tk_X9_diskFor (by omega) rfl trivial ?_
   refine pm_Wg.callV (m' := 188) (ix := 203) (rr := 264) (pl := 1643) (b := 64) (As := [.int a0]) (S := [.ref 64]) (by decide) rfl (pm_dec tk_X9_diskFor rfl) rfl rfl (by decide) rfl rfl (by decide) (Nat.le_of_ble_eq_true rfl) rfl (e_X9_stripeFor d (by omega) gx gs q _ _ _ q2) ?_
   cases q4 : f_X9_parityOf s r1 with
   | none => rw [q4] at H; cases H
   | some r3 =>
    rw [q4] at H
    dsimp only at H
    refine pm_Wg.callV (m' := 189) (ix := 206) (rr := 267) (pl := 1655) (b := 64) (As := [.int r1]) (S := []) (by decide) rfl (pm_dec tk_X9_diskFor rfl) rfl rfl (by decide) rfl rfl (by decide) (Nat.le_of_ble_eq_true rfl) rfl (e_X9_parityOf d (by omega) gx gs q _ _ _ q4) ?_
    cases q6 : f_X9_disks s with
    | none => rw [q6] at H; cases H
    | some r5 =>
     rw [q6] at H
     dsimp only at H
     refine pm_Wg.path (k := 4) (ds := []) (f' := (13, [some (.ref 64), some (.int a0)], [.ref 64, .int a0, .int (r3 + 1)], mo_h gx s gs q)) tk_X9_diskFor (by omega) rfl trivial ?_
     refine pm_Wg.callV (m' := 150) (ix := 55) (rr := 258) (pl := 1618) (b := 64) (As := []) (S := [.int a0, .int (r3 + 1)]) (by decide) rfl (pm_dec tk_X9_diskFor rfl) rfl rfl (by decide) rfl rfl (by decide) (Nat.le_of_ble_eq_true rfl) rfl (e_X9_disks d (by omega) gx gs q _ _ q6) ?_
     by_cases b7 : (r5 - 1) = 0
     · rw [if_pos b7] at H; cases H
     rw [if_neg b7] at H
     refine pm_Wg.path (k := 5) (ds := []) (f' := (21, [some (.ref 64), some (.int a0)], [.ref 64, .int ((r3 + 1) + (a0 - a0 / (r5 - 1) * (r5 - 1)))], mo_h gx s gs q)) tk_X9_diskFor (by omega) rfl ⟨b7, trivial⟩ ?_
     refine pm_Wg.callV (m' := 150) (ix := 55) (rr := 258) (pl := 1618) (b := 64) (As := []) (S := [.int ((r3 + 1) + (a0 - a0 / (r5 - 1) * (r5 - 1)))]) (by decide) rfl (pm_dec tk_X9_diskFor rfl) rfl rfl (by decide) rfl rfl (by decide) (Nat.le_of_ble_eq_true rfl) rfl (e_X9_disks d (by omega) gx gs q _ _ q6) ?_
     by_cases b10 : r5 = 0
     · rw [if_pos b10] at H; cases H
     rw [if_neg b10] at H
     have H1 := Option.some.inj H
     subst H1
     refine pm_Wg.path (k := 1) (ds := []) (f' := (25, [some (.ref 64), some (.int a0)], [.int (((r3 + 1) + (a0 - a0 / (r5 - 1) * (r5 - 1))) - ((r3 + 1) + (a0 - a0 / (r5 - 1) * (r5 - 1))) / r5 * r5)], mo_h gx s gs q)) tk_X9_diskFor (by omega) rfl ⟨b10, trivial⟩ ?_
     exact pm_Wg.iret (pm_dec tk_X9_diskFor rfl) rfl rfl

def f_X9_stripeOf (s : mo_S) (a0 : Int32) : Option (Int32 × mo_S) :=
  (match f_X9_isUnit (mo_i s 2 0) a0 with
  | none => none
  | some r1 =>
   (if r1 = 0 then
    (match f_X9_refuse (mo_i s 2 0) 1 with
    | none => none
    | some (r4, s5) =>
     some (r4, s5))
   else
    (match f_X9_stripeFor (mo_i s 2 0) a0 with
    | none => none
    | some r7 =>
     some (r7, (mo_i s 2 0)))))
def tb_X9_stripeOf : List pm_I := [(0, .aload_n 0, 0, 0), (1, .iconst 0, 2, 0), (2, .putfield 45, 161, 0), (5, .aload_n 0, 0, 0), (6, .iload_n 1, 0, 0), (7, .invokevirtual 209, 263, 0), (10, .ifCond .eq 11, 21, 0), (13, .aload_n 0, 0, 0), (14, .iload_n 1, 0, 0), (15, .invokevirtual 203, 264, 0), (18, .goto 8, 26, 0), (21, .aload_n 0, 0, 0), (22, .iconst 1, 3, 0), (23, .invokevirtual 69, 227, 0), (26, .ireturn, 0, 0)]
theorem tk_X9_stripeOf : ∀ e ∈ tb_X9_stripeOf, pm_ck 191 e = true := List.all_eq_true.mp (by decide +kernel)
set_option maxRecDepth 20000 in
set_option maxHeartbeats 20000000 in
theorem e_X9_stripeOf (d : Nat) (hd : 4 ≤ d) (gx : List pm_E) (gs : List (List pm_E)) (q : Nat × Nat × Nat) (s : mo_S) (a0 : Int32) (r : Int32) (s1 : mo_S) (H : f_X9_stripeOf s a0 = some (r, s1)) : pm_Mt 191 d [.ref 64, .int a0] (mo_h gx s gs q) (.inl (some (.int r))) (mo_h gx s1 gs q) := by
  refine pm_Mt.of (by decide) (by decide +kernel) rfl rfl ?_
  obtain ⟨d, rfl⟩ : ∃ d', d = d' + 1 := ⟨d - 1, by omega⟩
  unfold f_X9_stripeOf at H
  cases q2 : f_X9_isUnit (mo_i s 2 0) a0 with
  | none => rw [q2] at H; cases H
  | some r1 =>
   rw [q2] at H
   dsimp only at H
   refine pm_Wg.path (k := 5) (ds := []) (f' := (7, [some (.ref 64), some (.int a0)], [.int a0, .ref 64], mo_h gx (mo_i s 2 0) gs q)) tk_X9_stripeOf (by omega) rfl trivial ?_
   refine pm_Wg.callV (m' := 155) (ix := 209) (rr := 263) (pl := 1639) (b := 64) (As := [.int a0]) (S := []) (by decide) rfl (pm_dec tk_X9_stripeOf rfl) rfl rfl (by decide) rfl rfl (by decide) (Nat.le_of_ble_eq_true rfl) rfl (e_X9_isUnit d (by omega) gx gs q _ _ _ q2) ?_
   by_cases h3 : r1 = 0
   · rw [if_pos h3] at H
     cases q6 : f_X9_refuse (mo_i s 2 0) 1 with
     | none => rw [q6] at H; cases H
     | some w =>
      obtain ⟨r4, s5⟩ := w
      rw [q6] at H
      dsimp only at H
      refine pm_Wg.path (k := 3) (ds := [1]) (f' := (23, [some (.ref 64), some (.int a0)], [.int 1, .ref 64], mo_h gx (mo_i s 2 0) gs q)) tk_X9_stripeOf (by omega) rfl ⟨h3, trivial⟩ ?_
      refine pm_Wg.callV (m' := 145) (ix := 69) (rr := 227) (pl := 1483) (b := 64) (As := [.int 1]) (S := []) (by decide) rfl (pm_dec tk_X9_stripeOf rfl) rfl rfl (by decide) rfl rfl (by decide) (Nat.le_of_ble_eq_true rfl) rfl (e_X9_refuse d (by omega) gx gs q _ _ _ _ q6) ?_
      injection H with H
      injection H with H1 H2
      subst H1
      subst H2
      exact pm_Wg.iret (pm_dec tk_X9_stripeOf rfl) rfl rfl
   · rw [if_neg h3] at H
     cases q8 : f_X9_stripeFor (mo_i s 2 0) a0 with
     | none => rw [q8] at H; cases H
     | some r7 =>
      rw [q8] at H
      dsimp only at H
      refine pm_Wg.path (k := 3) (ds := [0]) (f' := (15, [some (.ref 64), some (.int a0)], [.int a0, .ref 64], mo_h gx (mo_i s 2 0) gs q)) tk_X9_stripeOf (by omega) rfl ⟨h3, trivial⟩ ?_
      refine pm_Wg.callV (m' := 188) (ix := 203) (rr := 264) (pl := 1643) (b := 64) (As := [.int a0]) (S := []) (by decide) rfl (pm_dec tk_X9_stripeOf rfl) rfl rfl (by decide) rfl rfl (by decide) (Nat.le_of_ble_eq_true rfl) rfl (e_X9_stripeFor d (by omega) gx gs q _ _ _ q8) ?_
      injection H with H
      injection H with H1 H2
      subst H1
      subst H2
      refine pm_Wg.path (k := 1) (ds := []) (f' := (26, [some (.ref 64), some (.int a0)], [.int r7], mo_h gx (mo_i s 2 0) gs q)) tk_X9_stripeOf (by omega) rfl trivial ?_
      exact pm_Wg.iret (pm_dec tk_X9_stripeOf rfl) rfl rfl

def f_X9_diskOf (s : mo_S) (a0 : Int32) : Option (Int32 × mo_S) :=
  (match f_X9_isUnit (mo_i s 2 0) a0 with
  | none => none
  | some r1 =>
   (if r1 = 0 then
    (match f_X9_refuse (mo_i s 2 0) 1 with
    | none => none
    | some (r4, s5) =>
     some (r4, s5))
   else
    (match f_X9_diskFor (mo_i s 2 0) a0 with
    | none => none
    | some r7 =>
     some (r7, (mo_i s 2 0)))))
def tb_X9_diskOf : List pm_I := [(0, .aload_n 0, 0, 0), (1, .iconst 0, 2, 0), (2, .putfield 45, 161, 0), (5, .aload_n 0, 0, 0), (6, .iload_n 1, 0, 0), (7, .invokevirtual 209, 263, 0), (10, .ifCond .eq 11, 21, 0), (13, .aload_n 0, 0, 0), (14, .iload_n 1, 0, 0), (15, .invokevirtual 212, 266, 0), (18, .goto 8, 26, 0), (21, .aload_n 0, 0, 0), (22, .iconst 1, 3, 0), (23, .invokevirtual 69, 227, 0), (26, .ireturn, 0, 0)]
theorem tk_X9_diskOf : ∀ e ∈ tb_X9_diskOf, pm_ck 192 e = true := List.all_eq_true.mp (by decide +kernel)
set_option maxRecDepth 20000 in
set_option maxHeartbeats 20000000 in
theorem e_X9_diskOf (d : Nat) (hd : 4 ≤ d) (gx : List pm_E) (gs : List (List pm_E)) (q : Nat × Nat × Nat) (s : mo_S) (a0 : Int32) (r : Int32) (s1 : mo_S) (H : f_X9_diskOf s a0 = some (r, s1)) : pm_Mt 192 d [.ref 64, .int a0] (mo_h gx s gs q) (.inl (some (.int r))) (mo_h gx s1 gs q) := by
  refine pm_Mt.of (by decide) (by decide +kernel) rfl rfl ?_
  obtain ⟨d, rfl⟩ : ∃ d', d = d' + 1 := ⟨d - 1, by omega⟩
  unfold f_X9_diskOf at H
  cases q2 : f_X9_isUnit (mo_i s 2 0) a0 with
  | none => rw [q2] at H; cases H
  | some r1 =>
   rw [q2] at H
   dsimp only at H
   refine pm_Wg.path (k := 5) (ds := []) (f' := (7, [some (.ref 64), some (.int a0)], [.int a0, .ref 64], mo_h gx (mo_i s 2 0) gs q)) tk_X9_diskOf (by omega) rfl trivial ?_
   refine pm_Wg.callV (m' := 155) (ix := 209) (rr := 263) (pl := 1639) (b := 64) (As := [.int a0]) (S := []) (by decide) rfl (pm_dec tk_X9_diskOf rfl) rfl rfl (by decide) rfl rfl (by decide) (Nat.le_of_ble_eq_true rfl) rfl (e_X9_isUnit d (by omega) gx gs q _ _ _ q2) ?_
   by_cases h3 : r1 = 0
   · rw [if_pos h3] at H
     cases q6 : f_X9_refuse (mo_i s 2 0) 1 with
     | none => rw [q6] at H; cases H
     | some w =>
      obtain ⟨r4, s5⟩ := w
      rw [q6] at H
      dsimp only at H
      refine pm_Wg.path (k := 3) (ds := [1]) (f' := (23, [some (.ref 64), some (.int a0)], [.int 1, .ref 64], mo_h gx (mo_i s 2 0) gs q)) tk_X9_diskOf (by omega) rfl ⟨h3, trivial⟩ ?_
      refine pm_Wg.callV (m' := 145) (ix := 69) (rr := 227) (pl := 1483) (b := 64) (As := [.int 1]) (S := []) (by decide) rfl (pm_dec tk_X9_diskOf rfl) rfl rfl (by decide) rfl rfl (by decide) (Nat.le_of_ble_eq_true rfl) rfl (e_X9_refuse d (by omega) gx gs q _ _ _ _ q6) ?_
      injection H with H
      injection H with H1 H2
      subst H1
      subst H2
      exact pm_Wg.iret (pm_dec tk_X9_diskOf rfl) rfl rfl
   · rw [if_neg h3] at H
     cases q8 : f_X9_diskFor (mo_i s 2 0) a0 with
     | none => rw [q8] at H; cases H
     | some r7 =>
      rw [q8] at H
      dsimp only at H
      refine pm_Wg.path (k := 3) (ds := [0]) (f' := (15, [some (.ref 64), some (.int a0)], [.int a0, .ref 64], mo_h gx (mo_i s 2 0) gs q)) tk_X9_diskOf (by omega) rfl ⟨h3, trivial⟩ ?_
      refine pm_Wg.callV (m' := 190) (ix := 212) (rr := 266) (pl := 1651) (b := 64) (As := [.int a0]) (S := []) (by decide) rfl (pm_dec tk_X9_diskOf rfl) rfl rfl (by decide) rfl rfl (by decide) (Nat.le_of_ble_eq_true rfl) rfl (e_X9_diskFor d (by omega) gx gs q _ _ _ q8) ?_
      injection H with H
      injection H with H1 H2
      subst H1
      subst H2
      refine pm_Wg.path (k := 1) (ds := []) (f' := (26, [some (.ref 64), some (.int a0)], [.int r7], mo_h gx (mo_i s 2 0) gs q)) tk_X9_diskOf (by omega) rfl trivial ?_
      exact pm_Wg.iret (pm_dec tk_X9_diskOf rfl) rfl rfl

def f_X9_parityDisk (s : mo_S) (a0 : Int32) : Option (Int32 × mo_S) :=
  (match f_X9_isStripe (mo_i s 2 0) a0 with
  | none => none
  | some r1 =>
   (if r1 = 0 then
    (match f_X9_refuse (mo_i s 2 0) 1 with
    | none => none
    | some (r4, s5) =>
     some (r4, s5))
   else
    (match f_X9_parityOf (mo_i s 2 0) a0 with
    | none => none
    | some r7 =>
     some (r7, (mo_i s 2 0)))))
def tb_X9_parityDisk : List pm_I := [(0, .aload_n 0, 0, 0), (1, .iconst 0, 2, 0), (2, .putfield 45, 161, 0), (5, .aload_n 0, 0, 0), (6, .iload_n 1, 0, 0), (7, .invokevirtual 215, 269, 0), (10, .ifCond .eq 11, 21, 0), (13, .aload_n 0, 0, 0), (14, .iload_n 1, 0, 0), (15, .invokevirtual 206, 267, 0), (18, .goto 8, 26, 0), (21, .aload_n 0, 0, 0), (22, .iconst 1, 3, 0), (23, .invokevirtual 69, 227, 0), (26, .ireturn, 0, 0)]
theorem tk_X9_parityDisk : ∀ e ∈ tb_X9_parityDisk, pm_ck 193 e = true := List.all_eq_true.mp (by decide +kernel)
set_option maxRecDepth 20000 in
set_option maxHeartbeats 20000000 in
theorem e_X9_parityDisk (d : Nat) (hd : 3 ≤ d) (gx : List pm_E) (gs : List (List pm_E)) (q : Nat × Nat × Nat) (s : mo_S) (a0 : Int32) (r : Int32) (s1 : mo_S) (H : f_X9_parityDisk s a0 = some (r, s1)) : pm_Mt 193 d [.ref 64, .int a0] (mo_h gx s gs q) (.inl (some (.int r))) (mo_h gx s1 gs q) := by
  refine pm_Mt.of (by decide) (by decide +kernel) rfl rfl ?_
  obtain ⟨d, rfl⟩ : ∃ d', d = d' + 1 := ⟨d - 1, by omega⟩
  unfold f_X9_parityDisk at H
  cases q2 : f_X9_isStripe (mo_i s 2 0) a0 with
  | none => rw [q2] at H; cases H
  | some r1 =>
   rw [q2] at H
   dsimp only at H
   refine pm_Wg.path (k := 5) (ds := []) (f' := (7, [some (.ref 64), some (.int a0)], [.int a0, .ref 64], mo_h gx (mo_i s 2 0) gs q)) tk_X9_parityDisk (by omega) rfl trivial ?_
   refine pm_Wg.callV (m' := 152) (ix := 215) (rr := 269) (pl := 1663) (b := 64) (As := [.int a0]) (S := []) (by decide) rfl (pm_dec tk_X9_parityDisk rfl) rfl rfl (by decide) rfl rfl (by decide) (Nat.le_of_ble_eq_true rfl) rfl (e_X9_isStripe d (by omega) gx gs q _ _ _ q2) ?_
   by_cases h3 : r1 = 0
   · rw [if_pos h3] at H
     cases q6 : f_X9_refuse (mo_i s 2 0) 1 with
     | none => rw [q6] at H; cases H
     | some w =>
      obtain ⟨r4, s5⟩ := w
      rw [q6] at H
      dsimp only at H
      refine pm_Wg.path (k := 3) (ds := [1]) (f' := (23, [some (.ref 64), some (.int a0)], [.int 1, .ref 64], mo_h gx (mo_i s 2 0) gs q)) tk_X9_parityDisk (by omega) rfl ⟨h3, trivial⟩ ?_
      refine pm_Wg.callV (m' := 145) (ix := 69) (rr := 227) (pl := 1483) (b := 64) (As := [.int 1]) (S := []) (by decide) rfl (pm_dec tk_X9_parityDisk rfl) rfl rfl (by decide) rfl rfl (by decide) (Nat.le_of_ble_eq_true rfl) rfl (e_X9_refuse d (by omega) gx gs q _ _ _ _ q6) ?_
      injection H with H
      injection H with H1 H2
      subst H1
      subst H2
      exact pm_Wg.iret (pm_dec tk_X9_parityDisk rfl) rfl rfl
   · rw [if_neg h3] at H
     cases q8 : f_X9_parityOf (mo_i s 2 0) a0 with
     | none => rw [q8] at H; cases H
     | some r7 =>
      rw [q8] at H
      dsimp only at H
      refine pm_Wg.path (k := 3) (ds := [0]) (f' := (15, [some (.ref 64), some (.int a0)], [.int a0, .ref 64], mo_h gx (mo_i s 2 0) gs q)) tk_X9_parityDisk (by omega) rfl ⟨h3, trivial⟩ ?_
      refine pm_Wg.callV (m' := 189) (ix := 206) (rr := 267) (pl := 1655) (b := 64) (As := [.int a0]) (S := []) (by decide) rfl (pm_dec tk_X9_parityDisk rfl) rfl rfl (by decide) rfl rfl (by decide) (Nat.le_of_ble_eq_true rfl) rfl (e_X9_parityOf d (by omega) gx gs q _ _ _ q8) ?_
      injection H with H
      injection H with H1 H2
      subst H1
      subst H2
      refine pm_Wg.path (k := 1) (ds := []) (f' := (26, [some (.ref 64), some (.int a0)], [.int r7], mo_h gx (mo_i s 2 0) gs q)) tk_X9_parityDisk (by omega) rfl trivial ?_
      exact pm_Wg.iret (pm_dec tk_X9_parityDisk rfl) rfl rfl

def f_X9_share (s : mo_S) (a0 : Int32) (a1 : Int32) : Option (Int32 × mo_S) :=
  (match f_X9_isTenant (mo_i s 2 0) a0 with
  | none => none
  | some r1 =>
   (if r1 = 0 then
    (match f_X9_refuse (mo_i s 2 0) 1 with
    | none => none
    | some (r4, s5) =>
     some (r4, s5))
   else
    (match f_X9_in (mo_i s 2 0) a1 0 2 with
    | none => none
    | some r7 =>
     (if r7 = 0 then
      (match f_X9_refuse (mo_i s 2 0) 2 with
      | none => none
      | some (r10, s11) =>
       some (r10, s11))
     else
      (match f_X9_shareOf (mo_i s 2 0) a0 a1 with
      | none => none
      | some r13 =>
       some (r13, (mo_i s 2 0)))))))
def tb_X9_share : List pm_I := [(0, .aload_n 0, 0, 0), (1, .iconst 0, 2, 0), (2, .putfield 45, 161, 0), (5, .aload_n 0, 0, 0), (6, .iload_n 1, 0, 0), (7, .invokevirtual 218, 271, 0), (10, .ifCond .ne 9, 19, 0), (13, .aload_n 0, 0, 0), (14, .iconst 1, 3, 0), (15, .invokevirtual 69, 227, 0), (18, .ireturn, 0, 0), (19, .iload_n 2, 0, 0), (20, .iconst 0, 2, 0), (21, .iconst 2, 4, 0), (22, .invokestatic 59, 233, 0), (25, .ifCond .eq 12, 37, 0), (28, .aload_n 0, 0, 0), (29, .iload_n 1, 0, 0), (30, .iload_n 2, 0, 0), (31, .invokevirtual 221, 272, 0), (34, .goto 8, 42, 0), (37, .aload_n 0, 0, 0), (38, .iconst 2, 4, 0), (39, .invokevirtual 69, 227, 0), (42, .ireturn, 0, 0)]
theorem tk_X9_share : ∀ e ∈ tb_X9_share, pm_ck 194 e = true := List.all_eq_true.mp (by decide +kernel)
set_option maxRecDepth 20000 in
set_option maxHeartbeats 20000000 in
theorem e_X9_share (d : Nat) (hd : 3 ≤ d) (gx : List pm_E) (gs : List (List pm_E)) (q : Nat × Nat × Nat) (s : mo_S) (a0 : Int32) (a1 : Int32) (r : Int32) (s1 : mo_S) (H : f_X9_share s a0 a1 = some (r, s1)) : pm_Mt 194 d [.ref 64, .int a0, .int a1] (mo_h gx s gs q) (.inl (some (.int r))) (mo_h gx s1 gs q) := by
  refine pm_Mt.of (by decide) (by decide +kernel) rfl rfl ?_
  obtain ⟨d, rfl⟩ : ∃ d', d = d' + 1 := ⟨d - 1, by omega⟩
  unfold f_X9_share at H
  cases q2 : f_X9_isTenant (mo_i s 2 0) a0 with
  | none => rw [q2] at H; cases H
  | some r1 =>
   rw [q2] at H
   dsimp only at H
   refine pm_Wg.path (k := 5) (ds := []) (f' := (7, [some (.ref 64), some (.int a0), some (.int a1)], [.int a0, .ref 64], mo_h gx (mo_i s 2 0) gs q)) tk_X9_share (by omega) rfl trivial ?_
   refine pm_Wg.callV (m' := 153) (ix := 218) (rr := 271) (pl := 1671) (b := 64) (As := [.int a0]) (S := []) (by decide) rfl (pm_dec tk_X9_share rfl) rfl rfl (by decide) rfl rfl (by decide) (Nat.le_of_ble_eq_true rfl) rfl (e_X9_isTenant d (by omega) gx gs q _ _ _ q2) ?_
   by_cases h3 : r1 = 0
   · rw [if_pos h3] at H
     cases q6 : f_X9_refuse (mo_i s 2 0) 1 with
     | none => rw [q6] at H; cases H
     | some w =>
      obtain ⟨r4, s5⟩ := w
      rw [q6] at H
      dsimp only at H
      refine pm_Wg.path (k := 3) (ds := [0]) (f' := (15, [some (.ref 64), some (.int a0), some (.int a1)], [.int 1, .ref 64], mo_h gx (mo_i s 2 0) gs q)) tk_X9_share (by omega) rfl ⟨h3, trivial⟩ ?_
      refine pm_Wg.callV (m' := 145) (ix := 69) (rr := 227) (pl := 1483) (b := 64) (As := [.int 1]) (S := []) (by decide) rfl (pm_dec tk_X9_share rfl) rfl rfl (by decide) rfl rfl (by decide) (Nat.le_of_ble_eq_true rfl) rfl (e_X9_refuse d (by omega) gx gs q _ _ _ _ q6) ?_
      injection H with H
      injection H with H1 H2
      subst H1
      subst H2
      exact pm_Wg.iret (pm_dec tk_X9_share rfl) rfl rfl
   · rw [if_neg h3] at H
     cases q8 : f_X9_in (mo_i s 2 0) a1 0 2 with
     | none => rw [q8] at H; cases H
     | some r7 =>
      rw [q8] at H
      dsimp only at H
      refine pm_Wg.path (k := 4) (ds := [1]) (f' := (22, [some (.ref 64), some (.int a0), some (.int a1)], [.int 2, .int 0, .int a1], mo_h gx (mo_i s 2 0) gs q)) tk_X9_share (by omega) rfl ⟨h3, trivial⟩ ?_
      refine pm_Wg.callS (m' := 147) (ix := 59) (rr := 233) (pl := 1507) (As := [.int a1, .int 0, .int 2]) (S := []) (by decide) rfl (pm_dec tk_X9_share rfl) rfl rfl rfl (Nat.le_of_ble_eq_true rfl) rfl (e_X9_in d (by omega) gx gs q _ _ _ _ _ q8) ?_
      by_cases h9 : r7 = 0
      · rw [if_pos h9] at H
        cases q12 : f_X9_refuse (mo_i s 2 0) 2 with
        | none => rw [q12] at H; cases H
        | some w =>
         obtain ⟨r10, s11⟩ := w
         rw [q12] at H
         dsimp only at H
         refine pm_Wg.path (k := 3) (ds := [1]) (f' := (39, [some (.ref 64), some (.int a0), some (.int a1)], [.int 2, .ref 64], mo_h gx (mo_i s 2 0) gs q)) tk_X9_share (by omega) rfl ⟨h9, trivial⟩ ?_
         refine pm_Wg.callV (m' := 145) (ix := 69) (rr := 227) (pl := 1483) (b := 64) (As := [.int 2]) (S := []) (by decide) rfl (pm_dec tk_X9_share rfl) rfl rfl (by decide) rfl rfl (by decide) (Nat.le_of_ble_eq_true rfl) rfl (e_X9_refuse d (by omega) gx gs q _ _ _ _ q12) ?_
         injection H with H
         injection H with H1 H2
         subst H1
         subst H2
         exact pm_Wg.iret (pm_dec tk_X9_share rfl) rfl rfl
      · rw [if_neg h9] at H
        cases q14 : f_X9_shareOf (mo_i s 2 0) a0 a1 with
        | none => rw [q14] at H; cases H
        | some r13 =>
         rw [q14] at H
         dsimp only at H
         refine pm_Wg.path (k := 4) (ds := [0]) (f' := (31, [some (.ref 64), some (.int a0), some (.int a1)], [.int a1, .int a0, .ref 64], mo_h gx (mo_i s 2 0) gs q)) tk_X9_share (by omega) rfl ⟨h9, trivial⟩ ?_
         refine pm_Wg.callV (m' := 157) (ix := 221) (rr := 272) (pl := 1675) (b := 64) (As := [.int a0, .int a1]) (S := []) (by decide) rfl (pm_dec tk_X9_share rfl) rfl rfl (by decide) rfl rfl (by decide) (Nat.le_of_ble_eq_true rfl) rfl (e_X9_shareOf d (by omega) gx gs q _ _ _ _ q14) ?_
         injection H with H
         injection H with H1 H2
         subst H1
         subst H2
         refine pm_Wg.path (k := 1) (ds := []) (f' := (42, [some (.ref 64), some (.int a0), some (.int a1)], [.int r13], mo_h gx (mo_i s 2 0) gs q)) tk_X9_share (by omega) rfl trivial ?_
         exact pm_Wg.iret (pm_dec tk_X9_share rfl) rfl rfl

def f_X9_ofDisk (s : mo_S) (a0 : Int32) (a1 : Int32) : Option Int32 :=
  (match pm_inb ((16 + (4 * a0)) + a1) 18186 with
  | false => none
  | true =>
  some (s.2.2.1 3 (Int32.toNatClampNeg ((16 + (4 * a0)) + a1))))
def tb_X9_ofDisk : List pm_I := [(0, .aload_n 0, 0, 0), (1, .getfield 16, 162, 0), (4, .bipush 16, 13, 0), (6, .iconst 4, 6, 0), (7, .iload_n 1, 0, 0), (8, .imul, 0, 0), (9, .iadd, 0, 0), (10, .iload_n 2, 0, 0), (11, .iadd, 0, 0), (12, .iaload, 0, 0), (13, .ireturn, 0, 0)]
theorem tk_X9_ofDisk : ∀ e ∈ tb_X9_ofDisk, pm_ck 195 e = true := List.all_eq_true.mp (by decide +kernel)
set_option maxRecDepth 20000 in
set_option maxHeartbeats 20000000 in
theorem e_X9_ofDisk (d : Nat) (hd : 1 ≤ d) (gx : List pm_E) (gs : List (List pm_E)) (q : Nat × Nat × Nat) (s : mo_S) (a0 : Int32) (a1 : Int32) (r : Int32) (H : f_X9_ofDisk s a0 a1 = some r) : pm_Mt 195 d [.ref 64, .int a0, .int a1] (mo_h gx s gs q) (.inl (some (.int r))) (mo_h gx s gs q) := by
  refine pm_Mt.of (by decide) (by decide +kernel) rfl rfl ?_
  unfold f_X9_ofDisk at H
  cases b1 : pm_inb ((16 + (4 * a0)) + a1) 18186 with
  | false => rw [b1] at H; cases H
  | true =>
   rw [b1] at H
   dsimp only at H
   have H1 := Option.some.inj H
   subst H1
   refine pm_Wg.path (k := 10) (ds := []) (f' := (13, [some (.ref 64), some (.int a0), some (.int a1)], [.int (s.2.2.1 3 (Int32.toNatClampNeg ((16 + (4 * a0)) + a1)))], mo_h gx s gs q)) tk_X9_ofDisk (by omega) rfl ⟨pm_inb_vp b1, trivial⟩ ?_
   exact pm_Wg.iret (pm_dec tk_X9_ofDisk rfl) rfl rfl

def f_X9_setDisk (s : mo_S) (a0 : Int32) (a1 : Int32) (a2 : Int32) : Option mo_S :=
  (match pm_inb ((16 + (4 * a0)) + a1) 18186 with
  | false => none
  | true =>
  some (mo_a s 3 ((16 + (4 * a0)) + a1) a2))
def tb_X9_setDisk : List pm_I := [(0, .aload_n 0, 0, 0), (1, .getfield 16, 162, 0), (4, .bipush 16, 13, 0), (6, .iconst 4, 6, 0), (7, .iload_n 1, 0, 0), (8, .imul, 0, 0), (9, .iadd, 0, 0), (10, .iload_n 2, 0, 0), (11, .iadd, 0, 0), (12, .iload_n 3, 0, 0), (13, .iastore, 0, 0), (14, .return_, 0, 0)]
theorem tk_X9_setDisk : ∀ e ∈ tb_X9_setDisk, pm_ck 196 e = true := List.all_eq_true.mp (by decide +kernel)
set_option maxRecDepth 20000 in
set_option maxHeartbeats 20000000 in
theorem e_X9_setDisk (d : Nat) (hd : 1 ≤ d) (gx : List pm_E) (gs : List (List pm_E)) (q : Nat × Nat × Nat) (s : mo_S) (a0 : Int32) (a1 : Int32) (a2 : Int32) (s1 : mo_S) (H : f_X9_setDisk s a0 a1 a2 = some s1) : pm_Mt 196 d [.ref 64, .int a0, .int a1, .int a2] (mo_h gx s gs q) (.inl (none)) (mo_h gx s1 gs q) := by
  refine pm_Mt.of (by decide) (by decide +kernel) rfl rfl ?_
  unfold f_X9_setDisk at H
  cases b1 : pm_inb ((16 + (4 * a0)) + a1) 18186 with
  | false => rw [b1] at H; cases H
  | true =>
   rw [b1] at H
   dsimp only at H
   injection H with H
   subst H
   refine pm_Wg.path (k := 11) (ds := []) (f' := (14, [some (.ref 64), some (.int a0), some (.int a1), some (.int a2)], [], mo_h gx (mo_a s 3 ((16 + (4 * a0)) + a1) a2) gs q)) tk_X9_setDisk (by omega) rfl ⟨pm_inb_vp b1, trivial⟩ ?_
   exact pm_Wg.vret (pm_dec tk_X9_setDisk rfl) rfl

def f_X9_queueOf (s : mo_S) (a0 : Int32) (a1 : Int32) : Option Int32 :=
  some ((6 * a0) + a1)
def tb_X9_queueOf : List pm_I := [(0, .bipush 6, 8, 0), (2, .iload_n 0, 0, 0), (3, .imul, 0, 0), (4, .iload_n 1, 0, 0), (5, .iadd, 0, 0), (6, .ireturn, 0, 0)]
theorem tk_X9_queueOf : ∀ e ∈ tb_X9_queueOf, pm_ck 197 e = true := List.all_eq_true.mp (by decide +kernel)
set_option maxRecDepth 20000 in
set_option maxHeartbeats 20000000 in
theorem e_X9_queueOf (d : Nat) (hd : 1 ≤ d) (gx : List pm_E) (gs : List (List pm_E)) (q : Nat × Nat × Nat) (s : mo_S) (a0 : Int32) (a1 : Int32) (r : Int32) (H : f_X9_queueOf s a0 a1 = some r) : pm_Mt 197 d [.int a0, .int a1] (mo_h gx s gs q) (.inl (some (.int r))) (mo_h gx s gs q) := by
  refine pm_Mt.of (by decide) (by decide +kernel) rfl rfl ?_
  unfold f_X9_queueOf at H
  have H1 := Option.some.inj H
  subst H1
  refine pm_Wg.path (k := 5) (ds := []) (f' := (6, [some (.int a0), some (.int a1)], [.int ((6 * a0) + a1)], mo_h gx s gs q)) tk_X9_queueOf (by omega) rfl trivial ?_
  exact pm_Wg.iret (pm_dec tk_X9_queueOf rfl) rfl rfl

def f_X9_ofQueue (s : mo_S) (a0 : Int32) (a1 : Int32) : Option Int32 :=
  (match pm_inb ((44 + (6 * a0)) + a1) 18186 with
  | false => none
  | true =>
  some (s.2.2.1 3 (Int32.toNatClampNeg ((44 + (6 * a0)) + a1))))
def tb_X9_ofQueue : List pm_I := [(0, .aload_n 0, 0, 0), (1, .getfield 16, 162, 0), (4, .bipush 44, 20, 0), (6, .bipush 6, 8, 0), (8, .iload_n 1, 0, 0), (9, .imul, 0, 0), (10, .iadd, 0, 0), (11, .iload_n 2, 0, 0), (12, .iadd, 0, 0), (13, .iaload, 0, 0), (14, .ireturn, 0, 0)]
theorem tk_X9_ofQueue : ∀ e ∈ tb_X9_ofQueue, pm_ck 198 e = true := List.all_eq_true.mp (by decide +kernel)
set_option maxRecDepth 20000 in
set_option maxHeartbeats 20000000 in
theorem e_X9_ofQueue (d : Nat) (hd : 1 ≤ d) (gx : List pm_E) (gs : List (List pm_E)) (q : Nat × Nat × Nat) (s : mo_S) (a0 : Int32) (a1 : Int32) (r : Int32) (H : f_X9_ofQueue s a0 a1 = some r) : pm_Mt 198 d [.ref 64, .int a0, .int a1] (mo_h gx s gs q) (.inl (some (.int r))) (mo_h gx s gs q) := by
  refine pm_Mt.of (by decide) (by decide +kernel) rfl rfl ?_
  unfold f_X9_ofQueue at H
  cases b1 : pm_inb ((44 + (6 * a0)) + a1) 18186 with
  | false => rw [b1] at H; cases H
  | true =>
   rw [b1] at H
   dsimp only at H
   have H1 := Option.some.inj H
   subst H1
   refine pm_Wg.path (k := 10) (ds := []) (f' := (14, [some (.ref 64), some (.int a0), some (.int a1)], [.int (s.2.2.1 3 (Int32.toNatClampNeg ((44 + (6 * a0)) + a1)))], mo_h gx s gs q)) tk_X9_ofQueue (by omega) rfl ⟨pm_inb_vp b1, trivial⟩ ?_
   exact pm_Wg.iret (pm_dec tk_X9_ofQueue rfl) rfl rfl

def f_X9_setQueue (s : mo_S) (a0 : Int32) (a1 : Int32) (a2 : Int32) : Option mo_S :=
  (match pm_inb ((44 + (6 * a0)) + a1) 18186 with
  | false => none
  | true =>
  some (mo_a s 3 ((44 + (6 * a0)) + a1) a2))
def tb_X9_setQueue : List pm_I := [(0, .aload_n 0, 0, 0), (1, .getfield 16, 162, 0), (4, .bipush 44, 20, 0), (6, .bipush 6, 8, 0), (8, .iload_n 1, 0, 0), (9, .imul, 0, 0), (10, .iadd, 0, 0), (11, .iload_n 2, 0, 0), (12, .iadd, 0, 0), (13, .iload_n 3, 0, 0), (14, .iastore, 0, 0), (15, .return_, 0, 0)]
theorem tk_X9_setQueue : ∀ e ∈ tb_X9_setQueue, pm_ck 199 e = true := List.all_eq_true.mp (by decide +kernel)
set_option maxRecDepth 20000 in
set_option maxHeartbeats 20000000 in
theorem e_X9_setQueue (d : Nat) (hd : 1 ≤ d) (gx : List pm_E) (gs : List (List pm_E)) (q : Nat × Nat × Nat) (s : mo_S) (a0 : Int32) (a1 : Int32) (a2 : Int32) (s1 : mo_S) (H : f_X9_setQueue s a0 a1 a2 = some s1) : pm_Mt 199 d [.ref 64, .int a0, .int a1, .int a2] (mo_h gx s gs q) (.inl (none)) (mo_h gx s1 gs q) := by
  refine pm_Mt.of (by decide) (by decide +kernel) rfl rfl ?_
  unfold f_X9_setQueue at H
  cases b1 : pm_inb ((44 + (6 * a0)) + a1) 18186 with
  | false => rw [b1] at H; cases H
  | true =>
   rw [b1] at H
   dsimp only at H
   injection H with H
   subst H
   refine pm_Wg.path (k := 11) (ds := []) (f' := (15, [some (.ref 64), some (.int a0), some (.int a1), some (.int a2)], [], mo_h gx (mo_a s 3 ((44 + (6 * a0)) + a1) a2) gs q)) tk_X9_setQueue (by omega) rfl ⟨pm_inb_vp b1, trivial⟩ ?_
   exact pm_Wg.vret (pm_dec tk_X9_setQueue rfl) rfl

def f_X9_of (s : mo_S) (a0 : Int32) (a1 : Int32) : Option Int32 :=
  (match pm_inb ((2786 + (7 * a0)) + a1) 18186 with
  | false => none
  | true =>
  some (s.2.2.1 3 (Int32.toNatClampNeg ((2786 + (7 * a0)) + a1))))
def tb_X9_of : List pm_I := [(0, .aload_n 0, 0, 0), (1, .getfield 16, 162, 0), (4, .sipush 2786, 43, 0), (7, .bipush 7, 9, 0), (9, .iload_n 1, 0, 0), (10, .imul, 0, 0), (11, .iadd, 0, 0), (12, .iload_n 2, 0, 0), (13, .iadd, 0, 0), (14, .iaload, 0, 0), (15, .ireturn, 0, 0)]
theorem tk_X9_of : ∀ e ∈ tb_X9_of, pm_ck 200 e = true := List.all_eq_true.mp (by decide +kernel)
set_option maxRecDepth 20000 in
set_option maxHeartbeats 20000000 in
theorem e_X9_of (d : Nat) (hd : 1 ≤ d) (gx : List pm_E) (gs : List (List pm_E)) (q : Nat × Nat × Nat) (s : mo_S) (a0 : Int32) (a1 : Int32) (r : Int32) (H : f_X9_of s a0 a1 = some r) : pm_Mt 200 d [.ref 64, .int a0, .int a1] (mo_h gx s gs q) (.inl (some (.int r))) (mo_h gx s gs q) := by
  refine pm_Mt.of (by decide) (by decide +kernel) rfl rfl ?_
  unfold f_X9_of at H
  cases b1 : pm_inb ((2786 + (7 * a0)) + a1) 18186 with
  | false => rw [b1] at H; cases H
  | true =>
   rw [b1] at H
   dsimp only at H
   have H1 := Option.some.inj H
   subst H1
   refine pm_Wg.path (k := 10) (ds := []) (f' := (15, [some (.ref 64), some (.int a0), some (.int a1)], [.int (s.2.2.1 3 (Int32.toNatClampNeg ((2786 + (7 * a0)) + a1)))], mo_h gx s gs q)) tk_X9_of (by omega) rfl ⟨pm_inb_vp b1, trivial⟩ ?_
   exact pm_Wg.iret (pm_dec tk_X9_of rfl) rfl rfl

def f_X9_set (s : mo_S) (a0 : Int32) (a1 : Int32) (a2 : Int32) : Option mo_S :=
  (match pm_inb ((2786 + (7 * a0)) + a1) 18186 with
  | false => none
  | true =>
  some (mo_a s 3 ((2786 + (7 * a0)) + a1) a2))
def tb_X9_set : List pm_I := [(0, .aload_n 0, 0, 0), (1, .getfield 16, 162, 0), (4, .sipush 2786, 43, 0), (7, .bipush 7, 9, 0), (9, .iload_n 1, 0, 0), (10, .imul, 0, 0), (11, .iadd, 0, 0), (12, .iload_n 2, 0, 0), (13, .iadd, 0, 0), (14, .iload_n 3, 0, 0), (15, .iastore, 0, 0), (16, .return_, 0, 0)]
theorem tk_X9_set : ∀ e ∈ tb_X9_set, pm_ck 201 e = true := List.all_eq_true.mp (by decide +kernel)
set_option maxRecDepth 20000 in
set_option maxHeartbeats 20000000 in
theorem e_X9_set (d : Nat) (hd : 1 ≤ d) (gx : List pm_E) (gs : List (List pm_E)) (q : Nat × Nat × Nat) (s : mo_S) (a0 : Int32) (a1 : Int32) (a2 : Int32) (s1 : mo_S) (H : f_X9_set s a0 a1 a2 = some s1) : pm_Mt 201 d [.ref 64, .int a0, .int a1, .int a2] (mo_h gx s gs q) (.inl (none)) (mo_h gx s1 gs q) := by
  refine pm_Mt.of (by decide) (by decide +kernel) rfl rfl ?_
  unfold f_X9_set at H
  cases b1 : pm_inb ((2786 + (7 * a0)) + a1) 18186 with
  | false => rw [b1] at H; cases H
  | true =>
   rw [b1] at H
   dsimp only at H
   injection H with H
   subst H
   refine pm_Wg.path (k := 11) (ds := []) (f' := (16, [some (.ref 64), some (.int a0), some (.int a1), some (.int a2)], [], mo_h gx (mo_a s 3 ((2786 + (7 * a0)) + a1) a2) gs q)) tk_X9_set (by omega) rfl ⟨pm_inb_vp b1, trivial⟩ ?_
   exact pm_Wg.vret (pm_dec tk_X9_set rfl) rfl

def f_X9_tagOf (s : mo_S) (a0 : Int32) (a1 : Int32) : Option Int64 :=
  (match pm_inb ((3 * a0) + a1) 6726 with
  | false => none
  | true =>
  some (s.2.2.2 5 (Int32.toNatClampNeg ((3 * a0) + a1))))
def tb_X9_tagOf : List pm_I := [(0, .aload_n 0, 0, 0), (1, .getfield 22, 164, 0), (4, .iconst 3, 5, 0), (5, .iload_n 1, 0, 0), (6, .imul, 0, 0), (7, .iload_n 2, 0, 0), (8, .iadd, 0, 0), (9, .laload, 0, 0), (10, .lreturn, 0, 0)]
theorem tk_X9_tagOf : ∀ e ∈ tb_X9_tagOf, pm_ck 202 e = true := List.all_eq_true.mp (by decide +kernel)
set_option maxRecDepth 20000 in
set_option maxHeartbeats 20000000 in
theorem e_X9_tagOf (d : Nat) (hd : 1 ≤ d) (gx : List pm_E) (gs : List (List pm_E)) (q : Nat × Nat × Nat) (s : mo_S) (a0 : Int32) (a1 : Int32) (r : Int64) (H : f_X9_tagOf s a0 a1 = some r) : pm_Mt 202 d [.ref 64, .int a0, .int a1] (mo_h gx s gs q) (.inl (some (.long r))) (mo_h gx s gs q) := by
  refine pm_Mt.of (by decide) (by decide +kernel) rfl rfl ?_
  unfold f_X9_tagOf at H
  cases b1 : pm_inb ((3 * a0) + a1) 6726 with
  | false => rw [b1] at H; cases H
  | true =>
   rw [b1] at H
   dsimp only at H
   have H1 := Option.some.inj H
   subst H1
   refine pm_Wg.path (k := 8) (ds := []) (f' := (10, [some (.ref 64), some (.int a0), some (.int a1)], [.long (s.2.2.2 5 (Int32.toNatClampNeg ((3 * a0) + a1)))], mo_h gx s gs q)) tk_X9_tagOf (by omega) rfl ⟨pm_inb_vp b1, trivial⟩ ?_
   exact pm_Wg.lret (pm_dec tk_X9_tagOf rfl) rfl

def f_X9_stamp (s : mo_S) : Option Int64 :=
  (match pm_inb 0 18186 with
  | false => none
  | true =>
  some (1000 * (Int32.toInt64 (s.2.2.1 3 (Int32.toNatClampNeg 0)))))
def tb_X9_stamp : List pm_I := [(0, .ldc2_w 225, 21, 0), (3, .aload_n 0, 0, 0), (4, .getfield 16, 162, 0), (7, .iconst 0, 2, 0), (8, .iaload, 0, 0), (9, .i2l, 0, 0), (10, .lmul, 0, 0), (11, .lreturn, 0, 0)]
theorem tk_X9_stamp : ∀ e ∈ tb_X9_stamp, pm_ck 203 e = true := List.all_eq_true.mp (by decide +kernel)
set_option maxRecDepth 20000 in
set_option maxHeartbeats 20000000 in
theorem e_X9_stamp (d : Nat) (hd : 1 ≤ d) (gx : List pm_E) (gs : List (List pm_E)) (q : Nat × Nat × Nat) (s : mo_S) (r : Int64) (H : f_X9_stamp s = some r) : pm_Mt 203 d [.ref 64] (mo_h gx s gs q) (.inl (some (.long r))) (mo_h gx s gs q) := by
  refine pm_Mt.of (by decide) (by decide +kernel) rfl rfl ?_
  unfold f_X9_stamp at H
  cases b1 : pm_inb 0 18186 with
  | false => rw [b1] at H; cases H
  | true =>
   rw [b1] at H
   dsimp only at H
   have H1 := Option.some.inj H
   subst H1
   refine pm_Wg.path (k := 7) (ds := []) (f' := (11, [some (.ref 64)], [.long (1000 * (Int32.toInt64 (s.2.2.1 3 (Int32.toNatClampNeg 0))))], mo_h gx s gs q)) tk_X9_stamp (by omega) rfl ⟨pm_inb_vp b1, trivial⟩ ?_
   exact pm_Wg.lret (pm_dec tk_X9_stamp rfl) rfl

def f_X9_part (s : mo_S) (a0 : Int32) (a1 : Int32) : Option Int64 :=
  (match f_X9_shareOf s a0 a1 with
  | none => none
  | some r1 =>
   (if (Int32.toInt64 r1) = 0 then none else
   some (1000000 / (Int32.toInt64 r1))))
def tb_X9_part : List pm_I := [(0, .ldc2_w 227, 20, 0), (3, .aload_n 0, 0, 0), (4, .iload_n 1, 0, 0), (5, .iload_n 2, 0, 0), (6, .invokevirtual 221, 272, 0), (9, .i2l, 0, 0), (10, .ldiv, 0, 0), (11, .lreturn, 0, 0)]
theorem tk_X9_part : ∀ e ∈ tb_X9_part, pm_ck 204 e = true := List.all_eq_true.mp (by decide +kernel)
set_option maxRecDepth 20000 in
set_option maxHeartbeats 20000000 in
theorem e_X9_part (d : Nat) (hd : 2 ≤ d) (gx : List pm_E) (gs : List (List pm_E)) (q : Nat × Nat × Nat) (s : mo_S) (a0 : Int32) (a1 : Int32) (r : Int64) (H : f_X9_part s a0 a1 = some r) : pm_Mt 204 d [.ref 64, .int a0, .int a1] (mo_h gx s gs q) (.inl (some (.long r))) (mo_h gx s gs q) := by
  refine pm_Mt.of (by decide) (by decide +kernel) rfl rfl ?_
  obtain ⟨d, rfl⟩ : ∃ d', d = d' + 1 := ⟨d - 1, by omega⟩
  unfold f_X9_part at H
  cases q2 : f_X9_shareOf s a0 a1 with
  | none => rw [q2] at H; cases H
  | some r1 =>
   rw [q2] at H
   dsimp only at H
   refine pm_Wg.path (k := 4) (ds := []) (f' := (6, [some (.ref 64), some (.int a0), some (.int a1)], [.int a1, .int a0, .ref 64, .long 1000000], mo_h gx s gs q)) tk_X9_part (by omega) rfl trivial ?_
   refine pm_Wg.callV (m' := 157) (ix := 221) (rr := 272) (pl := 1675) (b := 64) (As := [.int a0, .int a1]) (S := [.long 1000000]) (by decide) rfl (pm_dec tk_X9_part rfl) rfl rfl (by decide) rfl rfl (by decide) (Nat.le_of_ble_eq_true rfl) rfl (e_X9_shareOf d (by omega) gx gs q _ _ _ _ q2) ?_
   by_cases b3 : (Int32.toInt64 r1) = 0
   · rw [if_pos b3] at H; cases H
   rw [if_neg b3] at H
   have H1 := Option.some.inj H
   subst H1
   refine pm_Wg.path (k := 2) (ds := []) (f' := (11, [some (.ref 64), some (.int a0), some (.int a1)], [.long (1000000 / (Int32.toInt64 r1))], mo_h gx s gs q)) tk_X9_part (by omega) rfl ⟨b3, trivial⟩ ?_
   exact pm_Wg.lret (pm_dec tk_X9_part rfl) rfl

def f_X9_nextTag (s : mo_S) (a0 : Int32) (a1 : Int32) (a2 : Int32) : Option (Int64 × mo_S) :=
  (match pm_inb ((6600 + (3 * a0)) + a2) 6726 with
  | false => none
  | true =>
  (match f_X9_part s a1 a2 with
  | none => none
  | some r2 =>
   (match f_X9_ofQueue s a0 (3 + a2) with
   | none => none
   | some r4 =>
    (if r4 = 0 then
     (match f_X9_stamp s with
     | none => none
     | some r7 =>
      (match f_X9_setQueue (mo_l s 5 ((6600 + (3 * a0)) + a2) r7) a0 (3 + a2) 1 with
      | none => none
      | some s10 =>
       some (r7, s10)))
    else
     (match f_X9_stamp s with
     | none => none
     | some r12 =>
      (if 0 ≤ (lg_cmp ((s.2.2.2 5 (Int32.toNatClampNeg ((6600 + (3 * a0)) + a2))) + r2) r12) then
       (match f_X9_setQueue (mo_l s 5 ((6600 + (3 * a0)) + a2) ((s.2.2.2 5 (Int32.toNatClampNeg ((6600 + (3 * a0)) + a2))) + r2)) a0 (3 + a2) 1 with
       | none => none
       | some s16 =>
        some (((s.2.2.2 5 (Int32.toNatClampNeg ((6600 + (3 * a0)) + a2))) + r2), s16))
      else
       (match f_X9_setQueue (mo_l s 5 ((6600 + (3 * a0)) + a2) r12) a0 (3 + a2) 1 with
       | none => none
       | some s21 =>
        some (r12, s21))))))))
def tb_X9_nextTag : List pm_I := [(0, .sipush 6600, 45, 0), (3, .iconst 3, 5, 0), (4, .iload_n 1, 0, 0), (5, .imul, 0, 0), (6, .iadd, 0, 0), (7, .iload_n 3, 0, 0), (8, .iadd, 0, 0), (9, .istore 4, 0, 0), (11, .aload_n 0, 0, 0), (12, .getfield 22, 164, 0), (15, .iload 4, 0, 0), (17, .laload, 0, 0), (18, .aload_n 0, 0, 0), (19, .iload_n 2, 0, 0), (20, .iload_n 3, 0, 0), (21, .invokevirtual 229, 289, 0), (24, .ladd, 0, 0), (25, .lstore 5, 0, 0), (27, .aload_n 0, 0, 0), (28, .iload_n 1, 0, 0), (29, .iconst 3, 5, 0), (30, .iload_n 3, 0, 0), (31, .iadd, 0, 0), (32, .invokevirtual 233, 290, 0), (35, .ifCond .eq 13, 48, 0), (38, .lload 5, 0, 0), (40, .aload_n 0, 0, 0), (41, .invokevirtual 236, 291, 0), (44, .lcmp, 0, 0), (45, .ifCond .ge 10, 55, 0), (48, .aload_n 0, 0, 0), (49, .invokevirtual 236, 291, 0), (52, .goto 5, 57, 0), (55, .lload 5, 0, 0), (57, .lstore 7, 0, 0), (59, .aload_n 0, 0, 0), (60, .getfield 22, 164, 0), (63, .iload 4, 0, 0), (65, .lload 7, 0, 0), (67, .lastore, 0, 0), (68, .aload_n 0, 0, 0), (69, .iload_n 1, 0, 0), (70, .iconst 3, 5, 0), (71, .iload_n 3, 0, 0), (72, .iadd, 0, 0), (73, .iconst 1, 3, 0), (74, .invokevirtual 240, 292, 0), (77, .lload 7, 0, 0), (79, .lreturn, 0, 0)]
theorem tk_X9_nextTag : ∀ e ∈ tb_X9_nextTag, pm_ck 205 e = true := List.all_eq_true.mp (by decide +kernel)
set_option maxRecDepth 20000 in
set_option maxHeartbeats 20000000 in
theorem e_X9_nextTag (d : Nat) (hd : 3 ≤ d) (gx : List pm_E) (gs : List (List pm_E)) (q : Nat × Nat × Nat) (s : mo_S) (a0 : Int32) (a1 : Int32) (a2 : Int32) (r : Int64) (s1 : mo_S) (H : f_X9_nextTag s a0 a1 a2 = some (r, s1)) : pm_Mt 205 d [.ref 64, .int a0, .int a1, .int a2] (mo_h gx s gs q) (.inl (some (.long r))) (mo_h gx s1 gs q) := by
  refine pm_Mt.of (by decide) (by decide +kernel) rfl rfl ?_
  obtain ⟨d, rfl⟩ : ∃ d', d = d' + 1 := ⟨d - 1, by omega⟩
  unfold f_X9_nextTag at H
  cases b1 : pm_inb ((6600 + (3 * a0)) + a2) 6726 with
  | false => rw [b1] at H; cases H
  | true =>
   rw [b1] at H
   dsimp only at H
   cases q3 : f_X9_part s a1 a2 with
   | none => rw [q3] at H; cases H
   | some r2 =>
    rw [q3] at H
    dsimp only at H
    refine pm_Wg.path (k := 15) (ds := []) (f' := (21, [some (.ref 64), some (.int a0), some (.int a1), some (.int a2), some (.int ((6600 + (3 * a0)) + a2)), none, none, none, none], [.int a2, .int a1, .ref 64, .long (s.2.2.2 5 (Int32.toNatClampNeg ((6600 + (3 * a0)) + a2)))], mo_h gx s gs q)) tk_X9_nextTag (by omega) rfl ⟨pm_inb_vp b1, trivial⟩ ?_
    refine pm_Wg.callV (m' := 204) (ix := 229) (rr := 289) (pl := 1742) (b := 64) (As := [.int a1, .int a2]) (S := [.long (s.2.2.2 5 (Int32.toNatClampNeg ((6600 + (3 * a0)) + a2)))]) (by decide) rfl (pm_dec tk_X9_nextTag rfl) rfl rfl (by decide) rfl rfl (by decide) (Nat.le_of_ble_eq_true rfl) rfl (e_X9_part d (by omega) gx gs q _ _ _ _ q3) ?_
    cases q5 : f_X9_ofQueue s a0 (3 + a2) with
    | none => rw [q5] at H; cases H
    | some r4 =>
     rw [q5] at H
     dsimp only at H
     refine pm_Wg.path (k := 7) (ds := []) (f' := (32, [some (.ref 64), some (.int a0), some (.int a1), some (.int a2), some (.int ((6600 + (3 * a0)) + a2)), some (.long ((s.2.2.2 5 (Int32.toNatClampNeg ((6600 + (3 * a0)) + a2))) + r2)), none, none, none], [.int (3 + a2), .int a0, .ref 64], mo_h gx s gs q)) tk_X9_nextTag (by omega) rfl trivial ?_
     refine pm_Wg.callV (m' := 198) (ix := 233) (rr := 290) (pl := 1747) (b := 64) (As := [.int a0, .int (3 + a2)]) (S := []) (by decide) rfl (pm_dec tk_X9_nextTag rfl) rfl rfl (by decide) rfl rfl (by decide) (Nat.le_of_ble_eq_true rfl) rfl (e_X9_ofQueue d (by omega) gx gs q _ _ _ _ q5) ?_
     by_cases h6 : r4 = 0
     · rw [if_pos h6] at H
       cases q8 : f_X9_stamp s with
       | none => rw [q8] at H; cases H
       | some r7 =>
        rw [q8] at H
        dsimp only at H
        refine pm_Wg.path (k := 2) (ds := [1]) (f' := (49, [some (.ref 64), some (.int a0), some (.int a1), some (.int a2), some (.int ((6600 + (3 * a0)) + a2)), some (.long ((s.2.2.2 5 (Int32.toNatClampNeg ((6600 + (3 * a0)) + a2))) + r2)), none, none, none], [.ref 64], mo_h gx s gs q)) tk_X9_nextTag (by omega) rfl ⟨h6, trivial⟩ ?_
        refine pm_Wg.callV (m' := 203) (ix := 236) (rr := 291) (pl := 1751) (b := 64) (As := []) (S := []) (by decide) rfl (pm_dec tk_X9_nextTag rfl) rfl rfl (by decide) rfl rfl (by decide) (Nat.le_of_ble_eq_true rfl) rfl (e_X9_stamp d (by omega) gx gs q _ _ q8) ?_
        cases q11 : f_X9_setQueue (mo_l s 5 ((6600 + (3 * a0)) + a2) r7) a0 (3 + a2) 1 with
        | none => rw [q11] at H; cases H
        | some s10 =>
         rw [q11] at H
         dsimp only at H
         refine pm_Wg.path (k := 13) (ds := []) (f' := (74, [some (.ref 64), some (.int a0), some (.int a1), some (.int a2), some (.int ((6600 + (3 * a0)) + a2)), some (.long ((s.2.2.2 5 (Int32.toNatClampNeg ((6600 + (3 * a0)) + a2))) + r2)), none, some (.long r7), none], [.int 1, .int (3 + a2), .int a0, .ref 64], mo_h gx (mo_l s 5 ((6600 + (3 * a0)) + a2) r7) gs q)) tk_X9_nextTag (by omega) rfl ⟨pm_inb_vp b1, trivial⟩ ?_
         refine pm_Wg.callV (m' := 199) (ix := 240) (rr := 292) (pl := 1756) (b := 64) (As := [.int a0, .int (3 + a2), .int 1]) (S := []) (by decide) rfl (pm_dec tk_X9_nextTag rfl) rfl rfl (by decide) rfl rfl (by decide) (Nat.le_of_ble_eq_true rfl) rfl (e_X9_setQueue d (by omega) gx gs q _ _ _ _ _ q11) ?_
         injection H with H
         injection H with H1 H2
         subst H1
         subst H2
         refine pm_Wg.path (k := 1) (ds := []) (f' := (79, [some (.ref 64), some (.int a0), some (.int a1), some (.int a2), some (.int ((6600 + (3 * a0)) + a2)), some (.long ((s.2.2.2 5 (Int32.toNatClampNeg ((6600 + (3 * a0)) + a2))) + r2)), none, some (.long r7), none], [.long r7], mo_h gx s10 gs q)) tk_X9_nextTag (by omega) rfl trivial ?_
         exact pm_Wg.lret (pm_dec tk_X9_nextTag rfl) rfl
     · rw [if_neg h6] at H
       cases q13 : f_X9_stamp s with
       | none => rw [q13] at H; cases H
       | some r12 =>
        rw [q13] at H
        dsimp only at H
        refine pm_Wg.path (k := 3) (ds := [0]) (f' := (41, [some (.ref 64), some (.int a0), some (.int a1), some (.int a2), some (.int ((6600 + (3 * a0)) + a2)), some (.long ((s.2.2.2 5 (Int32.toNatClampNeg ((6600 + (3 * a0)) + a2))) + r2)), none, none, none], [.ref 64, .long ((s.2.2.2 5 (Int32.toNatClampNeg ((6600 + (3 * a0)) + a2))) + r2)], mo_h gx s gs q)) tk_X9_nextTag (by omega) rfl ⟨h6, trivial⟩ ?_
        refine pm_Wg.callV (m' := 203) (ix := 236) (rr := 291) (pl := 1751) (b := 64) (As := []) (S := [.long ((s.2.2.2 5 (Int32.toNatClampNeg ((6600 + (3 * a0)) + a2))) + r2)]) (by decide) rfl (pm_dec tk_X9_nextTag rfl) rfl rfl (by decide) rfl rfl (by decide) (Nat.le_of_ble_eq_true rfl) rfl (e_X9_stamp d (by omega) gx gs q _ _ q13) ?_
        by_cases h14 : 0 ≤ (lg_cmp ((s.2.2.2 5 (Int32.toNatClampNeg ((6600 + (3 * a0)) + a2))) + r2) r12)
        · rw [if_pos h14] at H
          cases q17 : f_X9_setQueue (mo_l s 5 ((6600 + (3 * a0)) + a2) ((s.2.2.2 5 (Int32.toNatClampNeg ((6600 + (3 * a0)) + a2))) + r2)) a0 (3 + a2) 1 with
          | none => rw [q17] at H; cases H
          | some s16 =>
           rw [q17] at H
           dsimp only at H
           refine pm_Wg.path (k := 15) (ds := [1]) (f' := (74, [some (.ref 64), some (.int a0), some (.int a1), some (.int a2), some (.int ((6600 + (3 * a0)) + a2)), some (.long ((s.2.2.2 5 (Int32.toNatClampNeg ((6600 + (3 * a0)) + a2))) + r2)), none, some (.long ((s.2.2.2 5 (Int32.toNatClampNeg ((6600 + (3 * a0)) + a2))) + r2)), none], [.int 1, .int (3 + a2), .int a0, .ref 64], mo_h gx (mo_l s 5 ((6600 + (3 * a0)) + a2) ((s.2.2.2 5 (Int32.toNatClampNeg ((6600 + (3 * a0)) + a2))) + r2)) gs q)) tk_X9_nextTag (by omega) rfl ⟨pm_inb_vp b1, h14, trivial⟩ ?_
           refine pm_Wg.callV (m' := 199) (ix := 240) (rr := 292) (pl := 1756) (b := 64) (As := [.int a0, .int (3 + a2), .int 1]) (S := []) (by decide) rfl (pm_dec tk_X9_nextTag rfl) rfl rfl (by decide) rfl rfl (by decide) (Nat.le_of_ble_eq_true rfl) rfl (e_X9_setQueue d (by omega) gx gs q _ _ _ _ _ q17) ?_
           injection H with H
           injection H with H1 H2
           subst H1
           subst H2
           refine pm_Wg.path (k := 1) (ds := []) (f' := (79, [some (.ref 64), some (.int a0), some (.int a1), some (.int a2), some (.int ((6600 + (3 * a0)) + a2)), some (.long ((s.2.2.2 5 (Int32.toNatClampNeg ((6600 + (3 * a0)) + a2))) + r2)), none, some (.long ((s.2.2.2 5 (Int32.toNatClampNeg ((6600 + (3 * a0)) + a2))) + r2)), none], [.long ((s.2.2.2 5 (Int32.toNatClampNeg ((6600 + (3 * a0)) + a2))) + r2)], mo_h gx s16 gs q)) tk_X9_nextTag (by omega) rfl trivial ?_
           exact pm_Wg.lret (pm_dec tk_X9_nextTag rfl) rfl
        · rw [if_neg h14] at H
          refine pm_Wg.path (k := 3) (ds := [0]) (f' := (49, [some (.ref 64), some (.int a0), some (.int a1), some (.int a2), some (.int ((6600 + (3 * a0)) + a2)), some (.long ((s.2.2.2 5 (Int32.toNatClampNeg ((6600 + (3 * a0)) + a2))) + r2)), none, none, none], [.ref 64], mo_h gx s gs q)) tk_X9_nextTag (by omega) rfl ⟨h14, trivial⟩ ?_
          refine pm_Wg.callV (m' := 203) (ix := 236) (rr := 291) (pl := 1751) (b := 64) (As := []) (S := []) (by decide) rfl (pm_dec tk_X9_nextTag rfl) rfl rfl (by decide) rfl rfl (by decide) (Nat.le_of_ble_eq_true rfl) rfl (e_X9_stamp d (by omega) gx gs q _ _ q13) ?_
          cases q22 : f_X9_setQueue (mo_l s 5 ((6600 + (3 * a0)) + a2) r12) a0 (3 + a2) 1 with
          | none => rw [q22] at H; cases H
          | some s21 =>
           rw [q22] at H
           dsimp only at H
           refine pm_Wg.path (k := 13) (ds := []) (f' := (74, [some (.ref 64), some (.int a0), some (.int a1), some (.int a2), some (.int ((6600 + (3 * a0)) + a2)), some (.long ((s.2.2.2 5 (Int32.toNatClampNeg ((6600 + (3 * a0)) + a2))) + r2)), none, some (.long r12), none], [.int 1, .int (3 + a2), .int a0, .ref 64], mo_h gx (mo_l s 5 ((6600 + (3 * a0)) + a2) r12) gs q)) tk_X9_nextTag (by omega) rfl ⟨pm_inb_vp b1, trivial⟩ ?_
           refine pm_Wg.callV (m' := 199) (ix := 240) (rr := 292) (pl := 1756) (b := 64) (As := [.int a0, .int (3 + a2), .int 1]) (S := []) (by decide) rfl (pm_dec tk_X9_nextTag rfl) rfl rfl (by decide) rfl rfl (by decide) (Nat.le_of_ble_eq_true rfl) rfl (e_X9_setQueue d (by omega) gx gs q _ _ _ _ _ q22) ?_
           injection H with H
           injection H with H1 H2
           subst H1
           subst H2
           refine pm_Wg.path (k := 1) (ds := []) (f' := (79, [some (.ref 64), some (.int a0), some (.int a1), some (.int a2), some (.int ((6600 + (3 * a0)) + a2)), some (.long ((s.2.2.2 5 (Int32.toNatClampNeg ((6600 + (3 * a0)) + a2))) + r2)), none, some (.long r12), none], [.long r12], mo_h gx s21 gs q)) tk_X9_nextTag (by omega) rfl trivial ?_
           exact pm_Wg.lret (pm_dec tk_X9_nextTag rfl) rfl

def f_X9_removeFirst (s : mo_S) (a0 : Int32) : Option mo_S :=
  (match f_X9_ofQueue s a0 0 with
  | none => none
  | some r1 =>
   (match f_X9_of s r1 5 with
   | none => none
   | some r3 =>
    (match f_X9_setQueue s a0 0 r3 with
    | none => none
    | some s5 =>
     (match f_X9_ofQueue s5 a0 2 with
     | none => none
     | some r7 =>
      (match f_X9_setQueue s5 a0 2 (r7 - 1) with
      | none => none
      | some s9 =>
       (match f_X9_of s9 r1 5 with
       | none => none
       | some r11 =>
        (if r11 = (-1) then
         (match f_X9_setQueue s9 a0 1 (-1) with
         | none => none
         | some s14 =>
          some s14)
        else
         some s9)))))))
def tb_X9_removeFirst : List pm_I := [(0, .aload_n 0, 0, 0), (1, .iload_n 1, 0, 0), (2, .iconst 0, 2, 0), (3, .invokevirtual 233, 290, 0), (6, .istore_n 2, 0, 0), (7, .aload_n 0, 0, 0), (8, .iload_n 1, 0, 0), (9, .iconst 0, 2, 0), (10, .aload_n 0, 0, 0), (11, .iload_n 2, 0, 0), (12, .iconst 5, 7, 0), (13, .invokevirtual 254, 285, 0), (16, .invokevirtual 240, 292, 0), (19, .aload_n 0, 0, 0), (20, .iload_n 1, 0, 0), (21, .iconst 2, 4, 0), (22, .aload_n 0, 0, 0), (23, .iload_n 1, 0, 0), (24, .iconst 2, 4, 0), (25, .invokevirtual 233, 290, 0), (28, .iconst 1, 3, 0), (29, .isub, 0, 0), (30, .invokevirtual 240, 292, 0), (33, .aload_n 0, 0, 0), (34, .iload_n 2, 0, 0), (35, .iconst 5, 7, 0), (36, .invokevirtual 254, 285, 0), (39, .iconst (-1), 1, 0), (40, .if_icmp .ne 10, 50, 0), (43, .aload_n 0, 0, 0), (44, .iload_n 1, 0, 0), (45, .iconst 1, 3, 0), (46, .iconst (-1), 1, 0), (47, .invokevirtual 240, 292, 0), (50, .return_, 0, 0)]
theorem tk_X9_removeFirst : ∀ e ∈ tb_X9_removeFirst, pm_ck 208 e = true := List.all_eq_true.mp (by decide +kernel)
set_option maxRecDepth 20000 in
set_option maxHeartbeats 20000000 in
theorem e_X9_removeFirst (d : Nat) (hd : 2 ≤ d) (gx : List pm_E) (gs : List (List pm_E)) (q : Nat × Nat × Nat) (s : mo_S) (a0 : Int32) (s1 : mo_S) (H : f_X9_removeFirst s a0 = some s1) : pm_Mt 208 d [.ref 64, .int a0] (mo_h gx s gs q) (.inl (none)) (mo_h gx s1 gs q) := by
  refine pm_Mt.of (by decide) (by decide +kernel) rfl rfl ?_
  obtain ⟨d, rfl⟩ : ∃ d', d = d' + 1 := ⟨d - 1, by omega⟩
  unfold f_X9_removeFirst at H
  cases q2 : f_X9_ofQueue s a0 0 with
  | none => rw [q2] at H; cases H
  | some r1 =>
   rw [q2] at H
   dsimp only at H
   refine pm_Wg.path (k := 3) (ds := []) (f' := (3, [some (.ref 64), some (.int a0), none], [.int 0, .int a0, .ref 64], mo_h gx s gs q)) tk_X9_removeFirst (by omega) rfl trivial ?_
   refine pm_Wg.callV (m' := 198) (ix := 233) (rr := 290) (pl := 1747) (b := 64) (As := [.int a0, .int 0]) (S := []) (by decide) rfl (pm_dec tk_X9_removeFirst rfl) rfl rfl (by decide) rfl rfl (by decide) (Nat.le_of_ble_eq_true rfl) rfl (e_X9_ofQueue d (by omega) gx gs q _ _ _ _ q2) ?_
   cases q4 : f_X9_of s r1 5 with
   | none => rw [q4] at H; cases H
   | some r3 =>
    rw [q4] at H
    dsimp only at H
    refine pm_Wg.path (k := 7) (ds := []) (f' := (13, [some (.ref 64), some (.int a0), some (.int r1)], [.int 5, .int r1, .ref 64, .int 0, .int a0, .ref 64], mo_h gx s gs q)) tk_X9_removeFirst (by omega) rfl trivial ?_
    refine pm_Wg.callV (m' := 200) (ix := 254) (rr := 285) (pl := 1726) (b := 64) (As := [.int r1, .int 5]) (S := [.int 0, .int a0, .ref 64]) (by decide) rfl (pm_dec tk_X9_removeFirst rfl) rfl rfl (by decide) rfl rfl (by decide) (Nat.le_of_ble_eq_true rfl) rfl (e_X9_of d (by omega) gx gs q _ _ _ _ q4) ?_
    cases q6 : f_X9_setQueue s a0 0 r3 with
    | none => rw [q6] at H; cases H
    | some s5 =>
     rw [q6] at H
     dsimp only at H
     refine pm_Wg.callV (m' := 199) (ix := 240) (rr := 292) (pl := 1756) (b := 64) (As := [.int a0, .int 0, .int r3]) (S := []) (by decide) rfl (pm_dec tk_X9_removeFirst rfl) rfl rfl (by decide) rfl rfl (by decide) (Nat.le_of_ble_eq_true rfl) rfl (e_X9_setQueue d (by omega) gx gs q _ _ _ _ _ q6) ?_
     cases q8 : f_X9_ofQueue s5 a0 2 with
     | none => rw [q8] at H; cases H
     | some r7 =>
      rw [q8] at H
      dsimp only at H
      refine pm_Wg.path (k := 6) (ds := []) (f' := (25, [some (.ref 64), some (.int a0), some (.int r1)], [.int 2, .int a0, .ref 64, .int 2, .int a0, .ref 64], mo_h gx s5 gs q)) tk_X9_removeFirst (by omega) rfl trivial ?_
      refine pm_Wg.callV (m' := 198) (ix := 233) (rr := 290) (pl := 1747) (b := 64) (As := [.int a0, .int 2]) (S := [.int 2, .int a0, .ref 64]) (by decide) rfl (pm_dec tk_X9_removeFirst rfl) rfl rfl (by decide) rfl rfl (by decide) (Nat.le_of_ble_eq_true rfl) rfl (e_X9_ofQueue d (by omega) gx gs q _ _ _ _ q8) ?_
      cases q10 : f_X9_setQueue s5 a0 2 (r7 - 1) with
      | none => rw [q10] at H; cases H
      | some s9 =>
       rw [q10] at H
       dsimp only at H
       refine pm_Wg.path (k := 2) (ds := []) (f' := (30, [some (.ref 64), some (.int a0), some (.int r1)], [.int (r7 - 1), .int 2, .int a0, .ref 64], mo_h gx s5 gs q)) tk_X9_removeFirst (by omega) rfl trivial ?_
       refine pm_Wg.callV (m' := 199) (ix := 240) (rr := 292) (pl := 1756) (b := 64) (As := [.int a0, .int 2, .int (r7 - 1)]) (S := []) (by decide) rfl (pm_dec tk_X9_removeFirst rfl) rfl rfl (by decide) rfl rfl (by decide) (Nat.le_of_ble_eq_true rfl) rfl (e_X9_setQueue d (by omega) gx gs q _ _ _ _ _ q10) ?_
       cases q12 : f_X9_of s9 r1 5 with
       | none => rw [q12] at H; cases H
       | some r11 =>
        rw [q12] at H
        dsimp only at H
        refine pm_Wg.path (k := 3) (ds := []) (f' := (36, [some (.ref 64), some (.int a0), some (.int r1)], [.int 5, .int r1, .ref 64], mo_h gx s9 gs q)) tk_X9_removeFirst (by omega) rfl trivial ?_
        refine pm_Wg.callV (m' := 200) (ix := 254) (rr := 285) (pl := 1726) (b := 64) (As := [.int r1, .int 5]) (S := []) (by decide) rfl (pm_dec tk_X9_removeFirst rfl) rfl rfl (by decide) rfl rfl (by decide) (Nat.le_of_ble_eq_true rfl) rfl (e_X9_of d (by omega) gx gs q _ _ _ _ q12) ?_
        by_cases h13 : r11 = (-1)
        · rw [if_pos h13] at H
          cases q15 : f_X9_setQueue s9 a0 1 (-1) with
          | none => rw [q15] at H; cases H
          | some s14 =>
           rw [q15] at H
           dsimp only at H
           refine pm_Wg.path (k := 6) (ds := [0]) (f' := (47, [some (.ref 64), some (.int a0), some (.int r1)], [.int (-1), .int 1, .int a0, .ref 64], mo_h gx s9 gs q)) tk_X9_removeFirst (by omega) rfl ⟨h13, trivial⟩ ?_
           refine pm_Wg.callV (m' := 199) (ix := 240) (rr := 292) (pl := 1756) (b := 64) (As := [.int a0, .int 1, .int (-1)]) (S := []) (by decide) rfl (pm_dec tk_X9_removeFirst rfl) rfl rfl (by decide) rfl rfl (by decide) (Nat.le_of_ble_eq_true rfl) rfl (e_X9_setQueue d (by omega) gx gs q _ _ _ _ _ q15) ?_
           injection H with H
           subst H
           exact pm_Wg.vret (pm_dec tk_X9_removeFirst rfl) rfl
        · rw [if_neg h13] at H
          injection H with H
          subst H
          refine pm_Wg.path (k := 2) (ds := [1]) (f' := (50, [some (.ref 64), some (.int a0), some (.int r1)], [], mo_h gx s9 gs q)) tk_X9_removeFirst (by omega) rfl ⟨h13, trivial⟩ ?_
          exact pm_Wg.vret (pm_dec tk_X9_removeFirst rfl) rfl

def f_X9_release (s : mo_S) (a0 : Int32) : Option mo_S :=
  (match pm_inb 8 18186 with
  | false => none
  | true =>
  (match f_X9_set s a0 5 (s.2.2.1 3 (Int32.toNatClampNeg 8)) with
  | none => none
  | some s2 =>
   some (mo_a s2 3 8 a0)))
def tb_X9_release : List pm_I := [(0, .aload_n 0, 0, 0), (1, .iload_n 1, 0, 0), (2, .iconst 5, 7, 0), (3, .aload_n 0, 0, 0), (4, .getfield 16, 162, 0), (7, .bipush 8, 10, 0), (9, .iaload, 0, 0), (10, .invokevirtual 244, 286, 0), (13, .aload_n 0, 0, 0), (14, .getfield 16, 162, 0), (17, .bipush 8, 10, 0), (19, .iload_n 1, 0, 0), (20, .iastore, 0, 0), (21, .return_, 0, 0)]
theorem tk_X9_release : ∀ e ∈ tb_X9_release, pm_ck 210 e = true := List.all_eq_true.mp (by decide +kernel)
set_option maxRecDepth 20000 in
set_option maxHeartbeats 20000000 in
theorem e_X9_release (d : Nat) (hd : 2 ≤ d) (gx : List pm_E) (gs : List (List pm_E)) (q : Nat × Nat × Nat) (s : mo_S) (a0 : Int32) (s1 : mo_S) (H : f_X9_release s a0 = some s1) : pm_Mt 210 d [.ref 64, .int a0] (mo_h gx s gs q) (.inl (none)) (mo_h gx s1 gs q) := by
  refine pm_Mt.of (by decide) (by decide +kernel) rfl rfl ?_
  obtain ⟨d, rfl⟩ : ∃ d', d = d' + 1 := ⟨d - 1, by omega⟩
  unfold f_X9_release at H
  cases b1 : pm_inb 8 18186 with
  | false => rw [b1] at H; cases H
  | true =>
   rw [b1] at H
   dsimp only at H
   cases q3 : f_X9_set s a0 5 (s.2.2.1 3 (Int32.toNatClampNeg 8)) with
   | none => rw [q3] at H; cases H
   | some s2 =>
    rw [q3] at H
    dsimp only at H
    refine pm_Wg.path (k := 7) (ds := []) (f' := (10, [some (.ref 64), some (.int a0)], [.int (s.2.2.1 3 (Int32.toNatClampNeg 8)), .int 5, .int a0, .ref 64], mo_h gx s gs q)) tk_X9_release (by omega) rfl ⟨pm_inb_vp b1, trivial⟩ ?_
    refine pm_Wg.callV (m' := 201) (ix := 244) (rr := 286) (pl := 1730) (b := 64) (As := [.int a0, .int 5, .int (s.2.2.1 3 (Int32.toNatClampNeg 8))]) (S := []) (by decide) rfl (pm_dec tk_X9_release rfl) rfl rfl (by decide) rfl rfl (by decide) (Nat.le_of_ble_eq_true rfl) rfl (e_X9_set d (by omega) gx gs q _ _ _ _ _ q3) ?_
    injection H with H
    subst H
    refine pm_Wg.path (k := 5) (ds := []) (f' := (21, [some (.ref 64), some (.int a0)], [], mo_h gx (mo_a s2 3 8 a0) gs q)) tk_X9_release (by omega) rfl ⟨pm_inb_vp b1, trivial⟩ ?_
    exact pm_Wg.vret (pm_dec tk_X9_release rfl) rfl

def f_X9_ofRequest (s : mo_S) (a0 : Int32) (a1 : Int32) : Option Int32 :=
  (match pm_inb ((744 + (5 * a0)) + a1) 18186 with
  | false => none
  | true =>
  some (s.2.2.1 3 (Int32.toNatClampNeg ((744 + (5 * a0)) + a1))))
def tb_X9_ofRequest : List pm_I := [(0, .aload_n 0, 0, 0), (1, .getfield 16, 162, 0), (4, .sipush 744, 37, 0), (7, .iconst 5, 7, 0), (8, .iload_n 1, 0, 0), (9, .imul, 0, 0), (10, .iadd, 0, 0), (11, .iload_n 2, 0, 0), (12, .iadd, 0, 0), (13, .iaload, 0, 0), (14, .ireturn, 0, 0)]
theorem tk_X9_ofRequest : ∀ e ∈ tb_X9_ofRequest, pm_ck 211 e = true := List.all_eq_true.mp (by decide +kernel)
set_option maxRecDepth 20000 in
set_option maxHeartbeats 20000000 in
theorem e_X9_ofRequest (d : Nat) (hd : 1 ≤ d) (gx : List pm_E) (gs : List (List pm_E)) (q : Nat × Nat × Nat) (s : mo_S) (a0 : Int32) (a1 : Int32) (r : Int32) (H : f_X9_ofRequest s a0 a1 = some r) : pm_Mt 211 d [.ref 64, .int a0, .int a1] (mo_h gx s gs q) (.inl (some (.int r))) (mo_h gx s gs q) := by
  refine pm_Mt.of (by decide) (by decide +kernel) rfl rfl ?_
  unfold f_X9_ofRequest at H
  cases b1 : pm_inb ((744 + (5 * a0)) + a1) 18186 with
  | false => rw [b1] at H; cases H
  | true =>
   rw [b1] at H
   dsimp only at H
   have H1 := Option.some.inj H
   subst H1
   refine pm_Wg.path (k := 10) (ds := []) (f' := (14, [some (.ref 64), some (.int a0), some (.int a1)], [.int (s.2.2.1 3 (Int32.toNatClampNeg ((744 + (5 * a0)) + a1)))], mo_h gx s gs q)) tk_X9_ofRequest (by omega) rfl ⟨pm_inb_vp b1, trivial⟩ ?_
   exact pm_Wg.iret (pm_dec tk_X9_ofRequest rfl) rfl rfl

def f_X9_setRequest (s : mo_S) (a0 : Int32) (a1 : Int32) (a2 : Int32) : Option mo_S :=
  (match pm_inb ((744 + (5 * a0)) + a1) 18186 with
  | false => none
  | true =>
  some (mo_a s 3 ((744 + (5 * a0)) + a1) a2))
def tb_X9_setRequest : List pm_I := [(0, .aload_n 0, 0, 0), (1, .getfield 16, 162, 0), (4, .sipush 744, 37, 0), (7, .iconst 5, 7, 0), (8, .iload_n 1, 0, 0), (9, .imul, 0, 0), (10, .iadd, 0, 0), (11, .iload_n 2, 0, 0), (12, .iadd, 0, 0), (13, .iload_n 3, 0, 0), (14, .iastore, 0, 0), (15, .return_, 0, 0)]
theorem tk_X9_setRequest : ∀ e ∈ tb_X9_setRequest, pm_ck 212 e = true := List.all_eq_true.mp (by decide +kernel)
set_option maxRecDepth 20000 in
set_option maxHeartbeats 20000000 in
theorem e_X9_setRequest (d : Nat) (hd : 1 ≤ d) (gx : List pm_E) (gs : List (List pm_E)) (q : Nat × Nat × Nat) (s : mo_S) (a0 : Int32) (a1 : Int32) (a2 : Int32) (s1 : mo_S) (H : f_X9_setRequest s a0 a1 a2 = some s1) : pm_Mt 212 d [.ref 64, .int a0, .int a1, .int a2] (mo_h gx s gs q) (.inl (none)) (mo_h gx s1 gs q) := by
  refine pm_Mt.of (by decide) (by decide +kernel) rfl rfl ?_
  unfold f_X9_setRequest at H
  cases b1 : pm_inb ((744 + (5 * a0)) + a1) 18186 with
  | false => rw [b1] at H; cases H
  | true =>
   rw [b1] at H
   dsimp only at H
   injection H with H
   subst H
   refine pm_Wg.path (k := 11) (ds := []) (f' := (15, [some (.ref 64), some (.int a0), some (.int a1), some (.int a2)], [], mo_h gx (mo_a s 3 ((744 + (5 * a0)) + a1) a2) gs q)) tk_X9_setRequest (by omega) rfl ⟨pm_inb_vp b1, trivial⟩ ?_
   exact pm_Wg.vret (pm_dec tk_X9_setRequest rfl) rfl

def f_X9_addPending (s : mo_S) (a0 : Int32) (a1 : Int32) : Option mo_S :=
  (match f_X9_ofRequest s a0 3 with
  | none => none
  | some r1 =>
   (match f_X9_setRequest s a0 3 (r1 + a1) with
   | none => none
   | some s3 =>
    some s3))
def tb_X9_addPending : List pm_I := [(0, .aload_n 0, 0, 0), (1, .iload_n 1, 0, 0), (2, .iconst 3, 5, 0), (3, .aload_n 0, 0, 0), (4, .iload_n 1, 0, 0), (5, .iconst 3, 5, 0), (6, .invokevirtual 267, 282, 0), (9, .iload_n 2, 0, 0), (10, .iadd, 0, 0), (11, .invokevirtual 270, 276, 0), (14, .return_, 0, 0)]
theorem tk_X9_addPending : ∀ e ∈ tb_X9_addPending, pm_ck 213 e = true := List.all_eq_true.mp (by decide +kernel)
set_option maxRecDepth 20000 in
set_option maxHeartbeats 20000000 in
theorem e_X9_addPending (d : Nat) (hd : 2 ≤ d) (gx : List pm_E) (gs : List (List pm_E)) (q : Nat × Nat × Nat) (s : mo_S) (a0 : Int32) (a1 : Int32) (s1 : mo_S) (H : f_X9_addPending s a0 a1 = some s1) : pm_Mt 213 d [.ref 64, .int a0, .int a1] (mo_h gx s gs q) (.inl (none)) (mo_h gx s1 gs q) := by
  refine pm_Mt.of (by decide) (by decide +kernel) rfl rfl ?_
  obtain ⟨d, rfl⟩ : ∃ d', d = d' + 1 := ⟨d - 1, by omega⟩
  unfold f_X9_addPending at H
  cases q2 : f_X9_ofRequest s a0 3 with
  | none => rw [q2] at H; cases H
  | some r1 =>
   rw [q2] at H
   dsimp only at H
   refine pm_Wg.path (k := 6) (ds := []) (f' := (6, [some (.ref 64), some (.int a0), some (.int a1)], [.int 3, .int a0, .ref 64, .int 3, .int a0, .ref 64], mo_h gx s gs q)) tk_X9_addPending (by omega) rfl trivial ?_
   refine pm_Wg.callV (m' := 211) (ix := 267) (rr := 282) (pl := 1715) (b := 64) (As := [.int a0, .int 3]) (S := [.int 3, .int a0, .ref 64]) (by decide) rfl (pm_dec tk_X9_addPending rfl) rfl rfl (by decide) rfl rfl (by decide) (Nat.le_of_ble_eq_true rfl) rfl (e_X9_ofRequest d (by omega) gx gs q _ _ _ _ q2) ?_
   cases q4 : f_X9_setRequest s a0 3 (r1 + a1) with
   | none => rw [q4] at H; cases H
   | some s3 =>
    rw [q4] at H
    dsimp only at H
    refine pm_Wg.path (k := 2) (ds := []) (f' := (11, [some (.ref 64), some (.int a0), some (.int a1)], [.int (r1 + a1), .int 3, .int a0, .ref 64], mo_h gx s gs q)) tk_X9_addPending (by omega) rfl trivial ?_
    refine pm_Wg.callV (m' := 212) (ix := 270) (rr := 276) (pl := 1691) (b := 64) (As := [.int a0, .int 3, .int (r1 + a1)]) (S := []) (by decide) rfl (pm_dec tk_X9_addPending rfl) rfl rfl (by decide) rfl rfl (by decide) (Nat.le_of_ble_eq_true rfl) rfl (e_X9_setRequest d (by omega) gx gs q _ _ _ _ _ q4) ?_
    injection H with H
    subst H
    exact pm_Wg.vret (pm_dec tk_X9_addPending rfl) rfl

def f_X9_addStatistic (s : mo_S) (a0 : Int32) (a1 : Int32) (a2 : Int32) : Option mo_S :=
  (match pm_inb ((2744 + (7 * a0)) + a1) 18186 with
  | false => none
  | true =>
  some (mo_a s 3 ((2744 + (7 * a0)) + a1) ((s.2.2.1 3 (Int32.toNatClampNeg ((2744 + (7 * a0)) + a1))) + a2)))
def tb_X9_addStatistic : List pm_I := [(0, .sipush 2744, 42, 0), (3, .bipush 7, 9, 0), (5, .iload_n 1, 0, 0), (6, .imul, 0, 0), (7, .iadd, 0, 0), (8, .iload_n 2, 0, 0), (9, .iadd, 0, 0), (10, .istore 4, 0, 0), (12, .aload_n 0, 0, 0), (13, .getfield 16, 162, 0), (16, .iload 4, 0, 0), (18, .aload_n 0, 0, 0), (19, .getfield 16, 162, 0), (22, .iload 4, 0, 0), (24, .iaload, 0, 0), (25, .iload_n 3, 0, 0), (26, .iadd, 0, 0), (27, .iastore, 0, 0), (28, .return_, 0, 0)]
theorem tk_X9_addStatistic : ∀ e ∈ tb_X9_addStatistic, pm_ck 214 e = true := List.all_eq_true.mp (by decide +kernel)
set_option maxRecDepth 20000 in
set_option maxHeartbeats 20000000 in
theorem e_X9_addStatistic (d : Nat) (hd : 1 ≤ d) (gx : List pm_E) (gs : List (List pm_E)) (q : Nat × Nat × Nat) (s : mo_S) (a0 : Int32) (a1 : Int32) (a2 : Int32) (s1 : mo_S) (H : f_X9_addStatistic s a0 a1 a2 = some s1) : pm_Mt 214 d [.ref 64, .int a0, .int a1, .int a2] (mo_h gx s gs q) (.inl (none)) (mo_h gx s1 gs q) := by
  refine pm_Mt.of (by decide) (by decide +kernel) rfl rfl ?_
  unfold f_X9_addStatistic at H
  cases b1 : pm_inb ((2744 + (7 * a0)) + a1) 18186 with
  | false => rw [b1] at H; cases H
  | true =>
   rw [b1] at H
   dsimp only at H
   injection H with H
   subst H
   refine pm_Wg.path (k := 18) (ds := []) (f' := (28, [some (.ref 64), some (.int a0), some (.int a1), some (.int a2), some (.int ((2744 + (7 * a0)) + a1))], [], mo_h gx (mo_a s 3 ((2744 + (7 * a0)) + a1) ((s.2.2.1 3 (Int32.toNatClampNeg ((2744 + (7 * a0)) + a1))) + a2)) gs q)) tk_X9_addStatistic (by omega) rfl ⟨pm_inb_vp b1, pm_inb_vp b1, trivial⟩ ?_
   exact pm_Wg.vret (pm_dec tk_X9_addStatistic rfl) rfl

def f_X9_checkRequest (s : mo_S) (a0 : Int32) : Option mo_S :=
  (match f_X9_ofRequest s a0 3 with
  | none => none
  | some r1 =>
   (if r1 ≤ 0 then
    (match f_X9_ofRequest s a0 0 with
    | none => none
    | some r4 =>
     (match pm_inb 0 18186 with
     | false => none
     | true =>
     (match f_X9_ofRequest s a0 1 with
     | none => none
     | some r7 =>
      (match f_X9_ofRequest s a0 2 with
      | none => none
      | some r9 =>
       (match f_X9_setRequest s a0 4 (s.2.2.1 3 (Int32.toNatClampNeg 0)) with
       | none => none
       | some s12 =>
        (match f_X9_addStatistic s12 r4 0 1 with
        | none => none
        | some s14 =>
         (match f_X9_addStatistic s14 r4 1 ((s.2.2.1 3 (Int32.toNatClampNeg 0)) - r7) with
         | none => none
         | some s16 =>
          (if r9 = (-1) then
           (match f_X9_addStatistic s16 r4 3 0 with
           | none => none
           | some s21 =>
            (match pm_inb ((2744 + (7 * r4)) + 2) 18186 with
            | false => none
            | true =>
            (if ((s.2.2.1 3 (Int32.toNatClampNeg 0)) - r7) ≤ (s21.2.2.1 3 (Int32.toNatClampNeg ((2744 + (7 * r4)) + 2))) then
             some (mo_a s21 3 ((2744 + (7 * r4)) + 2) (s21.2.2.1 3 (Int32.toNatClampNeg ((2744 + (7 * r4)) + 2))))
            else
             some (mo_a s21 3 ((2744 + (7 * r4)) + 2) ((s.2.2.1 3 (Int32.toNatClampNeg 0)) - r7)))))
          else
           (if (s16.2.2.1 3 (Int32.toNatClampNeg 0)) ≤ r9 then
            (match f_X9_addStatistic s16 r4 3 0 with
            | none => none
            | some s28 =>
             (match pm_inb ((2744 + (7 * r4)) + 2) 18186 with
             | false => none
             | true =>
             (if ((s.2.2.1 3 (Int32.toNatClampNeg 0)) - r7) ≤ (s28.2.2.1 3 (Int32.toNatClampNeg ((2744 + (7 * r4)) + 2))) then
              some (mo_a s28 3 ((2744 + (7 * r4)) + 2) (s28.2.2.1 3 (Int32.toNatClampNeg ((2744 + (7 * r4)) + 2))))
             else
              some (mo_a s28 3 ((2744 + (7 * r4)) + 2) ((s.2.2.1 3 (Int32.toNatClampNeg 0)) - r7)))))
           else
            (match f_X9_addStatistic s16 r4 3 1 with
            | none => none
            | some s35 =>
             (match pm_inb ((2744 + (7 * r4)) + 2) 18186 with
             | false => none
             | true =>
             (if ((s.2.2.1 3 (Int32.toNatClampNeg 0)) - r7) ≤ (s35.2.2.1 3 (Int32.toNatClampNeg ((2744 + (7 * r4)) + 2))) then
              some (mo_a s35 3 ((2744 + (7 * r4)) + 2) (s35.2.2.1 3 (Int32.toNatClampNeg ((2744 + (7 * r4)) + 2))))
             else
              some (mo_a s35 3 ((2744 + (7 * r4)) + 2) ((s.2.2.1 3 (Int32.toNatClampNeg 0)) - r7))))))))))))))
   else
    some s))
def tb_X9_checkRequest : List pm_I := [(0, .aload_n 0, 0, 0), (1, .iload_n 1, 0, 0), (2, .iconst 3, 5, 0), (3, .invokevirtual 267, 282, 0), (6, .ifCond .le 4, 10, 0), (9, .return_, 0, 0), (10, .aload_n 0, 0, 0), (11, .iload_n 1, 0, 0), (12, .iconst 0, 2, 0), (13, .invokevirtual 267, 282, 0), (16, .istore_n 2, 0, 0), (17, .aload_n 0, 0, 0), (18, .getfield 16, 162, 0), (21, .iconst 0, 2, 0), (22, .iaload, 0, 0), (23, .aload_n 0, 0, 0), (24, .iload_n 1, 0, 0), (25, .iconst 1, 3, 0), (26, .invokevirtual 267, 282, 0), (29, .isub, 0, 0), (30, .istore_n 3, 0, 0), (31, .aload_n 0, 0, 0), (32, .iload_n 1, 0, 0), (33, .iconst 2, 4, 0), (34, .invokevirtual 267, 282, 0), (37, .istore 4, 0, 0), (39, .aload_n 0, 0, 0), (40, .iload_n 1, 0, 0), (41, .iconst 4, 6, 0), (42, .aload_n 0, 0, 0), (43, .getfield 16, 162, 0), (46, .iconst 0, 2, 0), (47, .iaload, 0, 0), (48, .invokevirtual 270, 276, 0), (51, .aload_n 0, 0, 0), (52, .iload_n 2, 0, 0), (53, .iconst 0, 2, 0), (54, .iconst 1, 3, 0), (55, .invokevirtual 273, 296, 0), (58, .aload_n 0, 0, 0), (59, .iload_n 2, 0, 0), (60, .iconst 1, 3, 0), (61, .iload_n 3, 0, 0), (62, .invokevirtual 273, 296, 0), (65, .aload_n 0, 0, 0), (66, .iload_n 2, 0, 0), (67, .iconst 3, 5, 0), (68, .iload 4, 0, 0), (70, .iconst (-1), 1, 0), (71, .if_icmp .eq 18, 89, 0), (74, .aload_n 0, 0, 0), (75, .getfield 16, 162, 0), (78, .iconst 0, 2, 0), (79, .iaload, 0, 0), (80, .iload 4, 0, 0), (82, .if_icmp .le 7, 89, 0), (85, .iconst 1, 3, 0), (86, .goto 4, 90, 0), (89, .iconst 0, 2, 0), (90, .invokevirtual 273, 296, 0), (93, .sipush 2744, 42, 0), (96, .bipush 7, 9, 0), (98, .iload_n 2, 0, 0), (99, .imul, 0, 0), (100, .iadd, 0, 0), (101, .iconst 2, 4, 0), (102, .iadd, 0, 0), (103, .istore 5, 0, 0), (105, .aload_n 0, 0, 0), (106, .getfield 16, 162, 0), (109, .iload 5, 0, 0), (111, .iload_n 3, 0, 0), (112, .aload_n 0, 0, 0), (113, .getfield 16, 162, 0), (116, .iload 5, 0, 0), (118, .iaload, 0, 0), (119, .if_icmp .le 7, 126, 0), (122, .iload_n 3, 0, 0), (123, .goto 10, 133, 0), (126, .aload_n 0, 0, 0), (127, .getfield 16, 162, 0), (130, .iload 5, 0, 0), (132, .iaload, 0, 0), (133, .iastore, 0, 0), (134, .return_, 0, 0)]
theorem tk_X9_checkRequest : ∀ e ∈ tb_X9_checkRequest, pm_ck 215 e = true := List.all_eq_true.mp (by decide +kernel)
set_option maxRecDepth 20000 in
set_option maxHeartbeats 20000000 in
theorem e_X9_checkRequest (d : Nat) (hd : 2 ≤ d) (gx : List pm_E) (gs : List (List pm_E)) (q : Nat × Nat × Nat) (s : mo_S) (a0 : Int32) (s1 : mo_S) (H : f_X9_checkRequest s a0 = some s1) : pm_Mt 215 d [.ref 64, .int a0] (mo_h gx s gs q) (.inl (none)) (mo_h gx s1 gs q) := by
  refine pm_Mt.of (by decide) (by decide +kernel) rfl rfl ?_
  obtain ⟨d, rfl⟩ : ∃ d', d = d' + 1 := ⟨d - 1, by omega⟩
  unfold f_X9_checkRequest at H
  cases q2 : f_X9_ofRequest s a0 3 with
  | none => rw [q2] at H; cases H
  | some r1 =>
   rw [q2] at H
   dsimp only at H
   refine pm_Wg.path (k := 3) (ds := []) (f' := (3, [some (.ref 64), some (.int a0), none, none, none, none], [.int 3, .int a0, .ref 64], mo_h gx s gs q)) tk_X9_checkRequest (by omega) rfl trivial ?_
   refine pm_Wg.callV (m' := 211) (ix := 267) (rr := 282) (pl := 1715) (b := 64) (As := [.int a0, .int 3]) (S := []) (by decide) rfl (pm_dec tk_X9_checkRequest rfl) rfl rfl (by decide) rfl rfl (by decide) (Nat.le_of_ble_eq_true rfl) rfl (e_X9_ofRequest d (by omega) gx gs q _ _ _ _ q2) ?_
   by_cases h3 : r1 ≤ 0
   · rw [if_pos h3] at H
     cases q5 : f_X9_ofRequest s a0 0 with
     | none => rw [q5] at H; cases H
     | some r4 =>
      rw [q5] at H
      dsimp only at H
      refine pm_Wg.path (k := 4) (ds := [1]) (f' := (13, [some (.ref 64), some (.int a0), none, none, none, none], [.int 0, .int a0, .ref 64], mo_h gx s gs q)) tk_X9_checkRequest (by omega) rfl ⟨h3, trivial⟩ ?_
      refine pm_Wg.callV (m' := 211) (ix := 267) (rr := 282) (pl := 1715) (b := 64) (As := [.int a0, .int 0]) (S := []) (by decide) rfl (pm_dec tk_X9_checkRequest rfl) rfl rfl (by decide) rfl rfl (by decide) (Nat.le_of_ble_eq_true rfl) rfl (e_X9_ofRequest d (by omega) gx gs q _ _ _ _ q5) ?_
      cases b6 : pm_inb 0 18186 with
      | false => rw [b6] at H; cases H
      | true =>
       rw [b6] at H
       dsimp only at H
       cases q8 : f_X9_ofRequest s a0 1 with
       | none => rw [q8] at H; cases H
       | some r7 =>
        rw [q8] at H
        dsimp only at H
        refine pm_Wg.path (k := 8) (ds := []) (f' := (26, [some (.ref 64), some (.int a0), some (.int r4), none, none, none], [.int 1, .int a0, .ref 64, .int (s.2.2.1 3 (Int32.toNatClampNeg 0))], mo_h gx s gs q)) tk_X9_checkRequest (by omega) rfl ⟨pm_inb_vp b6, trivial⟩ ?_
        refine pm_Wg.callV (m' := 211) (ix := 267) (rr := 282) (pl := 1715) (b := 64) (As := [.int a0, .int 1]) (S := [.int (s.2.2.1 3 (Int32.toNatClampNeg 0))]) (by decide) rfl (pm_dec tk_X9_checkRequest rfl) rfl rfl (by decide) rfl rfl (by decide) (Nat.le_of_ble_eq_true rfl) rfl (e_X9_ofRequest d (by omega) gx gs q _ _ _ _ q8) ?_
        cases q10 : f_X9_ofRequest s a0 2 with
        | none => rw [q10] at H; cases H
        | some r9 =>
         rw [q10] at H
         dsimp only at H
         refine pm_Wg.path (k := 5) (ds := []) (f' := (34, [some (.ref 64), some (.int a0), some (.int r4), some (.int ((s.2.2.1 3 (Int32.toNatClampNeg 0)) - r7)), none, none], [.int 2, .int a0, .ref 64], mo_h gx s gs q)) tk_X9_checkRequest (by omega) rfl trivial ?_
         refine pm_Wg.callV (m' := 211) (ix := 267) (rr := 282) (pl := 1715) (b := 64) (As := [.int a0, .int 2]) (S := []) (by decide) rfl (pm_dec tk_X9_checkRequest rfl) rfl rfl (by decide) rfl rfl (by decide) (Nat.le_of_ble_eq_true rfl) rfl (e_X9_ofRequest d (by omega) gx gs q _ _ _ _ q10) ?_
         cases q13 : f_X9_setRequest s a0 4 (s.2.2.1 3 (Int32.toNatClampNeg 0)) with
         | none => rw [q13] at H; cases H
         | some s12 =>
          rw [q13] at H
          dsimp only at H
          refine pm_Wg.path (k := 8) (ds := []) (f' := (48, [some (.ref 64), some (.int a0), some (.int r4), some (.int ((s.2.2.1 3 (Int32.toNatClampNeg 0)) - r7)), some (.int r9), none], [.int (s.2.2.1 3 (Int32.toNatClampNeg 0)), .int 4, .int a0, .ref 64], mo_h gx s gs q)) tk_X9_checkRequest (by omega) rfl ⟨pm_inb_vp b6, trivial⟩ ?_
          refine pm_Wg.callV (m' := 212) (ix := 270) (rr := 276) (pl := 1691) (b := 64) (As := [.int a0, .int 4, .int (s.2.2.1 3 (Int32.toNatClampNeg 0))]) (S := []) (by decide) rfl (pm_dec tk_X9_checkRequest rfl) rfl rfl (by decide) rfl rfl (by decide) (Nat.le_of_ble_eq_true rfl) rfl (e_X9_setRequest d (by omega) gx gs q _ _ _ _ _ q13) ?_
          cases q15 : f_X9_addStatistic s12 r4 0 1 with
          | none => rw [q15] at H; cases H
          | some s14 =>
           rw [q15] at H
           dsimp only at H
           refine pm_Wg.path (k := 4) (ds := []) (f' := (55, [some (.ref 64), some (.int a0), some (.int r4), some (.int ((s.2.2.1 3 (Int32.toNatClampNeg 0)) - r7)), some (.int r9), none], [.int 1, .int 0, .int r4, .ref 64], mo_h gx s12 gs q)) tk_X9_checkRequest (by omega) rfl trivial ?_
           refine pm_Wg.callV (m' := 214) (ix := 273) (rr := 296) (pl := 1772) (b := 64) (As := [.int r4, .int 0, .int 1]) (S := []) (by decide) rfl (pm_dec tk_X9_checkRequest rfl) rfl rfl (by decide) rfl rfl (by decide) (Nat.le_of_ble_eq_true rfl) rfl (e_X9_addStatistic d (by omega) gx gs q _ _ _ _ _ q15) ?_
           cases q17 : f_X9_addStatistic s14 r4 1 ((s.2.2.1 3 (Int32.toNatClampNeg 0)) - r7) with
           | none => rw [q17] at H; cases H
           | some s16 =>
            rw [q17] at H
            dsimp only at H
            refine pm_Wg.path (k := 4) (ds := []) (f' := (62, [some (.ref 64), some (.int a0), some (.int r4), some (.int ((s.2.2.1 3 (Int32.toNatClampNeg 0)) - r7)), some (.int r9), none], [.int ((s.2.2.1 3 (Int32.toNatClampNeg 0)) - r7), .int 1, .int r4, .ref 64], mo_h gx s14 gs q)) tk_X9_checkRequest (by omega) rfl trivial ?_
            refine pm_Wg.callV (m' := 214) (ix := 273) (rr := 296) (pl := 1772) (b := 64) (As := [.int r4, .int 1, .int ((s.2.2.1 3 (Int32.toNatClampNeg 0)) - r7)]) (S := []) (by decide) rfl (pm_dec tk_X9_checkRequest rfl) rfl rfl (by decide) rfl rfl (by decide) (Nat.le_of_ble_eq_true rfl) rfl (e_X9_addStatistic d (by omega) gx gs q _ _ _ _ _ q17) ?_
            by_cases h18 : r9 = (-1)
            · rw [if_pos h18] at H
              cases q22 : f_X9_addStatistic s16 r4 3 0 with
              | none => rw [q22] at H; cases H
              | some s21 =>
               rw [q22] at H
               dsimp only at H
               refine pm_Wg.path (k := 7) (ds := [1]) (f' := (90, [some (.ref 64), some (.int a0), some (.int r4), some (.int ((s.2.2.1 3 (Int32.toNatClampNeg 0)) - r7)), some (.int r9), none], [.int 0, .int 3, .int r4, .ref 64], mo_h gx s16 gs q)) tk_X9_checkRequest (by omega) rfl ⟨h18, trivial⟩ ?_
               refine pm_Wg.callV (m' := 214) (ix := 273) (rr := 296) (pl := 1772) (b := 64) (As := [.int r4, .int 3, .int 0]) (S := []) (by decide) rfl (pm_dec tk_X9_checkRequest rfl) rfl rfl (by decide) rfl rfl (by decide) (Nat.le_of_ble_eq_true rfl) rfl (e_X9_addStatistic d (by omega) gx gs q _ _ _ _ _ q22) ?_
               cases b23 : pm_inb ((2744 + (7 * r4)) + 2) 18186 with
               | false => rw [b23] at H; cases H
               | true =>
                rw [b23] at H
                dsimp only at H
                by_cases h24 : ((s.2.2.1 3 (Int32.toNatClampNeg 0)) - r7) ≤ (s21.2.2.1 3 (Int32.toNatClampNeg ((2744 + (7 * r4)) + 2)))
                · rw [if_pos h24] at H
                  injection H with H
                  subst H
                  refine pm_Wg.path (k := 22) (ds := [1]) (f' := (134, [some (.ref 64), some (.int a0), some (.int r4), some (.int ((s.2.2.1 3 (Int32.toNatClampNeg 0)) - r7)), some (.int r9), some (.int ((2744 + (7 * r4)) + 2))], [], mo_h gx (mo_a s21 3 ((2744 + (7 * r4)) + 2) (s21.2.2.1 3 (Int32.toNatClampNeg ((2744 + (7 * r4)) + 2)))) gs q)) tk_X9_checkRequest (by omega) rfl ⟨pm_inb_vp b23, pm_inb_vp b23, h24, pm_inb_vp b23, trivial⟩ ?_
                  exact pm_Wg.vret (pm_dec tk_X9_checkRequest rfl) rfl
                · rw [if_neg h24] at H
                  injection H with H
                  subst H
                  refine pm_Wg.path (k := 20) (ds := [0]) (f' := (134, [some (.ref 64), some (.int a0), some (.int r4), some (.int ((s.2.2.1 3 (Int32.toNatClampNeg 0)) - r7)), some (.int r9), some (.int ((2744 + (7 * r4)) + 2))], [], mo_h gx (mo_a s21 3 ((2744 + (7 * r4)) + 2) ((s.2.2.1 3 (Int32.toNatClampNeg 0)) - r7)) gs q)) tk_X9_checkRequest (by omega) rfl ⟨pm_inb_vp b23, h24, pm_inb_vp b23, trivial⟩ ?_
                  exact pm_Wg.vret (pm_dec tk_X9_checkRequest rfl) rfl
            · rw [if_neg h18] at H
              by_cases h20 : (s16.2.2.1 3 (Int32.toNatClampNeg 0)) ≤ r9
              · rw [if_pos h20] at H
                cases q29 : f_X9_addStatistic s16 r4 3 0 with
                | none => rw [q29] at H; cases H
                | some s28 =>
                 rw [q29] at H
                 dsimp only at H
                 refine pm_Wg.path (k := 13) (ds := [0, 1]) (f' := (90, [some (.ref 64), some (.int a0), some (.int r4), some (.int ((s.2.2.1 3 (Int32.toNatClampNeg 0)) - r7)), some (.int r9), none], [.int 0, .int 3, .int r4, .ref 64], mo_h gx s16 gs q)) tk_X9_checkRequest (by omega) rfl ⟨h20, pm_inb_vp b6, h18, trivial⟩ ?_
                 refine pm_Wg.callV (m' := 214) (ix := 273) (rr := 296) (pl := 1772) (b := 64) (As := [.int r4, .int 3, .int 0]) (S := []) (by decide) rfl (pm_dec tk_X9_checkRequest rfl) rfl rfl (by decide) rfl rfl (by decide) (Nat.le_of_ble_eq_true rfl) rfl (e_X9_addStatistic d (by omega) gx gs q _ _ _ _ _ q29) ?_
                 cases b30 : pm_inb ((2744 + (7 * r4)) + 2) 18186 with
                 | false => rw [b30] at H; cases H
                 | true =>
                  rw [b30] at H
                  dsimp only at H
                  by_cases h31 : ((s.2.2.1 3 (Int32.toNatClampNeg 0)) - r7) ≤ (s28.2.2.1 3 (Int32.toNatClampNeg ((2744 + (7 * r4)) + 2)))
                  · rw [if_pos h31] at H
                    injection H with H
                    subst H
                    refine pm_Wg.path (k := 22) (ds := [1]) (f' := (134, [some (.ref 64), some (.int a0), some (.int r4), some (.int ((s.2.2.1 3 (Int32.toNatClampNeg 0)) - r7)), some (.int r9), some (.int ((2744 + (7 * r4)) + 2))], [], mo_h gx (mo_a s28 3 ((2744 + (7 * r4)) + 2) (s28.2.2.1 3 (Int32.toNatClampNeg ((2744 + (7 * r4)) + 2)))) gs q)) tk_X9_checkRequest (by omega) rfl ⟨pm_inb_vp b30, pm_inb_vp b30, h31, pm_inb_vp b30, trivial⟩ ?_
                    exact pm_Wg.vret (pm_dec tk_X9_checkRequest rfl) rfl
                  · rw [if_neg h31] at H
                    injection H with H
                    subst H
                    refine pm_Wg.path (k := 20) (ds := [0]) (f' := (134, [some (.ref 64), some (.int a0), some (.int r4), some (.int ((s.2.2.1 3 (Int32.toNatClampNeg 0)) - r7)), some (.int r9), some (.int ((2744 + (7 * r4)) + 2))], [], mo_h gx (mo_a s28 3 ((2744 + (7 * r4)) + 2) ((s.2.2.1 3 (Int32.toNatClampNeg 0)) - r7)) gs q)) tk_X9_checkRequest (by omega) rfl ⟨pm_inb_vp b30, h31, pm_inb_vp b30, trivial⟩ ?_
                    exact pm_Wg.vret (pm_dec tk_X9_checkRequest rfl) rfl
              · rw [if_neg h20] at H
                cases q36 : f_X9_addStatistic s16 r4 3 1 with
                | none => rw [q36] at H; cases H
                | some s35 =>
                 rw [q36] at H
                 dsimp only at H
                 refine pm_Wg.path (k := 14) (ds := [0, 0]) (f' := (90, [some (.ref 64), some (.int a0), some (.int r4), some (.int ((s.2.2.1 3 (Int32.toNatClampNeg 0)) - r7)), some (.int r9), none], [.int 1, .int 3, .int r4, .ref 64], mo_h gx s16 gs q)) tk_X9_checkRequest (by omega) rfl ⟨h20, pm_inb_vp b6, h18, trivial⟩ ?_
                 refine pm_Wg.callV (m' := 214) (ix := 273) (rr := 296) (pl := 1772) (b := 64) (As := [.int r4, .int 3, .int 1]) (S := []) (by decide) rfl (pm_dec tk_X9_checkRequest rfl) rfl rfl (by decide) rfl rfl (by decide) (Nat.le_of_ble_eq_true rfl) rfl (e_X9_addStatistic d (by omega) gx gs q _ _ _ _ _ q36) ?_
                 cases b37 : pm_inb ((2744 + (7 * r4)) + 2) 18186 with
                 | false => rw [b37] at H; cases H
                 | true =>
                  rw [b37] at H
                  dsimp only at H
                  by_cases h38 : ((s.2.2.1 3 (Int32.toNatClampNeg 0)) - r7) ≤ (s35.2.2.1 3 (Int32.toNatClampNeg ((2744 + (7 * r4)) + 2)))
                  · rw [if_pos h38] at H
                    injection H with H
                    subst H
                    refine pm_Wg.path (k := 22) (ds := [1]) (f' := (134, [some (.ref 64), some (.int a0), some (.int r4), some (.int ((s.2.2.1 3 (Int32.toNatClampNeg 0)) - r7)), some (.int r9), some (.int ((2744 + (7 * r4)) + 2))], [], mo_h gx (mo_a s35 3 ((2744 + (7 * r4)) + 2) (s35.2.2.1 3 (Int32.toNatClampNeg ((2744 + (7 * r4)) + 2)))) gs q)) tk_X9_checkRequest (by omega) rfl ⟨pm_inb_vp b37, pm_inb_vp b37, h38, pm_inb_vp b37, trivial⟩ ?_
                    exact pm_Wg.vret (pm_dec tk_X9_checkRequest rfl) rfl
                  · rw [if_neg h38] at H
                    injection H with H
                    subst H
                    refine pm_Wg.path (k := 20) (ds := [0]) (f' := (134, [some (.ref 64), some (.int a0), some (.int r4), some (.int ((s.2.2.1 3 (Int32.toNatClampNeg 0)) - r7)), some (.int r9), some (.int ((2744 + (7 * r4)) + 2))], [], mo_h gx (mo_a s35 3 ((2744 + (7 * r4)) + 2) ((s.2.2.1 3 (Int32.toNatClampNeg 0)) - r7)) gs q)) tk_X9_checkRequest (by omega) rfl ⟨pm_inb_vp b37, h38, pm_inb_vp b37, trivial⟩ ?_
                    exact pm_Wg.vret (pm_dec tk_X9_checkRequest rfl) rfl
   · rw [if_neg h3] at H
     injection H with H
     subst H
     refine pm_Wg.path (k := 1) (ds := [0]) (f' := (9, [some (.ref 64), some (.int a0), none, none, none, none], [], mo_h gx s gs q)) tk_X9_checkRequest (by omega) rfl ⟨h3, trivial⟩ ?_
     exact pm_Wg.vret (pm_dec tk_X9_checkRequest rfl) rfl

def f_X9_isSurviving (s : mo_S) (a0 : Int32) : Option Int32 :=
  (match f_X9_disks s with
  | none => none
  | some r1 =>
   (if r1 ≤ a0 then
    some 0
   else
    (match pm_inb 1 18186 with
    | false => none
    | true =>
    (if a0 = (s.2.2.1 3 (Int32.toNatClampNeg 1)) then
     some 0
    else
     some 1))))
def tb_X9_isSurviving : List pm_I := [(0, .iload_n 1, 0, 0), (1, .aload_n 0, 0, 0), (2, .invokevirtual 55, 258, 0), (5, .if_icmp .ge 17, 22, 0), (8, .iload_n 1, 0, 0), (9, .aload_n 0, 0, 0), (10, .getfield 16, 162, 0), (13, .iconst 1, 3, 0), (14, .iaload, 0, 0), (15, .if_icmp .eq 7, 22, 0), (18, .iconst 1, 3, 0), (19, .goto 4, 23, 0), (22, .iconst 0, 2, 0), (23, .ireturn, 0, 0)]
theorem tk_X9_isSurviving : ∀ e ∈ tb_X9_isSurviving, pm_ck 216 e = true := List.all_eq_true.mp (by decide +kernel)
set_option maxRecDepth 20000 in
set_option maxHeartbeats 20000000 in
theorem e_X9_isSurviving (d : Nat) (hd : 2 ≤ d) (gx : List pm_E) (gs : List (List pm_E)) (q : Nat × Nat × Nat) (s : mo_S) (a0 : Int32) (r : Int32) (H : f_X9_isSurviving s a0 = some r) : pm_Mt 216 d [.ref 64, .int a0] (mo_h gx s gs q) (.inl (some (.int r))) (mo_h gx s gs q) := by
  refine pm_Mt.of (by decide) (by decide +kernel) rfl rfl ?_
  obtain ⟨d, rfl⟩ : ∃ d', d = d' + 1 := ⟨d - 1, by omega⟩
  unfold f_X9_isSurviving at H
  cases q2 : f_X9_disks s with
  | none => rw [q2] at H; cases H
  | some r1 =>
   rw [q2] at H
   dsimp only at H
   refine pm_Wg.path (k := 2) (ds := []) (f' := (2, [some (.ref 64), some (.int a0)], [.ref 64, .int a0], mo_h gx s gs q)) tk_X9_isSurviving (by omega) rfl trivial ?_
   refine pm_Wg.callV (m' := 150) (ix := 55) (rr := 258) (pl := 1618) (b := 64) (As := []) (S := [.int a0]) (by decide) rfl (pm_dec tk_X9_isSurviving rfl) rfl rfl (by decide) rfl rfl (by decide) (Nat.le_of_ble_eq_true rfl) rfl (e_X9_disks d (by omega) gx gs q _ _ q2) ?_
   by_cases h3 : r1 ≤ a0
   · rw [if_pos h3] at H
     have H1 := Option.some.inj H
     subst H1
     refine pm_Wg.path (k := 2) (ds := [1]) (f' := (23, [some (.ref 64), some (.int a0)], [.int 0], mo_h gx s gs q)) tk_X9_isSurviving (by omega) rfl ⟨h3, trivial⟩ ?_
     exact pm_Wg.iret (pm_dec tk_X9_isSurviving rfl) rfl rfl
   · rw [if_neg h3] at H
     cases b4 : pm_inb 1 18186 with
     | false => rw [b4] at H; cases H
     | true =>
      rw [b4] at H
      dsimp only at H
      by_cases h5 : a0 = (s.2.2.1 3 (Int32.toNatClampNeg 1))
      · rw [if_pos h5] at H
        have H1 := Option.some.inj H
        subst H1
        refine pm_Wg.path (k := 8) (ds := [0, 1]) (f' := (23, [some (.ref 64), some (.int a0)], [.int 0], mo_h gx s gs q)) tk_X9_isSurviving (by omega) rfl ⟨h5, pm_inb_vp b4, h3, trivial⟩ ?_
        exact pm_Wg.iret (pm_dec tk_X9_isSurviving rfl) rfl rfl
      · rw [if_neg h5] at H
        have H1 := Option.some.inj H
        subst H1
        refine pm_Wg.path (k := 9) (ds := [0, 0]) (f' := (23, [some (.ref 64), some (.int a0)], [.int 1], mo_h gx s gs q)) tk_X9_isSurviving (by omega) rfl ⟨h5, pm_inb_vp b4, h3, trivial⟩ ?_
        exact pm_Wg.iret (pm_dec tk_X9_isSurviving rfl) rfl rfl

def f_X9_isHeldOn (s : mo_S) (a0 : Int32) (a1 : Int32) : Option Int32 :=
  (match pm_inb ((296 + (64 * a0)) + a1) 18186 with
  | false => none
  | true =>
  (if (s.2.2.1 3 (Int32.toNatClampNeg ((296 + (64 * a0)) + a1))) = 1 then
   some 1
  else
   some 0))
def tb_X9_isHeldOn : List pm_I := [(0, .aload_n 0, 0, 0), (1, .getfield 16, 162, 0), (4, .sipush 296, 32, 0), (7, .bipush 64, 26, 0), (9, .iload_n 1, 0, 0), (10, .imul, 0, 0), (11, .iadd, 0, 0), (12, .iload_n 2, 0, 0), (13, .iadd, 0, 0), (14, .iaload, 0, 0), (15, .iconst 1, 3, 0), (16, .if_icmp .ne 7, 23, 0), (19, .iconst 1, 3, 0), (20, .goto 4, 24, 0), (23, .iconst 0, 2, 0), (24, .ireturn, 0, 0)]
theorem tk_X9_isHeldOn : ∀ e ∈ tb_X9_isHeldOn, pm_ck 217 e = true := List.all_eq_true.mp (by decide +kernel)
set_option maxRecDepth 20000 in
set_option maxHeartbeats 20000000 in
theorem e_X9_isHeldOn (d : Nat) (hd : 1 ≤ d) (gx : List pm_E) (gs : List (List pm_E)) (q : Nat × Nat × Nat) (s : mo_S) (a0 : Int32) (a1 : Int32) (r : Int32) (H : f_X9_isHeldOn s a0 a1 = some r) : pm_Mt 217 d [.ref 64, .int a0, .int a1] (mo_h gx s gs q) (.inl (some (.int r))) (mo_h gx s gs q) := by
  refine pm_Mt.of (by decide) (by decide +kernel) rfl rfl ?_
  unfold f_X9_isHeldOn at H
  cases b1 : pm_inb ((296 + (64 * a0)) + a1) 18186 with
  | false => rw [b1] at H; cases H
  | true =>
   rw [b1] at H
   dsimp only at H
   by_cases h2 : (s.2.2.1 3 (Int32.toNatClampNeg ((296 + (64 * a0)) + a1))) = 1
   · rw [if_pos h2] at H
     have H1 := Option.some.inj H
     subst H1
     refine pm_Wg.path (k := 14) (ds := [0]) (f' := (24, [some (.ref 64), some (.int a0), some (.int a1)], [.int 1], mo_h gx s gs q)) tk_X9_isHeldOn (by omega) rfl ⟨h2, pm_inb_vp b1, trivial⟩ ?_
     exact pm_Wg.iret (pm_dec tk_X9_isHeldOn rfl) rfl rfl
   · rw [if_neg h2] at H
     have H1 := Option.some.inj H
     subst H1
     refine pm_Wg.path (k := 13) (ds := [1]) (f' := (24, [some (.ref 64), some (.int a0), some (.int a1)], [.int 0], mo_h gx s gs q)) tk_X9_isHeldOn (by omega) rfl ⟨h2, pm_inb_vp b1, trivial⟩ ?_
     exact pm_Wg.iret (pm_dec tk_X9_isHeldOn rfl) rfl rfl

def f_X9_setHeld (s : mo_S) (a0 : Int32) (a1 : Int32) (a2 : Int32) : Option mo_S :=
  (match pm_inb ((296 + (64 * a0)) + a1) 18186 with
  | false => none
  | true =>
  some (mo_a s 3 ((296 + (64 * a0)) + a1) a2))
def tb_X9_setHeld : List pm_I := [(0, .aload_n 0, 0, 0), (1, .getfield 16, 162, 0), (4, .sipush 296, 32, 0), (7, .bipush 64, 26, 0), (9, .iload_n 1, 0, 0), (10, .imul, 0, 0), (11, .iadd, 0, 0), (12, .iload_n 2, 0, 0), (13, .iadd, 0, 0), (14, .iload_n 3, 0, 0), (15, .iastore, 0, 0), (16, .return_, 0, 0)]
theorem tk_X9_setHeld : ∀ e ∈ tb_X9_setHeld, pm_ck 218 e = true := List.all_eq_true.mp (by decide +kernel)
set_option maxRecDepth 20000 in
set_option maxHeartbeats 20000000 in
theorem e_X9_setHeld (d : Nat) (hd : 1 ≤ d) (gx : List pm_E) (gs : List (List pm_E)) (q : Nat × Nat × Nat) (s : mo_S) (a0 : Int32) (a1 : Int32) (a2 : Int32) (s1 : mo_S) (H : f_X9_setHeld s a0 a1 a2 = some s1) : pm_Mt 218 d [.ref 64, .int a0, .int a1, .int a2] (mo_h gx s gs q) (.inl (none)) (mo_h gx s1 gs q) := by
  refine pm_Mt.of (by decide) (by decide +kernel) rfl rfl ?_
  unfold f_X9_setHeld at H
  cases b1 : pm_inb ((296 + (64 * a0)) + a1) 18186 with
  | false => rw [b1] at H; cases H
  | true =>
   rw [b1] at H
   dsimp only at H
   injection H with H
   subst H
   refine pm_Wg.path (k := 11) (ds := []) (f' := (16, [some (.ref 64), some (.int a0), some (.int a1), some (.int a2)], [], mo_h gx (mo_a s 3 ((296 + (64 * a0)) + a1) a2) gs q)) tk_X9_setHeld (by omega) rfl ⟨pm_inb_vp b1, trivial⟩ ?_
   exact pm_Wg.vret (pm_dec tk_X9_setHeld rfl) rfl

def f_X9_stateOf (s : mo_S) (a0 : Int32) : Option Int32 :=
  (match pm_inb (680 + a0) 18186 with
  | false => none
  | true =>
  some (s.2.2.1 3 (Int32.toNatClampNeg (680 + a0))))
def tb_X9_stateOf : List pm_I := [(0, .aload_n 0, 0, 0), (1, .getfield 16, 162, 0), (4, .sipush 680, 36, 0), (7, .iload_n 1, 0, 0), (8, .iadd, 0, 0), (9, .iaload, 0, 0), (10, .ireturn, 0, 0)]
theorem tk_X9_stateOf : ∀ e ∈ tb_X9_stateOf, pm_ck 219 e = true := List.all_eq_true.mp (by decide +kernel)
set_option maxRecDepth 20000 in
set_option maxHeartbeats 20000000 in
theorem e_X9_stateOf (d : Nat) (hd : 1 ≤ d) (gx : List pm_E) (gs : List (List pm_E)) (q : Nat × Nat × Nat) (s : mo_S) (a0 : Int32) (r : Int32) (H : f_X9_stateOf s a0 = some r) : pm_Mt 219 d [.ref 64, .int a0] (mo_h gx s gs q) (.inl (some (.int r))) (mo_h gx s gs q) := by
  refine pm_Mt.of (by decide) (by decide +kernel) rfl rfl ?_
  unfold f_X9_stateOf at H
  cases b1 : pm_inb (680 + a0) 18186 with
  | false => rw [b1] at H; cases H
  | true =>
   rw [b1] at H
   dsimp only at H
   have H1 := Option.some.inj H
   subst H1
   refine pm_Wg.path (k := 6) (ds := []) (f' := (10, [some (.ref 64), some (.int a0)], [.int (s.2.2.1 3 (Int32.toNatClampNeg (680 + a0)))], mo_h gx s gs q)) tk_X9_stateOf (by omega) rfl ⟨pm_inb_vp b1, trivial⟩ ?_
   exact pm_Wg.iret (pm_dec tk_X9_stateOf rfl) rfl rfl

def f_X9_isClient (s : mo_S) (a0 : Int32) : Option Int32 :=
  (if a0 ≤ 0 then
   some 0
  else
   (match f_X9_isTenant s a0 with
   | none => none
   | some r2 =>
    (if r2 = 0 then
     some 0
    else
     some 1)))
def tb_X9_isClient : List pm_I := [(0, .iload_n 1, 0, 0), (1, .ifCond .le 15, 16, 0), (4, .aload_n 0, 0, 0), (5, .iload_n 1, 0, 0), (6, .invokevirtual 218, 271, 0), (9, .ifCond .eq 7, 16, 0), (12, .iconst 1, 3, 0), (13, .goto 4, 17, 0), (16, .iconst 0, 2, 0), (17, .ireturn, 0, 0)]
theorem tk_X9_isClient : ∀ e ∈ tb_X9_isClient, pm_ck 224 e = true := List.all_eq_true.mp (by decide +kernel)
set_option maxRecDepth 20000 in
set_option maxHeartbeats 20000000 in
theorem e_X9_isClient (d : Nat) (hd : 3 ≤ d) (gx : List pm_E) (gs : List (List pm_E)) (q : Nat × Nat × Nat) (s : mo_S) (a0 : Int32) (r : Int32) (H : f_X9_isClient s a0 = some r) : pm_Mt 224 d [.ref 64, .int a0] (mo_h gx s gs q) (.inl (some (.int r))) (mo_h gx s gs q) := by
  refine pm_Mt.of (by decide) (by decide +kernel) rfl rfl ?_
  obtain ⟨d, rfl⟩ : ∃ d', d = d' + 1 := ⟨d - 1, by omega⟩
  unfold f_X9_isClient at H
  by_cases h1 : a0 ≤ 0
  · rw [if_pos h1] at H
    have H1 := Option.some.inj H
    subst H1
    refine pm_Wg.path (k := 3) (ds := [1]) (f' := (17, [some (.ref 64), some (.int a0)], [.int 0], mo_h gx s gs q)) tk_X9_isClient (by omega) rfl ⟨h1, trivial⟩ ?_
    exact pm_Wg.iret (pm_dec tk_X9_isClient rfl) rfl rfl
  · rw [if_neg h1] at H
    cases q3 : f_X9_isTenant s a0 with
    | none => rw [q3] at H; cases H
    | some r2 =>
     rw [q3] at H
     dsimp only at H
     refine pm_Wg.path (k := 4) (ds := [0]) (f' := (6, [some (.ref 64), some (.int a0)], [.int a0, .ref 64], mo_h gx s gs q)) tk_X9_isClient (by omega) rfl ⟨h1, trivial⟩ ?_
     refine pm_Wg.callV (m' := 153) (ix := 218) (rr := 271) (pl := 1671) (b := 64) (As := [.int a0]) (S := []) (by decide) rfl (pm_dec tk_X9_isClient rfl) rfl rfl (by decide) rfl rfl (by decide) (Nat.le_of_ble_eq_true rfl) rfl (e_X9_isTenant d (by omega) gx gs q _ _ _ q3) ?_
     by_cases h4 : r2 = 0
     · rw [if_pos h4] at H
       have H1 := Option.some.inj H
       subst H1
       refine pm_Wg.path (k := 2) (ds := [1]) (f' := (17, [some (.ref 64), some (.int a0)], [.int 0], mo_h gx s gs q)) tk_X9_isClient (by omega) rfl ⟨h4, trivial⟩ ?_
       exact pm_Wg.iret (pm_dec tk_X9_isClient rfl) rfl rfl
     · rw [if_neg h4] at H
       have H1 := Option.some.inj H
       subst H1
       refine pm_Wg.path (k := 3) (ds := [0]) (f' := (17, [some (.ref 64), some (.int a0)], [.int 1], mo_h gx s gs q)) tk_X9_isClient (by omega) rfl ⟨h4, trivial⟩ ?_
       exact pm_Wg.iret (pm_dec tk_X9_isClient rfl) rfl rfl

def f_X9_deadlineOf (s : mo_S) (a0 : Int32) : Option Int32 :=
  (match pm_inb 10 18186 with
  | false => none
  | true =>
  (if (s.2.2.1 3 (Int32.toNatClampNeg 10)) = (-1) then
   some (-1)
  else
   (match pm_inb 9 18186 with
   | false => none
   | true =>
   (match pm_inb 1 26 with
   | false => none
   | true =>
   (if (s.2.2.1 0 (Int32.toNatClampNeg 1)) = 0 then none else
   some ((s.2.2.1 3 (Int32.toNatClampNeg 9)) + ((((s.2.2.1 3 (Int32.toNatClampNeg 10)) - (s.2.2.1 3 (Int32.toNatClampNeg 9))) * (a0 + 1)) / (s.2.2.1 0 (Int32.toNatClampNeg 1)))))))))
def tb_X9_deadlineOf : List pm_I := [(0, .aload_n 0, 0, 0), (1, .getfield 16, 162, 0), (4, .bipush 10, 12, 0), (6, .iaload, 0, 0), (7, .iconst (-1), 1, 0), (8, .if_icmp .ne 5, 13, 0), (11, .iconst (-1), 1, 0), (12, .ireturn, 0, 0), (13, .aload_n 0, 0, 0), (14, .getfield 16, 162, 0), (17, .bipush 9, 11, 0), (19, .iaload, 0, 0), (20, .aload_n 0, 0, 0), (21, .getfield 16, 162, 0), (24, .bipush 10, 12, 0), (26, .iaload, 0, 0), (27, .aload_n 0, 0, 0), (28, .getfield 16, 162, 0), (31, .bipush 9, 11, 0), (33, .iaload, 0, 0), (34, .isub, 0, 0), (35, .iload_n 1, 0, 0), (36, .iconst 1, 3, 0), (37, .iadd, 0, 0), (38, .imul, 0, 0), (39, .aload_n 0, 0, 0), (40, .getfield 7, 159, 0), (43, .iconst 1, 3, 0), (44, .iaload, 0, 0), (45, .idiv, 0, 0), (46, .iadd, 0, 0), (47, .ireturn, 0, 0)]
theorem tk_X9_deadlineOf : ∀ e ∈ tb_X9_deadlineOf, pm_ck 226 e = true := List.all_eq_true.mp (by decide +kernel)
set_option maxRecDepth 20000 in
set_option maxHeartbeats 20000000 in
theorem e_X9_deadlineOf (d : Nat) (hd : 1 ≤ d) (gx : List pm_E) (gs : List (List pm_E)) (q : Nat × Nat × Nat) (s : mo_S) (a0 : Int32) (r : Int32) (H : f_X9_deadlineOf s a0 = some r) : pm_Mt 226 d [.ref 64, .int a0] (mo_h gx s gs q) (.inl (some (.int r))) (mo_h gx s gs q) := by
  refine pm_Mt.of (by decide) (by decide +kernel) rfl rfl ?_
  unfold f_X9_deadlineOf at H
  cases b1 : pm_inb 10 18186 with
  | false => rw [b1] at H; cases H
  | true =>
   rw [b1] at H
   dsimp only at H
   by_cases h2 : (s.2.2.1 3 (Int32.toNatClampNeg 10)) = (-1)
   · rw [if_pos h2] at H
     have H1 := Option.some.inj H
     subst H1
     refine pm_Wg.path (k := 7) (ds := [0]) (f' := (12, [some (.ref 64), some (.int a0)], [.int (-1)], mo_h gx s gs q)) tk_X9_deadlineOf (by omega) rfl ⟨h2, pm_inb_vp b1, trivial⟩ ?_
     exact pm_Wg.iret (pm_dec tk_X9_deadlineOf rfl) rfl rfl
   · rw [if_neg h2] at H
     cases b3 : pm_inb 9 18186 with
     | false => rw [b3] at H; cases H
     | true =>
      rw [b3] at H
      dsimp only at H
      cases b6 : pm_inb 1 26 with
      | false => rw [b6] at H; cases H
      | true =>
       rw [b6] at H
       dsimp only at H
       by_cases b7 : (s.2.2.1 0 (Int32.toNatClampNeg 1)) = 0
       · rw [if_pos b7] at H; cases H
       rw [if_neg b7] at H
       have H1 := Option.some.inj H
       subst H1
       refine pm_Wg.path (k := 29) (ds := [1]) (f' := (47, [some (.ref 64), some (.int a0)], [.int ((s.2.2.1 3 (Int32.toNatClampNeg 9)) + ((((s.2.2.1 3 (Int32.toNatClampNeg 10)) - (s.2.2.1 3 (Int32.toNatClampNeg 9))) * (a0 + 1)) / (s.2.2.1 0 (Int32.toNatClampNeg 1))))], mo_h gx s gs q)) tk_X9_deadlineOf (by omega) rfl ⟨b7, pm_inb_vp b6, pm_inb_vp b3, pm_inb_vp b1, pm_inb_vp b3, h2, pm_inb_vp b1, trivial⟩ ?_
       exact pm_Wg.iret (pm_dec tk_X9_deadlineOf rfl) rfl rfl

def f_X9_isPromoted (s : mo_S) (a0 : Int32) : Option Int32 :=
  (match f_X9_of s a0 3 with
  | none => none
  | some r1 =>
   (if r1 = (-1) then
    some 0
   else
    (match pm_inb 0 18186 with
    | false => none
    | true =>
    (match pm_inb 7 26 with
    | false => none
    | true =>
    (if ((s.2.2.1 3 (Int32.toNatClampNeg 0)) + (s.2.2.1 0 (Int32.toNatClampNeg 7))) < r1 then
     some 0
    else
     some 1)))))
def tb_X9_isPromoted : List pm_I := [(0, .aload_n 0, 0, 0), (1, .iload_n 1, 0, 0), (2, .iconst 3, 5, 0), (3, .invokevirtual 254, 285, 0), (6, .iconst (-1), 1, 0), (7, .if_icmp .eq 30, 37, 0), (10, .aload_n 0, 0, 0), (11, .iload_n 1, 0, 0), (12, .iconst 3, 5, 0), (13, .invokevirtual 254, 285, 0), (16, .aload_n 0, 0, 0), (17, .getfield 16, 162, 0), (20, .iconst 0, 2, 0), (21, .iaload, 0, 0), (22, .aload_n 0, 0, 0), (23, .getfield 7, 159, 0), (26, .bipush 7, 9, 0), (28, .iaload, 0, 0), (29, .iadd, 0, 0), (30, .if_icmp .gt 7, 37, 0), (33, .iconst 1, 3, 0), (34, .goto 4, 38, 0), (37, .iconst 0, 2, 0), (38, .ireturn, 0, 0)]
theorem tk_X9_isPromoted : ∀ e ∈ tb_X9_isPromoted, pm_ck 242 e = true := List.all_eq_true.mp (by decide +kernel)
set_option maxRecDepth 20000 in
set_option maxHeartbeats 20000000 in
theorem e_X9_isPromoted (d : Nat) (hd : 2 ≤ d) (gx : List pm_E) (gs : List (List pm_E)) (q : Nat × Nat × Nat) (s : mo_S) (a0 : Int32) (r : Int32) (H : f_X9_isPromoted s a0 = some r) : pm_Mt 242 d [.ref 64, .int a0] (mo_h gx s gs q) (.inl (some (.int r))) (mo_h gx s gs q) := by
  refine pm_Mt.of (by decide) (by decide +kernel) rfl rfl ?_
  obtain ⟨d, rfl⟩ : ∃ d', d = d' + 1 := ⟨d - 1, by omega⟩
  unfold f_X9_isPromoted at H
  cases q2 : f_X9_of s a0 3 with
  | none => rw [q2] at H; cases H
  | some r1 =>
   rw [q2] at H
   dsimp only at H
   refine pm_Wg.path (k := 3) (ds := []) (f' := (3, [some (.ref 64), some (.int a0)], [.int 3, .int a0, .ref 64], mo_h gx s gs q)) tk_X9_isPromoted (by omega) rfl trivial ?_
   refine pm_Wg.callV (m' := 200) (ix := 254) (rr := 285) (pl := 1726) (b := 64) (As := [.int a0, .int 3]) (S := []) (by decide) rfl (pm_dec tk_X9_isPromoted rfl) rfl rfl (by decide) rfl rfl (by decide) (Nat.le_of_ble_eq_true rfl) rfl (e_X9_of d (by omega) gx gs q _ _ _ _ q2) ?_
   by_cases h3 : r1 = (-1)
   · rw [if_pos h3] at H
     have H1 := Option.some.inj H
     subst H1
     refine pm_Wg.path (k := 3) (ds := [1]) (f' := (38, [some (.ref 64), some (.int a0)], [.int 0], mo_h gx s gs q)) tk_X9_isPromoted (by omega) rfl ⟨h3, trivial⟩ ?_
     exact pm_Wg.iret (pm_dec tk_X9_isPromoted rfl) rfl rfl
   · rw [if_neg h3] at H
     refine pm_Wg.path (k := 5) (ds := [0]) (f' := (13, [some (.ref 64), some (.int a0)], [.int 3, .int a0, .ref 64], mo_h gx s gs q)) tk_X9_isPromoted (by omega) rfl ⟨h3, trivial⟩ ?_
     refine pm_Wg.callV (m' := 200) (ix := 254) (rr := 285) (pl := 1726) (b := 64) (As := [.int a0, .int 3]) (S := []) (by decide) rfl (pm_dec tk_X9_isPromoted rfl) rfl rfl (by decide) rfl rfl (by decide) (Nat.le_of_ble_eq_true rfl) rfl (e_X9_of d (by omega) gx gs q _ _ _ _ q2) ?_
     cases b6 : pm_inb 0 18186 with
     | false => rw [b6] at H; cases H
     | true =>
      rw [b6] at H
      dsimp only at H
      cases b7 : pm_inb 7 26 with
      | false => rw [b7] at H; cases H
      | true =>
       rw [b7] at H
       dsimp only at H
       by_cases h8 : ((s.2.2.1 3 (Int32.toNatClampNeg 0)) + (s.2.2.1 0 (Int32.toNatClampNeg 7))) < r1
       · rw [if_pos h8] at H
         have H1 := Option.some.inj H
         subst H1
         refine pm_Wg.path (k := 11) (ds := [1]) (f' := (38, [some (.ref 64), some (.int a0)], [.int 0], mo_h gx s gs q)) tk_X9_isPromoted (by omega) rfl ⟨h8, pm_inb_vp b7, pm_inb_vp b6, trivial⟩ ?_
         exact pm_Wg.iret (pm_dec tk_X9_isPromoted rfl) rfl rfl
       · rw [if_neg h8] at H
         have H1 := Option.some.inj H
         subst H1
         refine pm_Wg.path (k := 12) (ds := [0]) (f' := (38, [some (.ref 64), some (.int a0)], [.int 1], mo_h gx s gs q)) tk_X9_isPromoted (by omega) rfl ⟨h8, pm_inb_vp b7, pm_inb_vp b6, trivial⟩ ?_
         exact pm_Wg.iret (pm_dec tk_X9_isPromoted rfl) rfl rfl

def f_X9_canChoose (s : mo_S) (a0 : Int32) (a1 : Int32) : Option Int32 :=
  (if a1 = 0 then
   (match f_X9_isPromoted s a0 with
   | none => none
   | some r3 =>
    (if r3 &&& 1 = r3 then some r3 else none))
  else
   (if a1 = 1 then
    (match f_X9_of s a0 6 with
    | none => none
    | some r6 =>
     (if r6 = 1 then
      (match f_X9_tagOf s a0 0 with
      | none => none
      | some r9 =>
       (match f_X9_stamp s with
       | none => none
       | some r11 =>
        (if 0 < (lg_cmp r9 r11) then
         some 0
        else
         some 1)))
     else
      some 0))
   else
    (match f_X9_tagOf s a0 2 with
    | none => none
    | some r14 =>
     (match f_X9_stamp s with
     | none => none
     | some r16 =>
      (if 0 < (lg_cmp r14 r16) then
       some 0
      else
       some 1)))))
def tb_X9_canChoose : List pm_I := [(0, .iload_n 2, 0, 0), (1, .ifCond .ne 9, 10, 0), (4, .aload_n 0, 0, 0), (5, .iload_n 1, 0, 0), (6, .invokevirtual 365, 326, 0), (9, .ireturn, 0, 0), (10, .iload_n 2, 0, 0), (11, .iconst 1, 3, 0), (12, .if_icmp .ne 36, 48, 0), (15, .aload_n 0, 0, 0), (16, .iload_n 1, 0, 0), (17, .bipush 6, 8, 0), (19, .invokevirtual 254, 285, 0), (22, .iconst 1, 3, 0), (23, .if_icmp .ne 21, 44, 0), (26, .aload_n 0, 0, 0), (27, .iload_n 1, 0, 0), (28, .iconst 0, 2, 0), (29, .invokevirtual 368, 327, 0), (32, .aload_n 0, 0, 0), (33, .invokevirtual 236, 291, 0), (36, .lcmp, 0, 0), (37, .ifCond .gt 7, 44, 0), (40, .iconst 1, 3, 0), (41, .goto 26, 67, 0), (44, .iconst 0, 2, 0), (45, .goto 22, 67, 0), (48, .aload_n 0, 0, 0), (49, .iload_n 1, 0, 0), (50, .iconst 2, 4, 0), (51, .invokevirtual 368, 327, 0), (54, .aload_n 0, 0, 0), (55, .invokevirtual 236, 291, 0), (58, .lcmp, 0, 0), (59, .ifCond .gt 7, 66, 0), (62, .iconst 1, 3, 0), (63, .goto 4, 67, 0), (66, .iconst 0, 2, 0), (67, .ireturn, 0, 0)]
theorem tk_X9_canChoose : ∀ e ∈ tb_X9_canChoose, pm_ck 243 e = true := List.all_eq_true.mp (by decide +kernel)
set_option maxRecDepth 20000 in
set_option maxHeartbeats 20000000 in
theorem e_X9_canChoose (d : Nat) (hd : 3 ≤ d) (gx : List pm_E) (gs : List (List pm_E)) (q : Nat × Nat × Nat) (s : mo_S) (a0 : Int32) (a1 : Int32) (r : Int32) (H : f_X9_canChoose s a0 a1 = some r) : pm_Mt 243 d [.ref 64, .int a0, .int a1] (mo_h gx s gs q) (.inl (some (.int r))) (mo_h gx s gs q) := by
  refine pm_Mt.of (by decide) (by decide +kernel) rfl rfl ?_
  obtain ⟨d, rfl⟩ : ∃ d', d = d' + 1 := ⟨d - 1, by omega⟩
  unfold f_X9_canChoose at H
  by_cases h1 : a1 = 0
  · rw [if_pos h1] at H
    cases q4 : f_X9_isPromoted s a0 with
    | none => rw [q4] at H; cases H
    | some r3 =>
     rw [q4] at H
     dsimp only at H
     refine pm_Wg.path (k := 4) (ds := [0]) (f' := (6, [some (.ref 64), some (.int a0), some (.int a1)], [.int a0, .ref 64], mo_h gx s gs q)) tk_X9_canChoose (by omega) rfl ⟨h1, trivial⟩ ?_
     refine pm_Wg.callV (m' := 242) (ix := 365) (rr := 326) (pl := 1892) (b := 64) (As := [.int a0]) (S := []) (by decide) rfl (pm_dec tk_X9_canChoose rfl) rfl rfl (by decide) rfl rfl (by decide) (Nat.le_of_ble_eq_true rfl) rfl (e_X9_isPromoted d (by omega) gx gs q _ _ _ q4) ?_
     by_cases z5 : r3 &&& 1 = r3
     case neg => rw [if_neg z5] at H; cases H
     rw [if_pos z5] at H
     have H1 := Option.some.inj H
     subst H1
     exact pm_Wg.iret (pm_dec tk_X9_canChoose rfl) rfl (pm_nb1 z5)
  · rw [if_neg h1] at H
    by_cases h2 : a1 = 1
    · rw [if_pos h2] at H
      cases q7 : f_X9_of s a0 6 with
      | none => rw [q7] at H; cases H
      | some r6 =>
       rw [q7] at H
       dsimp only at H
       refine pm_Wg.path (k := 8) (ds := [1, 0]) (f' := (19, [some (.ref 64), some (.int a0), some (.int a1)], [.int 6, .int a0, .ref 64], mo_h gx s gs q)) tk_X9_canChoose (by omega) rfl ⟨h2, h1, trivial⟩ ?_
       refine pm_Wg.callV (m' := 200) (ix := 254) (rr := 285) (pl := 1726) (b := 64) (As := [.int a0, .int 6]) (S := []) (by decide) rfl (pm_dec tk_X9_canChoose rfl) rfl rfl (by decide) rfl rfl (by decide) (Nat.le_of_ble_eq_true rfl) rfl (e_X9_of d (by omega) gx gs q _ _ _ _ q7) ?_
       by_cases h8 : r6 = 1
       · rw [if_pos h8] at H
         cases q10 : f_X9_tagOf s a0 0 with
         | none => rw [q10] at H; cases H
         | some r9 =>
          rw [q10] at H
          dsimp only at H
          refine pm_Wg.path (k := 5) (ds := [0]) (f' := (29, [some (.ref 64), some (.int a0), some (.int a1)], [.int 0, .int a0, .ref 64], mo_h gx s gs q)) tk_X9_canChoose (by omega) rfl ⟨h8, trivial⟩ ?_
          refine pm_Wg.callV (m' := 202) (ix := 368) (rr := 327) (pl := 1896) (b := 64) (As := [.int a0, .int 0]) (S := []) (by decide) rfl (pm_dec tk_X9_canChoose rfl) rfl rfl (by decide) rfl rfl (by decide) (Nat.le_of_ble_eq_true rfl) rfl (e_X9_tagOf d (by omega) gx gs q _ _ _ _ q10) ?_
          cases q12 : f_X9_stamp s with
          | none => rw [q12] at H; cases H
          | some r11 =>
           rw [q12] at H
           dsimp only at H
           refine pm_Wg.path (k := 1) (ds := []) (f' := (33, [some (.ref 64), some (.int a0), some (.int a1)], [.ref 64, .long r9], mo_h gx s gs q)) tk_X9_canChoose (by omega) rfl trivial ?_
           refine pm_Wg.callV (m' := 203) (ix := 236) (rr := 291) (pl := 1751) (b := 64) (As := []) (S := [.long r9]) (by decide) rfl (pm_dec tk_X9_canChoose rfl) rfl rfl (by decide) rfl rfl (by decide) (Nat.le_of_ble_eq_true rfl) rfl (e_X9_stamp d (by omega) gx gs q _ _ q12) ?_
           by_cases h13 : 0 < (lg_cmp r9 r11)
           · rw [if_pos h13] at H
             have H1 := Option.some.inj H
             subst H1
             refine pm_Wg.path (k := 4) (ds := [1]) (f' := (67, [some (.ref 64), some (.int a0), some (.int a1)], [.int 0], mo_h gx s gs q)) tk_X9_canChoose (by omega) rfl ⟨h13, trivial⟩ ?_
             exact pm_Wg.iret (pm_dec tk_X9_canChoose rfl) rfl rfl
           · rw [if_neg h13] at H
             have H1 := Option.some.inj H
             subst H1
             refine pm_Wg.path (k := 4) (ds := [0]) (f' := (67, [some (.ref 64), some (.int a0), some (.int a1)], [.int 1], mo_h gx s gs q)) tk_X9_canChoose (by omega) rfl ⟨h13, trivial⟩ ?_
             exact pm_Wg.iret (pm_dec tk_X9_canChoose rfl) rfl rfl
       · rw [if_neg h8] at H
         have H1 := Option.some.inj H
         subst H1
         refine pm_Wg.path (k := 4) (ds := [1]) (f' := (67, [some (.ref 64), some (.int a0), some (.int a1)], [.int 0], mo_h gx s gs q)) tk_X9_canChoose (by omega) rfl ⟨h8, trivial⟩ ?_
         exact pm_Wg.iret (pm_dec tk_X9_canChoose rfl) rfl rfl
    · rw [if_neg h2] at H
      cases q15 : f_X9_tagOf s a0 2 with
      | none => rw [q15] at H; cases H
      | some r14 =>
       rw [q15] at H
       dsimp only at H
       refine pm_Wg.path (k := 8) (ds := [1, 1]) (f' := (51, [some (.ref 64), some (.int a0), some (.int a1)], [.int 2, .int a0, .ref 64], mo_h gx s gs q)) tk_X9_canChoose (by omega) rfl ⟨h2, h1, trivial⟩ ?_
       refine pm_Wg.callV (m' := 202) (ix := 368) (rr := 327) (pl := 1896) (b := 64) (As := [.int a0, .int 2]) (S := []) (by decide) rfl (pm_dec tk_X9_canChoose rfl) rfl rfl (by decide) rfl rfl (by decide) (Nat.le_of_ble_eq_true rfl) rfl (e_X9_tagOf d (by omega) gx gs q _ _ _ _ q15) ?_
       cases q17 : f_X9_stamp s with
       | none => rw [q17] at H; cases H
       | some r16 =>
        rw [q17] at H
        dsimp only at H
        refine pm_Wg.path (k := 1) (ds := []) (f' := (55, [some (.ref 64), some (.int a0), some (.int a1)], [.ref 64, .long r14], mo_h gx s gs q)) tk_X9_canChoose (by omega) rfl trivial ?_
        refine pm_Wg.callV (m' := 203) (ix := 236) (rr := 291) (pl := 1751) (b := 64) (As := []) (S := [.long r14]) (by decide) rfl (pm_dec tk_X9_canChoose rfl) rfl rfl (by decide) rfl rfl (by decide) (Nat.le_of_ble_eq_true rfl) rfl (e_X9_stamp d (by omega) gx gs q _ _ q17) ?_
        by_cases h18 : 0 < (lg_cmp r14 r16)
        · rw [if_pos h18] at H
          have H1 := Option.some.inj H
          subst H1
          refine pm_Wg.path (k := 3) (ds := [1]) (f' := (67, [some (.ref 64), some (.int a0), some (.int a1)], [.int 0], mo_h gx s gs q)) tk_X9_canChoose (by omega) rfl ⟨h18, trivial⟩ ?_
          exact pm_Wg.iret (pm_dec tk_X9_canChoose rfl) rfl rfl
        · rw [if_neg h18] at H
          have H1 := Option.some.inj H
          subst H1
          refine pm_Wg.path (k := 4) (ds := [0]) (f' := (67, [some (.ref 64), some (.int a0), some (.int a1)], [.int 1], mo_h gx s gs q)) tk_X9_canChoose (by omega) rfl ⟨h18, trivial⟩ ?_
          exact pm_Wg.iret (pm_dec tk_X9_canChoose rfl) rfl rfl

def f_X9_rank (s : mo_S) (a0 : Int32) (a1 : Int32) : Option Int64 :=
  (if a1 = 0 then
   (match f_X9_of s a0 3 with
   | none => none
   | some r3 =>
    some (Int32.toInt64 r3))
  else
   (if a1 = 1 then
    (match f_X9_tagOf s a0 0 with
    | none => none
    | some r5 =>
     some r5)
   else
    (match f_X9_tagOf s a0 1 with
    | none => none
    | some r7 =>
     some r7)))
def tb_X9_rank : List pm_I := [(0, .iload_n 2, 0, 0), (1, .ifCond .ne 13, 14, 0), (4, .aload_n 0, 0, 0), (5, .iload_n 1, 0, 0), (6, .iconst 3, 5, 0), (7, .invokevirtual 254, 285, 0), (10, .i2l, 0, 0), (11, .goto 18, 29, 0), (14, .aload_n 0, 0, 0), (15, .iload_n 1, 0, 0), (16, .iload_n 2, 0, 0), (17, .iconst 1, 3, 0), (18, .if_icmp .ne 7, 25, 0), (21, .iconst 0, 2, 0), (22, .goto 4, 26, 0), (25, .iconst 1, 3, 0), (26, .invokevirtual 368, 327, 0), (29, .lreturn, 0, 0)]
theorem tk_X9_rank : ∀ e ∈ tb_X9_rank, pm_ck 244 e = true := List.all_eq_true.mp (by decide +kernel)
set_option maxRecDepth 20000 in
set_option maxHeartbeats 20000000 in
theorem e_X9_rank (d : Nat) (hd : 2 ≤ d) (gx : List pm_E) (gs : List (List pm_E)) (q : Nat × Nat × Nat) (s : mo_S) (a0 : Int32) (a1 : Int32) (r : Int64) (H : f_X9_rank s a0 a1 = some r) : pm_Mt 244 d [.ref 64, .int a0, .int a1] (mo_h gx s gs q) (.inl (some (.long r))) (mo_h gx s gs q) := by
  refine pm_Mt.of (by decide) (by decide +kernel) rfl rfl ?_
  obtain ⟨d, rfl⟩ : ∃ d', d = d' + 1 := ⟨d - 1, by omega⟩
  unfold f_X9_rank at H
  by_cases h1 : a1 = 0
  · rw [if_pos h1] at H
    cases q4 : f_X9_of s a0 3 with
    | none => rw [q4] at H; cases H
    | some r3 =>
     rw [q4] at H
     dsimp only at H
     refine pm_Wg.path (k := 5) (ds := [0]) (f' := (7, [some (.ref 64), some (.int a0), some (.int a1)], [.int 3, .int a0, .ref 64], mo_h gx s gs q)) tk_X9_rank (by omega) rfl ⟨h1, trivial⟩ ?_
     refine pm_Wg.callV (m' := 200) (ix := 254) (rr := 285) (pl := 1726) (b := 64) (As := [.int a0, .int 3]) (S := []) (by decide) rfl (pm_dec tk_X9_rank rfl) rfl rfl (by decide) rfl rfl (by decide) (Nat.le_of_ble_eq_true rfl) rfl (e_X9_of d (by omega) gx gs q _ _ _ _ q4) ?_
     have H1 := Option.some.inj H
     subst H1
     refine pm_Wg.path (k := 2) (ds := []) (f' := (29, [some (.ref 64), some (.int a0), some (.int a1)], [.long (Int32.toInt64 r3)], mo_h gx s gs q)) tk_X9_rank (by omega) rfl trivial ?_
     exact pm_Wg.lret (pm_dec tk_X9_rank rfl) rfl
  · rw [if_neg h1] at H
    by_cases h2 : a1 = 1
    · rw [if_pos h2] at H
      cases q6 : f_X9_tagOf s a0 0 with
      | none => rw [q6] at H; cases H
      | some r5 =>
       rw [q6] at H
       dsimp only at H
       refine pm_Wg.path (k := 9) (ds := [1, 0]) (f' := (26, [some (.ref 64), some (.int a0), some (.int a1)], [.int 0, .int a0, .ref 64], mo_h gx s gs q)) tk_X9_rank (by omega) rfl ⟨h2, h1, trivial⟩ ?_
       refine pm_Wg.callV (m' := 202) (ix := 368) (rr := 327) (pl := 1896) (b := 64) (As := [.int a0, .int 0]) (S := []) (by decide) rfl (pm_dec tk_X9_rank rfl) rfl rfl (by decide) rfl rfl (by decide) (Nat.le_of_ble_eq_true rfl) rfl (e_X9_tagOf d (by omega) gx gs q _ _ _ _ q6) ?_
       have H1 := Option.some.inj H
       subst H1
       exact pm_Wg.lret (pm_dec tk_X9_rank rfl) rfl
    · rw [if_neg h2] at H
      cases q8 : f_X9_tagOf s a0 1 with
      | none => rw [q8] at H; cases H
      | some r7 =>
       rw [q8] at H
       dsimp only at H
       refine pm_Wg.path (k := 8) (ds := [1, 1]) (f' := (26, [some (.ref 64), some (.int a0), some (.int a1)], [.int 1, .int a0, .ref 64], mo_h gx s gs q)) tk_X9_rank (by omega) rfl ⟨h2, h1, trivial⟩ ?_
       refine pm_Wg.callV (m' := 202) (ix := 368) (rr := 327) (pl := 1896) (b := 64) (As := [.int a0, .int 1]) (S := []) (by decide) rfl (pm_dec tk_X9_rank rfl) rfl rfl (by decide) rfl rfl (by decide) (Nat.le_of_ble_eq_true rfl) rfl (e_X9_tagOf d (by omega) gx gs q _ _ _ _ q8) ?_
       have H1 := Option.some.inj H
       subst H1
       exact pm_Wg.lret (pm_dec tk_X9_rank rfl) rfl

def f_X9_promise (s : mo_S) (a0 : Int32) : Option (Int32 × mo_S) :=
  (if a0 = (-1) then
   (match f_X9_isArray (mo_i s 2 0) with
   | none => none
   | some r3 =>
    (if r3 = 0 then
     (match f_X9_refuse (mo_i s 2 0) 2 with
     | none => none
     | some (r8, s9) =>
      some (r8, s9))
    else
     (match pm_inb 10 18186 with
     | false => none
     | true =>
     (match pm_inb 0 18186 with
     | false => none
     | true =>
     ((fun s11 : mo_S =>
      (match pm_inb 9 18186 with
      | false => none
      | true =>
      ((fun s13 : mo_S =>
       some ((s11.2.2.1 3 (Int32.toNatClampNeg 10)), (mo_a s13 3 10 a0))) (mo_a s11 3 9 (s11.2.2.1 3 (Int32.toNatClampNeg 0)))))) (mo_i s 2 0))))))
  else
   (match pm_inb 0 18186 with
   | false => none
   | true =>
   (match f_X9_in (mo_i s 2 0) a0 (((mo_i s 2 0).2.2.1 3 (Int32.toNatClampNeg 0)) + 1) 99999 with
   | none => none
   | some r15 =>
    (if r15 = 0 then
     (match f_X9_refuse (mo_i s 2 0) 1 with
     | none => none
     | some (r18, s19) =>
      some (r18, s19))
    else
     (match f_X9_isArray (mo_i s 2 0) with
     | none => none
     | some r21 =>
      (if r21 = 0 then
       (match f_X9_refuse (mo_i s 2 0) 2 with
       | none => none
       | some (r26, s27) =>
        some (r26, s27))
      else
       (match pm_inb 10 18186 with
       | false => none
       | true =>
       ((fun s29 : mo_S =>
        (match pm_inb 9 18186 with
        | false => none
        | true =>
        ((fun s31 : mo_S =>
         some ((s29.2.2.1 3 (Int32.toNatClampNeg 10)), (mo_a s31 3 10 a0))) (mo_a s29 3 9 (s29.2.2.1 3 (Int32.toNatClampNeg 0)))))) (mo_i s 2 0)))))))))
def tb_X9_promise : List pm_I := [(0, .aload_n 0, 0, 0), (1, .iconst 0, 2, 0), (2, .putfield 45, 161, 0), (5, .iload_n 1, 0, 0), (6, .iconst (-1), 1, 0), (7, .if_icmp .eq 26, 33, 0), (10, .iload_n 1, 0, 0), (11, .aload_n 0, 0, 0), (12, .getfield 16, 162, 0), (15, .iconst 0, 2, 0), (16, .iaload, 0, 0), (17, .iconst 1, 3, 0), (18, .iadd, 0, 0), (19, .ldc 188, 7, 0), (21, .invokestatic 59, 233, 0), (24, .ifCond .ne 9, 33, 0), (27, .aload_n 0, 0, 0), (28, .iconst 1, 3, 0), (29, .invokevirtual 69, 227, 0), (32, .ireturn, 0, 0), (33, .aload_n 0, 0, 0), (34, .invokevirtual 51, 254, 0), (37, .ifCond .ne 9, 46, 0), (40, .aload_n 0, 0, 0), (41, .iconst 2, 4, 0), (42, .invokevirtual 69, 227, 0), (45, .ireturn, 0, 0), (46, .aload_n 0, 0, 0), (47, .getfield 16, 162, 0), (50, .bipush 10, 12, 0), (52, .iaload, 0, 0), (53, .istore_n 2, 0, 0), (54, .aload_n 0, 0, 0), (55, .getfield 16, 162, 0), (58, .bipush 9, 11, 0), (60, .aload_n 0, 0, 0), (61, .getfield 16, 162, 0), (64, .iconst 0, 2, 0), (65, .iaload, 0, 0), (66, .iastore, 0, 0), (67, .aload_n 0, 0, 0), (68, .getfield 16, 162, 0), (71, .bipush 10, 12, 0), (73, .iload_n 1, 0, 0), (74, .iastore, 0, 0), (75, .iload_n 2, 0, 0), (76, .ireturn, 0, 0)]
theorem tk_X9_promise : ∀ e ∈ tb_X9_promise, pm_ck 253 e = true := List.all_eq_true.mp (by decide +kernel)
set_option maxRecDepth 20000 in
set_option maxHeartbeats 20000000 in
theorem e_X9_promise (d : Nat) (hd : 2 ≤ d) (gx : List pm_E) (gs : List (List pm_E)) (q : Nat × Nat × Nat) (s : mo_S) (a0 : Int32) (r : Int32) (s1 : mo_S) (H : f_X9_promise s a0 = some (r, s1)) : pm_Mt 253 d [.ref 64, .int a0] (mo_h gx s gs q) (.inl (some (.int r))) (mo_h gx s1 gs q) := by
  refine pm_Mt.of (by decide) (by decide +kernel) rfl rfl ?_
  obtain ⟨d, rfl⟩ : ∃ d', d = d' + 1 := ⟨d - 1, by omega⟩
  unfold f_X9_promise at H
  by_cases h1 : a0 = (-1)
  · rw [if_pos h1] at H
    cases q4 : f_X9_isArray (mo_i s 2 0) with
    | none => rw [q4] at H; cases H
    | some r3 =>
     rw [q4] at H
     dsimp only at H
     refine pm_Wg.path (k := 7) (ds := [1]) (f' := (34, [some (.ref 64), some (.int a0), none], [.ref 64], mo_h gx (mo_i s 2 0) gs q)) tk_X9_promise (by omega) rfl ⟨h1, trivial⟩ ?_
     refine pm_Wg.callV (m' := 149) (ix := 51) (rr := 254) (pl := 1598) (b := 64) (As := []) (S := []) (by decide) rfl (pm_dec tk_X9_promise rfl) rfl rfl (by decide) rfl rfl (by decide) (Nat.le_of_ble_eq_true rfl) rfl (e_X9_isArray d (by omega) gx gs q _ _ q4) ?_
     by_cases h5 : r3 = 0
     · rw [if_pos h5] at H
       cases q10 : f_X9_refuse (mo_i s 2 0) 2 with
       | none => rw [q10] at H; cases H
       | some w =>
        obtain ⟨r8, s9⟩ := w
        rw [q10] at H
        dsimp only at H
        refine pm_Wg.path (k := 3) (ds := [0]) (f' := (42, [some (.ref 64), some (.int a0), none], [.int 2, .ref 64], mo_h gx (mo_i s 2 0) gs q)) tk_X9_promise (by omega) rfl ⟨h5, trivial⟩ ?_
        refine pm_Wg.callV (m' := 145) (ix := 69) (rr := 227) (pl := 1483) (b := 64) (As := [.int 2]) (S := []) (by decide) rfl (pm_dec tk_X9_promise rfl) rfl rfl (by decide) rfl rfl (by decide) (Nat.le_of_ble_eq_true rfl) rfl (e_X9_refuse d (by omega) gx gs q _ _ _ _ q10) ?_
        injection H with H
        injection H with H1 H2
        subst H1
        subst H2
        exact pm_Wg.iret (pm_dec tk_X9_promise rfl) rfl rfl
     · rw [if_neg h5] at H
       cases b6 : pm_inb 10 18186 with
       | false => rw [b6] at H; cases H
       | true =>
        rw [b6] at H
        dsimp only at H
        cases b7 : pm_inb 0 18186 with
        | false => rw [b7] at H; cases H
        | true =>
         rw [b7] at H
         dsimp only at H
         refine pm_Wg.path (k := 13) (ds := [1]) (f' := (66, [some (.ref 64), some (.int a0), some (.int ((mo_i s 2 0).2.2.1 3 (Int32.toNatClampNeg 10)))], [.int ((mo_i s 2 0).2.2.1 3 (Int32.toNatClampNeg 0)), .int 9, .ref 67], mo_h gx (mo_i s 2 0) gs q)) tk_X9_promise (by omega) rfl ⟨pm_inb_vp b7, pm_inb_vp b6, h5, trivial⟩ ?_
         generalize (mo_i s 2 0) = s11 at H ⊢
         try dsimp only at H
         cases b12 : pm_inb 9 18186 with
         | false => rw [b12] at H; cases H
         | true =>
          rw [b12] at H
          dsimp only at H
          refine pm_Wg.path (k := 5) (ds := []) (f' := (74, [some (.ref 64), some (.int a0), some (.int (s11.2.2.1 3 (Int32.toNatClampNeg 10)))], [.int a0, .int 10, .ref 67], mo_h gx (mo_a s11 3 9 (s11.2.2.1 3 (Int32.toNatClampNeg 0))) gs q)) tk_X9_promise (by omega) rfl ⟨pm_inb_vp b12, trivial⟩ ?_
          generalize (mo_a s11 3 9 (s11.2.2.1 3 (Int32.toNatClampNeg 0))) = s13 at H ⊢
          try dsimp only at H
          injection H with H
          injection H with H1 H2
          subst H1
          subst H2
          refine pm_Wg.path (k := 2) (ds := []) (f' := (76, [some (.ref 64), some (.int a0), some (.int (s11.2.2.1 3 (Int32.toNatClampNeg 10)))], [.int (s11.2.2.1 3 (Int32.toNatClampNeg 10))], mo_h gx (mo_a s13 3 10 a0) gs q)) tk_X9_promise (by omega) rfl ⟨pm_inb_vp b6, trivial⟩ ?_
          exact pm_Wg.iret (pm_dec tk_X9_promise rfl) rfl rfl
  · rw [if_neg h1] at H
    cases b2 : pm_inb 0 18186 with
    | false => rw [b2] at H; cases H
    | true =>
     rw [b2] at H
     dsimp only at H
     cases q16 : f_X9_in (mo_i s 2 0) a0 (((mo_i s 2 0).2.2.1 3 (Int32.toNatClampNeg 0)) + 1) 99999 with
     | none => rw [q16] at H; cases H
     | some r15 =>
      rw [q16] at H
      dsimp only at H
      refine pm_Wg.path (k := 14) (ds := [0]) (f' := (21, [some (.ref 64), some (.int a0), none], [.int 99999, .int (((mo_i s 2 0).2.2.1 3 (Int32.toNatClampNeg 0)) + 1), .int a0], mo_h gx (mo_i s 2 0) gs q)) tk_X9_promise (by omega) rfl ⟨pm_inb_vp b2, h1, trivial⟩ ?_
      refine pm_Wg.callS (m' := 147) (ix := 59) (rr := 233) (pl := 1507) (As := [.int a0, .int (((mo_i s 2 0).2.2.1 3 (Int32.toNatClampNeg 0)) + 1), .int 99999]) (S := []) (by decide) rfl (pm_dec tk_X9_promise rfl) rfl rfl rfl (Nat.le_of_ble_eq_true rfl) rfl (e_X9_in d (by omega) gx gs q _ _ _ _ _ q16) ?_
      by_cases h17 : r15 = 0
      · rw [if_pos h17] at H
        cases q20 : f_X9_refuse (mo_i s 2 0) 1 with
        | none => rw [q20] at H; cases H
        | some w =>
         obtain ⟨r18, s19⟩ := w
         rw [q20] at H
         dsimp only at H
         refine pm_Wg.path (k := 3) (ds := [0]) (f' := (29, [some (.ref 64), some (.int a0), none], [.int 1, .ref 64], mo_h gx (mo_i s 2 0) gs q)) tk_X9_promise (by omega) rfl ⟨h17, trivial⟩ ?_
         refine pm_Wg.callV (m' := 145) (ix := 69) (rr := 227) (pl := 1483) (b := 64) (As := [.int 1]) (S := []) (by decide) rfl (pm_dec tk_X9_promise rfl) rfl rfl (by decide) rfl rfl (by decide) (Nat.le_of_ble_eq_true rfl) rfl (e_X9_refuse d (by omega) gx gs q _ _ _ _ q20) ?_
         injection H with H
         injection H with H1 H2
         subst H1
         subst H2
         exact pm_Wg.iret (pm_dec tk_X9_promise rfl) rfl rfl
      · rw [if_neg h17] at H
        cases q22 : f_X9_isArray (mo_i s 2 0) with
        | none => rw [q22] at H; cases H
        | some r21 =>
         rw [q22] at H
         dsimp only at H
         refine pm_Wg.path (k := 2) (ds := [1]) (f' := (34, [some (.ref 64), some (.int a0), none], [.ref 64], mo_h gx (mo_i s 2 0) gs q)) tk_X9_promise (by omega) rfl ⟨h17, trivial⟩ ?_
         refine pm_Wg.callV (m' := 149) (ix := 51) (rr := 254) (pl := 1598) (b := 64) (As := []) (S := []) (by decide) rfl (pm_dec tk_X9_promise rfl) rfl rfl (by decide) rfl rfl (by decide) (Nat.le_of_ble_eq_true rfl) rfl (e_X9_isArray d (by omega) gx gs q _ _ q22) ?_
         by_cases h23 : r21 = 0
         · rw [if_pos h23] at H
           cases q28 : f_X9_refuse (mo_i s 2 0) 2 with
           | none => rw [q28] at H; cases H
           | some w =>
            obtain ⟨r26, s27⟩ := w
            rw [q28] at H
            dsimp only at H
            refine pm_Wg.path (k := 3) (ds := [0]) (f' := (42, [some (.ref 64), some (.int a0), none], [.int 2, .ref 64], mo_h gx (mo_i s 2 0) gs q)) tk_X9_promise (by omega) rfl ⟨h23, trivial⟩ ?_
            refine pm_Wg.callV (m' := 145) (ix := 69) (rr := 227) (pl := 1483) (b := 64) (As := [.int 2]) (S := []) (by decide) rfl (pm_dec tk_X9_promise rfl) rfl rfl (by decide) rfl rfl (by decide) (Nat.le_of_ble_eq_true rfl) rfl (e_X9_refuse d (by omega) gx gs q _ _ _ _ q28) ?_
            injection H with H
            injection H with H1 H2
            subst H1
            subst H2
            exact pm_Wg.iret (pm_dec tk_X9_promise rfl) rfl rfl
         · rw [if_neg h23] at H
           cases b24 : pm_inb 10 18186 with
           | false => rw [b24] at H; cases H
           | true =>
            rw [b24] at H
            dsimp only at H
            refine pm_Wg.path (k := 13) (ds := [1]) (f' := (66, [some (.ref 64), some (.int a0), some (.int ((mo_i s 2 0).2.2.1 3 (Int32.toNatClampNeg 10)))], [.int ((mo_i s 2 0).2.2.1 3 (Int32.toNatClampNeg 0)), .int 9, .ref 67], mo_h gx (mo_i s 2 0) gs q)) tk_X9_promise (by omega) rfl ⟨pm_inb_vp b2, pm_inb_vp b24, h23, trivial⟩ ?_
            generalize (mo_i s 2 0) = s29 at H ⊢
            try dsimp only at H
            cases b30 : pm_inb 9 18186 with
            | false => rw [b30] at H; cases H
            | true =>
             rw [b30] at H
             dsimp only at H
             refine pm_Wg.path (k := 5) (ds := []) (f' := (74, [some (.ref 64), some (.int a0), some (.int (s29.2.2.1 3 (Int32.toNatClampNeg 10)))], [.int a0, .int 10, .ref 67], mo_h gx (mo_a s29 3 9 (s29.2.2.1 3 (Int32.toNatClampNeg 0))) gs q)) tk_X9_promise (by omega) rfl ⟨pm_inb_vp b30, trivial⟩ ?_
             generalize (mo_a s29 3 9 (s29.2.2.1 3 (Int32.toNatClampNeg 0))) = s31 at H ⊢
             try dsimp only at H
             injection H with H
             injection H with H1 H2
             subst H1
             subst H2
             refine pm_Wg.path (k := 2) (ds := []) (f' := (76, [some (.ref 64), some (.int a0), some (.int (s29.2.2.1 3 (Int32.toNatClampNeg 10)))], [.int (s29.2.2.1 3 (Int32.toNatClampNeg 10))], mo_h gx (mo_a s31 3 10 a0) gs q)) tk_X9_promise (by omega) rfl ⟨pm_inb_vp b24, trivial⟩ ?_
             exact pm_Wg.iret (pm_dec tk_X9_promise rfl) rfl rfl

def f_X9_now (s : mo_S) : Option (Int32 × mo_S) :=
  (match pm_inb 0 18186 with
  | false => none
  | true =>
  (match f_X9_told s (s.2.2.1 3 (Int32.toNatClampNeg 0)) with
  | none => none
  | some (r2, s3) =>
   some (r2, s3)))
def tb_X9_now : List pm_I := [(0, .aload_n 0, 0, 0), (1, .aload_n 0, 0, 0), (2, .getfield 16, 162, 0), (5, .iconst 0, 2, 0), (6, .iaload, 0, 0), (7, .invokevirtual 80, 230, 0), (10, .ireturn, 0, 0)]
theorem tk_X9_now : ∀ e ∈ tb_X9_now, pm_ck 255 e = true := List.all_eq_true.mp (by decide +kernel)
set_option maxRecDepth 20000 in
set_option maxHeartbeats 20000000 in
theorem e_X9_now (d : Nat) (hd : 2 ≤ d) (gx : List pm_E) (gs : List (List pm_E)) (q : Nat × Nat × Nat) (s : mo_S) (r : Int32) (s1 : mo_S) (H : f_X9_now s = some (r, s1)) : pm_Mt 255 d [.ref 64] (mo_h gx s gs q) (.inl (some (.int r))) (mo_h gx s1 gs q) := by
  refine pm_Mt.of (by decide) (by decide +kernel) rfl rfl ?_
  obtain ⟨d, rfl⟩ : ∃ d', d = d' + 1 := ⟨d - 1, by omega⟩
  unfold f_X9_now at H
  cases b1 : pm_inb 0 18186 with
  | false => rw [b1] at H; cases H
  | true =>
   rw [b1] at H
   dsimp only at H
   cases q4 : f_X9_told s (s.2.2.1 3 (Int32.toNatClampNeg 0)) with
   | none => rw [q4] at H; cases H
   | some w =>
    obtain ⟨r2, s3⟩ := w
    rw [q4] at H
    dsimp only at H
    refine pm_Wg.path (k := 5) (ds := []) (f' := (7, [some (.ref 64)], [.int (s.2.2.1 3 (Int32.toNatClampNeg 0)), .ref 64], mo_h gx s gs q)) tk_X9_now (by omega) rfl ⟨pm_inb_vp b1, trivial⟩ ?_
    refine pm_Wg.callV (m' := 146) (ix := 80) (rr := 230) (pl := 1495) (b := 64) (As := [.int (s.2.2.1 3 (Int32.toNatClampNeg 0))]) (S := []) (by decide) rfl (pm_dec tk_X9_now rfl) rfl rfl (by decide) rfl rfl (by decide) (Nat.le_of_ble_eq_true rfl) rfl (e_X9_told d (by omega) gx gs q _ _ _ _ q4) ?_
    injection H with H
    injection H with H1 H2
    subst H1
    subst H2
    exact pm_Wg.iret (pm_dec tk_X9_now rfl) rfl rfl

def f_X9_failedDisk (s : mo_S) : Option (Int32 × mo_S) :=
  (match pm_inb 1 18186 with
  | false => none
  | true =>
  (match f_X9_told s (s.2.2.1 3 (Int32.toNatClampNeg 1)) with
  | none => none
  | some (r2, s3) =>
   some (r2, s3)))
def tb_X9_failedDisk : List pm_I := [(0, .aload_n 0, 0, 0), (1, .aload_n 0, 0, 0), (2, .getfield 16, 162, 0), (5, .iconst 1, 3, 0), (6, .iaload, 0, 0), (7, .invokevirtual 80, 230, 0), (10, .ireturn, 0, 0)]
theorem tk_X9_failedDisk : ∀ e ∈ tb_X9_failedDisk, pm_ck 256 e = true := List.all_eq_true.mp (by decide +kernel)
set_option maxRecDepth 20000 in
set_option maxHeartbeats 20000000 in
theorem e_X9_failedDisk (d : Nat) (hd : 2 ≤ d) (gx : List pm_E) (gs : List (List pm_E)) (q : Nat × Nat × Nat) (s : mo_S) (r : Int32) (s1 : mo_S) (H : f_X9_failedDisk s = some (r, s1)) : pm_Mt 256 d [.ref 64] (mo_h gx s gs q) (.inl (some (.int r))) (mo_h gx s1 gs q) := by
  refine pm_Mt.of (by decide) (by decide +kernel) rfl rfl ?_
  obtain ⟨d, rfl⟩ : ∃ d', d = d' + 1 := ⟨d - 1, by omega⟩
  unfold f_X9_failedDisk at H
  cases b1 : pm_inb 1 18186 with
  | false => rw [b1] at H; cases H
  | true =>
   rw [b1] at H
   dsimp only at H
   cases q4 : f_X9_told s (s.2.2.1 3 (Int32.toNatClampNeg 1)) with
   | none => rw [q4] at H; cases H
   | some w =>
    obtain ⟨r2, s3⟩ := w
    rw [q4] at H
    dsimp only at H
    refine pm_Wg.path (k := 5) (ds := []) (f' := (7, [some (.ref 64)], [.int (s.2.2.1 3 (Int32.toNatClampNeg 1)), .ref 64], mo_h gx s gs q)) tk_X9_failedDisk (by omega) rfl ⟨pm_inb_vp b1, trivial⟩ ?_
    refine pm_Wg.callV (m' := 146) (ix := 80) (rr := 230) (pl := 1495) (b := 64) (As := [.int (s.2.2.1 3 (Int32.toNatClampNeg 1))]) (S := []) (by decide) rfl (pm_dec tk_X9_failedDisk rfl) rfl rfl (by decide) rfl rfl (by decide) (Nat.le_of_ble_eq_true rfl) rfl (e_X9_told d (by omega) gx gs q _ _ _ _ q4) ?_
    injection H with H
    injection H with H1 H2
    subst H1
    subst H2
    exact pm_Wg.iret (pm_dec tk_X9_failedDisk rfl) rfl rfl

def f_X9_queueLength (s : mo_S) (a0 : Int32) (a1 : Int32) : Option (Int32 × mo_S) :=
  (match f_X9_isDisk (mo_i s 2 0) a0 with
  | none => none
  | some r1 =>
   (if r1 = 0 then
    (match f_X9_refuse (mo_i s 2 0) 1 with
    | none => none
    | some (r4, s5) =>
     some (r4, s5))
   else
    (match f_X9_isTenant (mo_i s 2 0) a1 with
    | none => none
    | some r7 =>
     (if r7 = 0 then
      (match f_X9_refuse (mo_i s 2 0) 1 with
      | none => none
      | some (r10, s11) =>
       some (r10, s11))
     else
      (match f_X9_queueOf (mo_i s 2 0) a0 a1 with
      | none => none
      | some r13 =>
       (match f_X9_ofQueue (mo_i s 2 0) r13 2 with
       | none => none
       | some r15 =>
        some (r15, (mo_i s 2 0))))))))
def tb_X9_queueLength : List pm_I := [(0, .aload_n 0, 0, 0), (1, .iconst 0, 2, 0), (2, .putfield 45, 161, 0), (5, .aload_n 0, 0, 0), (6, .iload_n 1, 0, 0), (7, .invokevirtual 401, 336, 0), (10, .ifCond .eq 24, 34, 0), (13, .aload_n 0, 0, 0), (14, .iload_n 2, 0, 0), (15, .invokevirtual 218, 271, 0), (18, .ifCond .eq 16, 34, 0), (21, .aload_n 0, 0, 0), (22, .iload_n 1, 0, 0), (23, .iload_n 2, 0, 0), (24, .invokestatic 251, 284, 0), (27, .iconst 2, 4, 0), (28, .invokevirtual 233, 290, 0), (31, .goto 8, 39, 0), (34, .aload_n 0, 0, 0), (35, .iconst 1, 3, 0), (36, .invokevirtual 69, 227, 0), (39, .ireturn, 0, 0)]
theorem tk_X9_queueLength : ∀ e ∈ tb_X9_queueLength, pm_ck 257 e = true := List.all_eq_true.mp (by decide +kernel)
set_option maxRecDepth 20000 in
set_option maxHeartbeats 20000000 in
theorem e_X9_queueLength (d : Nat) (hd : 3 ≤ d) (gx : List pm_E) (gs : List (List pm_E)) (q : Nat × Nat × Nat) (s : mo_S) (a0 : Int32) (a1 : Int32) (r : Int32) (s1 : mo_S) (H : f_X9_queueLength s a0 a1 = some (r, s1)) : pm_Mt 257 d [.ref 64, .int a0, .int a1] (mo_h gx s gs q) (.inl (some (.int r))) (mo_h gx s1 gs q) := by
  refine pm_Mt.of (by decide) (by decide +kernel) rfl rfl ?_
  obtain ⟨d, rfl⟩ : ∃ d', d = d' + 1 := ⟨d - 1, by omega⟩
  unfold f_X9_queueLength at H
  cases q2 : f_X9_isDisk (mo_i s 2 0) a0 with
  | none => rw [q2] at H; cases H
  | some r1 =>
   rw [q2] at H
   dsimp only at H
   refine pm_Wg.path (k := 5) (ds := []) (f' := (7, [some (.ref 64), some (.int a0), some (.int a1)], [.int a0, .ref 64], mo_h gx (mo_i s 2 0) gs q)) tk_X9_queueLength (by omega) rfl trivial ?_
   refine pm_Wg.callV (m' := 151) (ix := 401) (rr := 336) (pl := 1932) (b := 64) (As := [.int a0]) (S := []) (by decide) rfl (pm_dec tk_X9_queueLength rfl) rfl rfl (by decide) rfl rfl (by decide) (Nat.le_of_ble_eq_true rfl) rfl (e_X9_isDisk d (by omega) gx gs q _ _ _ q2) ?_
   by_cases h3 : r1 = 0
   · rw [if_pos h3] at H
     cases q6 : f_X9_refuse (mo_i s 2 0) 1 with
     | none => rw [q6] at H; cases H
     | some w =>
      obtain ⟨r4, s5⟩ := w
      rw [q6] at H
      dsimp only at H
      refine pm_Wg.path (k := 3) (ds := [1]) (f' := (36, [some (.ref 64), some (.int a0), some (.int a1)], [.int 1, .ref 64], mo_h gx (mo_i s 2 0) gs q)) tk_X9_queueLength (by omega) rfl ⟨h3, trivial⟩ ?_
      refine pm_Wg.callV (m' := 145) (ix := 69) (rr := 227) (pl := 1483) (b := 64) (As := [.int 1]) (S := []) (by decide) rfl (pm_dec tk_X9_queueLength rfl) rfl rfl (by decide) rfl rfl (by decide) (Nat.le_of_ble_eq_true rfl) rfl (e_X9_refuse d (by omega) gx gs q _ _ _ _ q6) ?_
      injection H with H
      injection H with H1 H2
      subst H1
      subst H2
      exact pm_Wg.iret (pm_dec tk_X9_queueLength rfl) rfl rfl
   · rw [if_neg h3] at H
     cases q8 : f_X9_isTenant (mo_i s 2 0) a1 with
     | none => rw [q8] at H; cases H
     | some r7 =>
      rw [q8] at H
      dsimp only at H
      refine pm_Wg.path (k := 3) (ds := [0]) (f' := (15, [some (.ref 64), some (.int a0), some (.int a1)], [.int a1, .ref 64], mo_h gx (mo_i s 2 0) gs q)) tk_X9_queueLength (by omega) rfl ⟨h3, trivial⟩ ?_
      refine pm_Wg.callV (m' := 153) (ix := 218) (rr := 271) (pl := 1671) (b := 64) (As := [.int a1]) (S := []) (by decide) rfl (pm_dec tk_X9_queueLength rfl) rfl rfl (by decide) rfl rfl (by decide) (Nat.le_of_ble_eq_true rfl) rfl (e_X9_isTenant d (by omega) gx gs q _ _ _ q8) ?_
      by_cases h9 : r7 = 0
      · rw [if_pos h9] at H
        cases q12 : f_X9_refuse (mo_i s 2 0) 1 with
        | none => rw [q12] at H; cases H
        | some w =>
         obtain ⟨r10, s11⟩ := w
         rw [q12] at H
         dsimp only at H
         refine pm_Wg.path (k := 3) (ds := [1]) (f' := (36, [some (.ref 64), some (.int a0), some (.int a1)], [.int 1, .ref 64], mo_h gx (mo_i s 2 0) gs q)) tk_X9_queueLength (by omega) rfl ⟨h9, trivial⟩ ?_
         refine pm_Wg.callV (m' := 145) (ix := 69) (rr := 227) (pl := 1483) (b := 64) (As := [.int 1]) (S := []) (by decide) rfl (pm_dec tk_X9_queueLength rfl) rfl rfl (by decide) rfl rfl (by decide) (Nat.le_of_ble_eq_true rfl) rfl (e_X9_refuse d (by omega) gx gs q _ _ _ _ q12) ?_
         injection H with H
         injection H with H1 H2
         subst H1
         subst H2
         exact pm_Wg.iret (pm_dec tk_X9_queueLength rfl) rfl rfl
      · rw [if_neg h9] at H
        cases q14 : f_X9_queueOf (mo_i s 2 0) a0 a1 with
        | none => rw [q14] at H; cases H
        | some r13 =>
         rw [q14] at H
         dsimp only at H
         refine pm_Wg.path (k := 4) (ds := [0]) (f' := (24, [some (.ref 64), some (.int a0), some (.int a1)], [.int a1, .int a0, .ref 64], mo_h gx (mo_i s 2 0) gs q)) tk_X9_queueLength (by omega) rfl ⟨h9, trivial⟩ ?_
         refine pm_Wg.callS (m' := 197) (ix := 251) (rr := 284) (pl := 1723) (As := [.int a0, .int a1]) (S := [.ref 64]) (by decide) rfl (pm_dec tk_X9_queueLength rfl) rfl rfl rfl (Nat.le_of_ble_eq_true rfl) rfl (e_X9_queueOf d (by omega) gx gs q _ _ _ _ q14) ?_
         cases q16 : f_X9_ofQueue (mo_i s 2 0) r13 2 with
         | none => rw [q16] at H; cases H
         | some r15 =>
          rw [q16] at H
          dsimp only at H
          refine pm_Wg.path (k := 1) (ds := []) (f' := (28, [some (.ref 64), some (.int a0), some (.int a1)], [.int 2, .int r13, .ref 64], mo_h gx (mo_i s 2 0) gs q)) tk_X9_queueLength (by omega) rfl trivial ?_
          refine pm_Wg.callV (m' := 198) (ix := 233) (rr := 290) (pl := 1747) (b := 64) (As := [.int r13, .int 2]) (S := []) (by decide) rfl (pm_dec tk_X9_queueLength rfl) rfl rfl (by decide) rfl rfl (by decide) (Nat.le_of_ble_eq_true rfl) rfl (e_X9_ofQueue d (by omega) gx gs q _ _ _ _ q16) ?_
          injection H with H
          injection H with H1 H2
          subst H1
          subst H2
          refine pm_Wg.path (k := 1) (ds := []) (f' := (39, [some (.ref 64), some (.int a0), some (.int a1)], [.int r15], mo_h gx (mo_i s 2 0) gs q)) tk_X9_queueLength (by omega) rfl trivial ?_
          exact pm_Wg.iret (pm_dec tk_X9_queueLength rfl) rfl rfl

def f_X9_firstOf (s : mo_S) (a0 : Int32) (a1 : Int32) : Option Int32 :=
  (match f_X9_isDisk s a0 with
  | none => none
  | some r1 =>
   (if r1 = 0 then
    some (-1)
   else
    (match f_X9_isTenant s a1 with
    | none => none
    | some r4 =>
     (if r4 = 0 then
      some (-1)
     else
      (match f_X9_queueOf s a0 a1 with
      | none => none
      | some r7 =>
       (match f_X9_ofQueue s r7 0 with
       | none => none
       | some r9 =>
        some r9))))))
def tb_X9_firstOf : List pm_I := [(0, .aload_n 0, 0, 0), (1, .iload_n 1, 0, 0), (2, .invokevirtual 401, 336, 0), (5, .ifCond .eq 24, 29, 0), (8, .aload_n 0, 0, 0), (9, .iload_n 2, 0, 0), (10, .invokevirtual 218, 271, 0), (13, .ifCond .eq 16, 29, 0), (16, .aload_n 0, 0, 0), (17, .iload_n 1, 0, 0), (18, .iload_n 2, 0, 0), (19, .invokestatic 251, 284, 0), (22, .iconst 0, 2, 0), (23, .invokevirtual 233, 290, 0), (26, .goto 4, 30, 0), (29, .iconst (-1), 1, 0), (30, .ireturn, 0, 0)]
theorem tk_X9_firstOf : ∀ e ∈ tb_X9_firstOf, pm_ck 258 e = true := List.all_eq_true.mp (by decide +kernel)
set_option maxRecDepth 20000 in
set_option maxHeartbeats 20000000 in
theorem e_X9_firstOf (d : Nat) (hd : 3 ≤ d) (gx : List pm_E) (gs : List (List pm_E)) (q : Nat × Nat × Nat) (s : mo_S) (a0 : Int32) (a1 : Int32) (r : Int32) (H : f_X9_firstOf s a0 a1 = some r) : pm_Mt 258 d [.ref 64, .int a0, .int a1] (mo_h gx s gs q) (.inl (some (.int r))) (mo_h gx s gs q) := by
  refine pm_Mt.of (by decide) (by decide +kernel) rfl rfl ?_
  obtain ⟨d, rfl⟩ : ∃ d', d = d' + 1 := ⟨d - 1, by omega⟩
  unfold f_X9_firstOf at H
  cases q2 : f_X9_isDisk s a0 with
  | none => rw [q2] at H; cases H
  | some r1 =>
   rw [q2] at H
   dsimp only at H
   refine pm_Wg.path (k := 2) (ds := []) (f' := (2, [some (.ref 64), some (.int a0), some (.int a1)], [.int a0, .ref 64], mo_h gx s gs q)) tk_X9_firstOf (by omega) rfl trivial ?_
   refine pm_Wg.callV (m' := 151) (ix := 401) (rr := 336) (pl := 1932) (b := 64) (As := [.int a0]) (S := []) (by decide) rfl (pm_dec tk_X9_firstOf rfl) rfl rfl (by decide) rfl rfl (by decide) (Nat.le_of_ble_eq_true rfl) rfl (e_X9_isDisk d (by omega) gx gs q _ _ _ q2) ?_
   by_cases h3 : r1 = 0
   · rw [if_pos h3] at H
     have H1 := Option.some.inj H
     subst H1
     refine pm_Wg.path (k := 2) (ds := [1]) (f' := (30, [some (.ref 64), some (.int a0), some (.int a1)], [.int (-1)], mo_h gx s gs q)) tk_X9_firstOf (by omega) rfl ⟨h3, trivial⟩ ?_
     exact pm_Wg.iret (pm_dec tk_X9_firstOf rfl) rfl rfl
   · rw [if_neg h3] at H
     cases q5 : f_X9_isTenant s a1 with
     | none => rw [q5] at H; cases H
     | some r4 =>
      rw [q5] at H
      dsimp only at H
      refine pm_Wg.path (k := 3) (ds := [0]) (f' := (10, [some (.ref 64), some (.int a0), some (.int a1)], [.int a1, .ref 64], mo_h gx s gs q)) tk_X9_firstOf (by omega) rfl ⟨h3, trivial⟩ ?_
      refine pm_Wg.callV (m' := 153) (ix := 218) (rr := 271) (pl := 1671) (b := 64) (As := [.int a1]) (S := []) (by decide) rfl (pm_dec tk_X9_firstOf rfl) rfl rfl (by decide) rfl rfl (by decide) (Nat.le_of_ble_eq_true rfl) rfl (e_X9_isTenant d (by omega) gx gs q _ _ _ q5) ?_
      by_cases h6 : r4 = 0
      · rw [if_pos h6] at H
        have H1 := Option.some.inj H
        subst H1
        refine pm_Wg.path (k := 2) (ds := [1]) (f' := (30, [some (.ref 64), some (.int a0), some (.int a1)], [.int (-1)], mo_h gx s gs q)) tk_X9_firstOf (by omega) rfl ⟨h6, trivial⟩ ?_
        exact pm_Wg.iret (pm_dec tk_X9_firstOf rfl) rfl rfl
      · rw [if_neg h6] at H
        cases q8 : f_X9_queueOf s a0 a1 with
        | none => rw [q8] at H; cases H
        | some r7 =>
         rw [q8] at H
         dsimp only at H
         refine pm_Wg.path (k := 4) (ds := [0]) (f' := (19, [some (.ref 64), some (.int a0), some (.int a1)], [.int a1, .int a0, .ref 64], mo_h gx s gs q)) tk_X9_firstOf (by omega) rfl ⟨h6, trivial⟩ ?_
         refine pm_Wg.callS (m' := 197) (ix := 251) (rr := 284) (pl := 1723) (As := [.int a0, .int a1]) (S := [.ref 64]) (by decide) rfl (pm_dec tk_X9_firstOf rfl) rfl rfl rfl (Nat.le_of_ble_eq_true rfl) rfl (e_X9_queueOf d (by omega) gx gs q _ _ _ _ q8) ?_
         cases q10 : f_X9_ofQueue s r7 0 with
         | none => rw [q10] at H; cases H
         | some r9 =>
          rw [q10] at H
          dsimp only at H
          refine pm_Wg.path (k := 1) (ds := []) (f' := (23, [some (.ref 64), some (.int a0), some (.int a1)], [.int 0, .int r7, .ref 64], mo_h gx s gs q)) tk_X9_firstOf (by omega) rfl trivial ?_
          refine pm_Wg.callV (m' := 198) (ix := 233) (rr := 290) (pl := 1747) (b := 64) (As := [.int r7, .int 0]) (S := []) (by decide) rfl (pm_dec tk_X9_firstOf rfl) rfl rfl (by decide) rfl rfl (by decide) (Nat.le_of_ble_eq_true rfl) rfl (e_X9_ofQueue d (by omega) gx gs q _ _ _ _ q10) ?_
          have H1 := Option.some.inj H
          subst H1
          refine pm_Wg.path (k := 1) (ds := []) (f' := (30, [some (.ref 64), some (.int a0), some (.int a1)], [.int r9], mo_h gx s gs q)) tk_X9_firstOf (by omega) rfl trivial ?_
          exact pm_Wg.iret (pm_dec tk_X9_firstOf rfl) rfl rfl

def f_X9_tag (s : mo_S) (a0 : Int32) (a1 : Int32) (a2 : Int32) : Option (Int64 × mo_S) :=
  (match f_X9_firstOf s a0 a1 with
  | none => none
  | some r1 =>
   (if r1 = (-1) then
    (if ((mo_i s 2 1).1 2) = 0 then
     (if a2 = 0 then
      (match f_X9_of (mo_i s 2 1) r1 6 with
      | none => none
      | some r6 =>
       (if r6 = 0 then
        some ((-1), (mo_i s 2 1))
       else
        (match f_X9_tagOf (mo_i s 2 1) r1 a2 with
        | none => none
        | some r9 =>
         some (r9, (mo_i s 2 1)))))
     else
      (match f_X9_tagOf (mo_i s 2 1) r1 a2 with
      | none => none
      | some r11 =>
       some (r11, (mo_i s 2 1))))
    else
     some (0, (mo_i s 2 1)))
   else
    (match f_X9_in s a2 0 2 with
    | none => none
    | some r13 =>
     (if r13 = 0 then
      (if ((mo_i s 2 2).1 2) = 0 then
       (if a2 = 0 then
        (match f_X9_of (mo_i s 2 2) r1 6 with
        | none => none
        | some r20 =>
         (if r20 = 0 then
          some ((-1), (mo_i s 2 2))
         else
          (match f_X9_tagOf (mo_i s 2 2) r1 a2 with
          | none => none
          | some r23 =>
           some (r23, (mo_i s 2 2)))))
       else
        (match f_X9_tagOf (mo_i s 2 2) r1 a2 with
        | none => none
        | some r25 =>
         some (r25, (mo_i s 2 2))))
      else
       some (0, (mo_i s 2 2)))
     else
      (if ((mo_i s 2 0).1 2) = 0 then
       (if a2 = 0 then
        (match f_X9_of (mo_i s 2 0) r1 6 with
        | none => none
        | some r27 =>
         (if r27 = 0 then
          some ((-1), (mo_i s 2 0))
         else
          (match f_X9_tagOf (mo_i s 2 0) r1 a2 with
          | none => none
          | some r30 =>
           some (r30, (mo_i s 2 0)))))
       else
        (match f_X9_tagOf (mo_i s 2 0) r1 a2 with
        | none => none
        | some r32 =>
         some (r32, (mo_i s 2 0))))
      else
       some (0, (mo_i s 2 0)))))))
def tb_X9_tag : List pm_I := [(0, .aload_n 0, 0, 0), (1, .iload_n 1, 0, 0), (2, .iload_n 2, 0, 0), (3, .invokevirtual 404, 338, 0), (6, .istore 4, 0, 0), (8, .aload_n 0, 0, 0), (9, .iload 4, 0, 0), (11, .iconst (-1), 1, 0), (12, .if_icmp .ne 7, 19, 0), (15, .iconst 1, 3, 0), (16, .goto 17, 33, 0), (19, .iload_n 3, 0, 0), (20, .iconst 0, 2, 0), (21, .iconst 2, 4, 0), (22, .invokestatic 59, 233, 0), (25, .ifCond .eq 7, 32, 0), (28, .iconst 0, 2, 0), (29, .goto 4, 33, 0), (32, .iconst 2, 4, 0), (33, .putfield 45, 161, 0), (36, .aload_n 0, 0, 0), (37, .getfield 45, 161, 0), (40, .ifCond .eq 5, 45, 0), (43, .lconst 0, 0, 0), (44, .lreturn, 0, 0), (45, .iload_n 3, 0, 0), (46, .ifCond .ne 20, 66, 0), (49, .aload_n 0, 0, 0), (50, .iload 4, 0, 0), (52, .bipush 6, 8, 0), (54, .invokevirtual 254, 285, 0), (57, .ifCond .ne 9, 66, 0), (60, .ldc2_w 407, 22, 0), (63, .goto 10, 73, 0), (66, .aload_n 0, 0, 0), (67, .iload 4, 0, 0), (69, .iload_n 3, 0, 0), (70, .invokevirtual 368, 327, 0), (73, .lreturn, 0, 0)]
theorem tk_X9_tag : ∀ e ∈ tb_X9_tag, pm_ck 259 e = true := List.all_eq_true.mp (by decide +kernel)
set_option maxRecDepth 20000 in
set_option maxHeartbeats 20000000 in
theorem e_X9_tag (d : Nat) (hd : 4 ≤ d) (gx : List pm_E) (gs : List (List pm_E)) (q : Nat × Nat × Nat) (s : mo_S) (a0 : Int32) (a1 : Int32) (a2 : Int32) (r : Int64) (s1 : mo_S) (H : f_X9_tag s a0 a1 a2 = some (r, s1)) : pm_Mt 259 d [.ref 64, .int a0, .int a1, .int a2] (mo_h gx s gs q) (.inl (some (.long r))) (mo_h gx s1 gs q) := by
  refine pm_Mt.of (by decide) (by decide +kernel) rfl rfl ?_
  obtain ⟨d, rfl⟩ : ∃ d', d = d' + 1 := ⟨d - 1, by omega⟩
  unfold f_X9_tag at H
  cases q2 : f_X9_firstOf s a0 a1 with
  | none => rw [q2] at H; cases H
  | some r1 =>
   rw [q2] at H
   dsimp only at H
   refine pm_Wg.path (k := 3) (ds := []) (f' := (3, [some (.ref 64), some (.int a0), some (.int a1), some (.int a2), none], [.int a1, .int a0, .ref 64], mo_h gx s gs q)) tk_X9_tag (by omega) rfl trivial ?_
   refine pm_Wg.callV (m' := 258) (ix := 404) (rr := 338) (pl := 1940) (b := 64) (As := [.int a0, .int a1]) (S := []) (by decide) rfl (pm_dec tk_X9_tag rfl) rfl rfl (by decide) rfl rfl (by decide) (Nat.le_of_ble_eq_true rfl) rfl (e_X9_firstOf d (by omega) gx gs q _ _ _ _ q2) ?_
   by_cases h3 : r1 = (-1)
   · rw [if_pos h3] at H
     by_cases h4 : ((mo_i s 2 1).1 2) = 0
     · rw [if_pos h4] at H
       by_cases h5 : a2 = 0
       · rw [if_pos h5] at H
         cases q7 : f_X9_of (mo_i s 2 1) r1 6 with
         | none => rw [q7] at H; cases H
         | some r6 =>
          rw [q7] at H
          dsimp only at H
          refine pm_Wg.path (k := 16) (ds := [0, 1, 0]) (f' := (54, [some (.ref 64), some (.int a0), some (.int a1), some (.int a2), some (.int r1)], [.int 6, .int r1, .ref 64], mo_h gx (mo_i s 2 1) gs q)) tk_X9_tag (by omega) rfl ⟨h5, h4, h3, trivial⟩ ?_
          refine pm_Wg.callV (m' := 200) (ix := 254) (rr := 285) (pl := 1726) (b := 64) (As := [.int r1, .int 6]) (S := []) (by decide) rfl (pm_dec tk_X9_tag rfl) rfl rfl (by decide) rfl rfl (by decide) (Nat.le_of_ble_eq_true rfl) rfl (e_X9_of d (by omega) gx gs q _ _ _ _ q7) ?_
          by_cases h8 : r6 = 0
          · rw [if_pos h8] at H
            injection H with H
            injection H with H1 H2
            subst H1
            subst H2
            refine pm_Wg.path (k := 3) (ds := [0]) (f' := (73, [some (.ref 64), some (.int a0), some (.int a1), some (.int a2), some (.int r1)], [.long (-1)], mo_h gx (mo_i s 2 1) gs q)) tk_X9_tag (by omega) rfl ⟨h8, trivial⟩ ?_
            exact pm_Wg.lret (pm_dec tk_X9_tag rfl) rfl
          · rw [if_neg h8] at H
            cases q10 : f_X9_tagOf (mo_i s 2 1) r1 a2 with
            | none => rw [q10] at H; cases H
            | some r9 =>
             rw [q10] at H
             dsimp only at H
             refine pm_Wg.path (k := 4) (ds := [1]) (f' := (70, [some (.ref 64), some (.int a0), some (.int a1), some (.int a2), some (.int r1)], [.int a2, .int r1, .ref 64], mo_h gx (mo_i s 2 1) gs q)) tk_X9_tag (by omega) rfl ⟨h8, trivial⟩ ?_
             refine pm_Wg.callV (m' := 202) (ix := 368) (rr := 327) (pl := 1896) (b := 64) (As := [.int r1, .int a2]) (S := []) (by decide) rfl (pm_dec tk_X9_tag rfl) rfl rfl (by decide) rfl rfl (by decide) (Nat.le_of_ble_eq_true rfl) rfl (e_X9_tagOf d (by omega) gx gs q _ _ _ _ q10) ?_
             injection H with H
             injection H with H1 H2
             subst H1
             subst H2
             exact pm_Wg.lret (pm_dec tk_X9_tag rfl) rfl
       · rw [if_neg h5] at H
         cases q12 : f_X9_tagOf (mo_i s 2 1) r1 a2 with
         | none => rw [q12] at H; cases H
         | some r11 =>
          rw [q12] at H
          dsimp only at H
          refine pm_Wg.path (k := 16) (ds := [0, 1, 1]) (f' := (70, [some (.ref 64), some (.int a0), some (.int a1), some (.int a2), some (.int r1)], [.int a2, .int r1, .ref 64], mo_h gx (mo_i s 2 1) gs q)) tk_X9_tag (by omega) rfl ⟨h5, h4, h3, trivial⟩ ?_
          refine pm_Wg.callV (m' := 202) (ix := 368) (rr := 327) (pl := 1896) (b := 64) (As := [.int r1, .int a2]) (S := []) (by decide) rfl (pm_dec tk_X9_tag rfl) rfl rfl (by decide) rfl rfl (by decide) (Nat.le_of_ble_eq_true rfl) rfl (e_X9_tagOf d (by omega) gx gs q _ _ _ _ q12) ?_
          injection H with H
          injection H with H1 H2
          subst H1
          subst H2
          exact pm_Wg.lret (pm_dec tk_X9_tag rfl) rfl
     · rw [if_neg h4] at H
       injection H with H
       injection H with H1 H2
       subst H1
       subst H2
       refine pm_Wg.path (k := 12) (ds := [0, 0]) (f' := (44, [some (.ref 64), some (.int a0), some (.int a1), some (.int a2), some (.int r1)], [.long 0], mo_h gx (mo_i s 2 1) gs q)) tk_X9_tag (by omega) rfl ⟨h4, h3, trivial⟩ ?_
       exact pm_Wg.lret (pm_dec tk_X9_tag rfl) rfl
   · rw [if_neg h3] at H
     cases q14 : f_X9_in s a2 0 2 with
     | none => rw [q14] at H; cases H
     | some r13 =>
      rw [q14] at H
      dsimp only at H
      refine pm_Wg.path (k := 8) (ds := [1]) (f' := (22, [some (.ref 64), some (.int a0), some (.int a1), some (.int a2), some (.int r1)], [.int 2, .int 0, .int a2, .ref 64], mo_h gx s gs q)) tk_X9_tag (by omega) rfl ⟨h3, trivial⟩ ?_
      refine pm_Wg.callS (m' := 147) (ix := 59) (rr := 233) (pl := 1507) (As := [.int a2, .int 0, .int 2]) (S := [.ref 64]) (by decide) rfl (pm_dec tk_X9_tag rfl) rfl rfl rfl (Nat.le_of_ble_eq_true rfl) rfl (e_X9_in d (by omega) gx gs q _ _ _ _ _ q14) ?_
      by_cases h15 : r13 = 0
      · rw [if_pos h15] at H
        by_cases h16 : ((mo_i s 2 2).1 2) = 0
        · rw [if_pos h16] at H
          by_cases h17 : a2 = 0
          · rw [if_pos h17] at H
            cases q21 : f_X9_of (mo_i s 2 2) r1 6 with
            | none => rw [q21] at H; cases H
            | some r20 =>
             rw [q21] at H
             dsimp only at H
             refine pm_Wg.path (k := 11) (ds := [1, 1, 0]) (f' := (54, [some (.ref 64), some (.int a0), some (.int a1), some (.int a2), some (.int r1)], [.int 6, .int r1, .ref 64], mo_h gx (mo_i s 2 2) gs q)) tk_X9_tag (by omega) rfl ⟨h17, h16, h15, trivial⟩ ?_
             refine pm_Wg.callV (m' := 200) (ix := 254) (rr := 285) (pl := 1726) (b := 64) (As := [.int r1, .int 6]) (S := []) (by decide) rfl (pm_dec tk_X9_tag rfl) rfl rfl (by decide) rfl rfl (by decide) (Nat.le_of_ble_eq_true rfl) rfl (e_X9_of d (by omega) gx gs q _ _ _ _ q21) ?_
             by_cases h22 : r20 = 0
             · rw [if_pos h22] at H
               injection H with H
               injection H with H1 H2
               subst H1
               subst H2
               refine pm_Wg.path (k := 3) (ds := [0]) (f' := (73, [some (.ref 64), some (.int a0), some (.int a1), some (.int a2), some (.int r1)], [.long (-1)], mo_h gx (mo_i s 2 2) gs q)) tk_X9_tag (by omega) rfl ⟨h22, trivial⟩ ?_
               exact pm_Wg.lret (pm_dec tk_X9_tag rfl) rfl
             · rw [if_neg h22] at H
               cases q24 : f_X9_tagOf (mo_i s 2 2) r1 a2 with
               | none => rw [q24] at H; cases H
               | some r23 =>
                rw [q24] at H
                dsimp only at H
                refine pm_Wg.path (k := 4) (ds := [1]) (f' := (70, [some (.ref 64), some (.int a0), some (.int a1), some (.int a2), some (.int r1)], [.int a2, .int r1, .ref 64], mo_h gx (mo_i s 2 2) gs q)) tk_X9_tag (by omega) rfl ⟨h22, trivial⟩ ?_
                refine pm_Wg.callV (m' := 202) (ix := 368) (rr := 327) (pl := 1896) (b := 64) (As := [.int r1, .int a2]) (S := []) (by decide) rfl (pm_dec tk_X9_tag rfl) rfl rfl (by decide) rfl rfl (by decide) (Nat.le_of_ble_eq_true rfl) rfl (e_X9_tagOf d (by omega) gx gs q _ _ _ _ q24) ?_
                injection H with H
                injection H with H1 H2
                subst H1
                subst H2
                exact pm_Wg.lret (pm_dec tk_X9_tag rfl) rfl
          · rw [if_neg h17] at H
            cases q26 : f_X9_tagOf (mo_i s 2 2) r1 a2 with
            | none => rw [q26] at H; cases H
            | some r25 =>
             rw [q26] at H
             dsimp only at H
             refine pm_Wg.path (k := 11) (ds := [1, 1, 1]) (f' := (70, [some (.ref 64), some (.int a0), some (.int a1), some (.int a2), some (.int r1)], [.int a2, .int r1, .ref 64], mo_h gx (mo_i s 2 2) gs q)) tk_X9_tag (by omega) rfl ⟨h17, h16, h15, trivial⟩ ?_
             refine pm_Wg.callV (m' := 202) (ix := 368) (rr := 327) (pl := 1896) (b := 64) (As := [.int r1, .int a2]) (S := []) (by decide) rfl (pm_dec tk_X9_tag rfl) rfl rfl (by decide) rfl rfl (by decide) (Nat.le_of_ble_eq_true rfl) rfl (e_X9_tagOf d (by omega) gx gs q _ _ _ _ q26) ?_
             injection H with H
             injection H with H1 H2
             subst H1
             subst H2
             exact pm_Wg.lret (pm_dec tk_X9_tag rfl) rfl
        · rw [if_neg h16] at H
          injection H with H
          injection H with H1 H2
          subst H1
          subst H2
          refine pm_Wg.path (k := 7) (ds := [1, 0]) (f' := (44, [some (.ref 64), some (.int a0), some (.int a1), some (.int a2), some (.int r1)], [.long 0], mo_h gx (mo_i s 2 2) gs q)) tk_X9_tag (by omega) rfl ⟨h16, h15, trivial⟩ ?_
          exact pm_Wg.lret (pm_dec tk_X9_tag rfl) rfl
      · rw [if_neg h15] at H
        by_cases h18 : ((mo_i s 2 0).1 2) = 0
        · rw [if_pos h18] at H
          by_cases h19 : a2 = 0
          · rw [if_pos h19] at H
            cases q28 : f_X9_of (mo_i s 2 0) r1 6 with
            | none => rw [q28] at H; cases H
            | some r27 =>
             rw [q28] at H
             dsimp only at H
             refine pm_Wg.path (k := 12) (ds := [0, 1, 0]) (f' := (54, [some (.ref 64), some (.int a0), some (.int a1), some (.int a2), some (.int r1)], [.int 6, .int r1, .ref 64], mo_h gx (mo_i s 2 0) gs q)) tk_X9_tag (by omega) rfl ⟨h19, h18, h15, trivial⟩ ?_
             refine pm_Wg.callV (m' := 200) (ix := 254) (rr := 285) (pl := 1726) (b := 64) (As := [.int r1, .int 6]) (S := []) (by decide) rfl (pm_dec tk_X9_tag rfl) rfl rfl (by decide) rfl rfl (by decide) (Nat.le_of_ble_eq_true rfl) rfl (e_X9_of d (by omega) gx gs q _ _ _ _ q28) ?_
             by_cases h29 : r27 = 0
             · rw [if_pos h29] at H
               injection H with H
               injection H with H1 H2
               subst H1
               subst H2
               refine pm_Wg.path (k := 3) (ds := [0]) (f' := (73, [some (.ref 64), some (.int a0), some (.int a1), some (.int a2), some (.int r1)], [.long (-1)], mo_h gx (mo_i s 2 0) gs q)) tk_X9_tag (by omega) rfl ⟨h29, trivial⟩ ?_
               exact pm_Wg.lret (pm_dec tk_X9_tag rfl) rfl
             · rw [if_neg h29] at H
               cases q31 : f_X9_tagOf (mo_i s 2 0) r1 a2 with
               | none => rw [q31] at H; cases H
               | some r30 =>
                rw [q31] at H
                dsimp only at H
                refine pm_Wg.path (k := 4) (ds := [1]) (f' := (70, [some (.ref 64), some (.int a0), some (.int a1), some (.int a2), some (.int r1)], [.int a2, .int r1, .ref 64], mo_h gx (mo_i s 2 0) gs q)) tk_X9_tag (by omega) rfl ⟨h29, trivial⟩ ?_
                refine pm_Wg.callV (m' := 202) (ix := 368) (rr := 327) (pl := 1896) (b := 64) (As := [.int r1, .int a2]) (S := []) (by decide) rfl (pm_dec tk_X9_tag rfl) rfl rfl (by decide) rfl rfl (by decide) (Nat.le_of_ble_eq_true rfl) rfl (e_X9_tagOf d (by omega) gx gs q _ _ _ _ q31) ?_
                injection H with H
                injection H with H1 H2
                subst H1
                subst H2
                exact pm_Wg.lret (pm_dec tk_X9_tag rfl) rfl
          · rw [if_neg h19] at H
            cases q33 : f_X9_tagOf (mo_i s 2 0) r1 a2 with
            | none => rw [q33] at H; cases H
            | some r32 =>
             rw [q33] at H
             dsimp only at H
             refine pm_Wg.path (k := 12) (ds := [0, 1, 1]) (f' := (70, [some (.ref 64), some (.int a0), some (.int a1), some (.int a2), some (.int r1)], [.int a2, .int r1, .ref 64], mo_h gx (mo_i s 2 0) gs q)) tk_X9_tag (by omega) rfl ⟨h19, h18, h15, trivial⟩ ?_
             refine pm_Wg.callV (m' := 202) (ix := 368) (rr := 327) (pl := 1896) (b := 64) (As := [.int r1, .int a2]) (S := []) (by decide) rfl (pm_dec tk_X9_tag rfl) rfl rfl (by decide) rfl rfl (by decide) (Nat.le_of_ble_eq_true rfl) rfl (e_X9_tagOf d (by omega) gx gs q _ _ _ _ q33) ?_
             injection H with H
             injection H with H1 H2
             subst H1
             subst H2
             exact pm_Wg.lret (pm_dec tk_X9_tag rfl) rfl
        · rw [if_neg h18] at H
          injection H with H
          injection H with H1 H2
          subst H1
          subst H2
          refine pm_Wg.path (k := 8) (ds := [0, 0]) (f' := (44, [some (.ref 64), some (.int a0), some (.int a1), some (.int a2), some (.int r1)], [.long 0], mo_h gx (mo_i s 2 0) gs q)) tk_X9_tag (by omega) rfl ⟨h18, h15, trivial⟩ ?_
          exact pm_Wg.lret (pm_dec tk_X9_tag rfl) rfl

def f_X9_serving (s : mo_S) (a0 : Int32) : Option (Int32 × mo_S) :=
  (match f_X9_isDisk (mo_i s 2 0) a0 with
  | none => none
  | some r1 =>
   (if r1 = 0 then
    (match f_X9_refuse (mo_i s 2 0) 1 with
    | none => none
    | some (r4, s5) =>
     some (r4, s5))
   else
    (match f_X9_ofDisk (mo_i s 2 0) a0 0 with
    | none => none
    | some r7 =>
     (if r7 = (-1) then
      some ((-1), (mo_i s 2 0))
     else
      (match f_X9_of (mo_i s 2 0) r7 0 with
      | none => none
      | some r12 =>
       some (r12, (mo_i s 2 0)))))))
def tb_X9_serving : List pm_I := [(0, .aload_n 0, 0, 0), (1, .iconst 0, 2, 0), (2, .putfield 45, 161, 0), (5, .aload_n 0, 0, 0), (6, .iload_n 1, 0, 0), (7, .invokevirtual 401, 336, 0), (10, .ifCond .ne 9, 19, 0), (13, .aload_n 0, 0, 0), (14, .iconst 1, 3, 0), (15, .invokevirtual 69, 227, 0), (18, .ireturn, 0, 0), (19, .aload_n 0, 0, 0), (20, .iload_n 1, 0, 0), (21, .iconst 0, 2, 0), (22, .invokevirtual 353, 298, 0), (25, .iconst (-1), 1, 0), (26, .if_icmp .ne 7, 33, 0), (29, .iconst (-1), 1, 0), (30, .goto 14, 44, 0), (33, .aload_n 0, 0, 0), (34, .aload_n 0, 0, 0), (35, .iload_n 1, 0, 0), (36, .iconst 0, 2, 0), (37, .invokevirtual 353, 298, 0), (40, .iconst 0, 2, 0), (41, .invokevirtual 254, 285, 0), (44, .ireturn, 0, 0)]
theorem tk_X9_serving : ∀ e ∈ tb_X9_serving, pm_ck 260 e = true := List.all_eq_true.mp (by decide +kernel)
set_option maxRecDepth 20000 in
set_option maxHeartbeats 20000000 in
theorem e_X9_serving (d : Nat) (hd : 3 ≤ d) (gx : List pm_E) (gs : List (List pm_E)) (q : Nat × Nat × Nat) (s : mo_S) (a0 : Int32) (r : Int32) (s1 : mo_S) (H : f_X9_serving s a0 = some (r, s1)) : pm_Mt 260 d [.ref 64, .int a0] (mo_h gx s gs q) (.inl (some (.int r))) (mo_h gx s1 gs q) := by
  refine pm_Mt.of (by decide) (by decide +kernel) rfl rfl ?_
  obtain ⟨d, rfl⟩ : ∃ d', d = d' + 1 := ⟨d - 1, by omega⟩
  unfold f_X9_serving at H
  cases q2 : f_X9_isDisk (mo_i s 2 0) a0 with
  | none => rw [q2] at H; cases H
  | some r1 =>
   rw [q2] at H
   dsimp only at H
   refine pm_Wg.path (k := 5) (ds := []) (f' := (7, [some (.ref 64), some (.int a0)], [.int a0, .ref 64], mo_h gx (mo_i s 2 0) gs q)) tk_X9_serving (by omega) rfl trivial ?_
   refine pm_Wg.callV (m' := 151) (ix := 401) (rr := 336) (pl := 1932) (b := 64) (As := [.int a0]) (S := []) (by decide) rfl (pm_dec tk_X9_serving rfl) rfl rfl (by decide) rfl rfl (by decide) (Nat.le_of_ble_eq_true rfl) rfl (e_X9_isDisk d (by omega) gx gs q _ _ _ q2) ?_
   by_cases h3 : r1 = 0
   · rw [if_pos h3] at H
     cases q6 : f_X9_refuse (mo_i s 2 0) 1 with
     | none => rw [q6] at H; cases H
     | some w =>
      obtain ⟨r4, s5⟩ := w
      rw [q6] at H
      dsimp only at H
      refine pm_Wg.path (k := 3) (ds := [0]) (f' := (15, [some (.ref 64), some (.int a0)], [.int 1, .ref 64], mo_h gx (mo_i s 2 0) gs q)) tk_X9_serving (by omega) rfl ⟨h3, trivial⟩ ?_
      refine pm_Wg.callV (m' := 145) (ix := 69) (rr := 227) (pl := 1483) (b := 64) (As := [.int 1]) (S := []) (by decide) rfl (pm_dec tk_X9_serving rfl) rfl rfl (by decide) rfl rfl (by decide) (Nat.le_of_ble_eq_true rfl) rfl (e_X9_refuse d (by omega) gx gs q _ _ _ _ q6) ?_
      injection H with H
      injection H with H1 H2
      subst H1
      subst H2
      exact pm_Wg.iret (pm_dec tk_X9_serving rfl) rfl rfl
   · rw [if_neg h3] at H
     cases q8 : f_X9_ofDisk (mo_i s 2 0) a0 0 with
     | none => rw [q8] at H; cases H
     | some r7 =>
      rw [q8] at H
      dsimp only at H
      refine pm_Wg.path (k := 4) (ds := [1]) (f' := (22, [some (.ref 64), some (.int a0)], [.int 0, .int a0, .ref 64], mo_h gx (mo_i s 2 0) gs q)) tk_X9_serving (by omega) rfl ⟨h3, trivial⟩ ?_
      refine pm_Wg.callV (m' := 195) (ix := 353) (rr := 298) (pl := 1780) (b := 64) (As := [.int a0, .int 0]) (S := []) (by decide) rfl (pm_dec tk_X9_serving rfl) rfl rfl (by decide) rfl rfl (by decide) (Nat.le_of_ble_eq_true rfl) rfl (e_X9_ofDisk d (by omega) gx gs q _ _ _ _ q8) ?_
      by_cases h9 : r7 = (-1)
      · rw [if_pos h9] at H
        injection H with H
        injection H with H1 H2
        subst H1
        subst H2
        refine pm_Wg.path (k := 4) (ds := [0]) (f' := (44, [some (.ref 64), some (.int a0)], [.int (-1)], mo_h gx (mo_i s 2 0) gs q)) tk_X9_serving (by omega) rfl ⟨h9, trivial⟩ ?_
        exact pm_Wg.iret (pm_dec tk_X9_serving rfl) rfl rfl
      · rw [if_neg h9] at H
        refine pm_Wg.path (k := 6) (ds := [1]) (f' := (37, [some (.ref 64), some (.int a0)], [.int 0, .int a0, .ref 64, .ref 64], mo_h gx (mo_i s 2 0) gs q)) tk_X9_serving (by omega) rfl ⟨h9, trivial⟩ ?_
        refine pm_Wg.callV (m' := 195) (ix := 353) (rr := 298) (pl := 1780) (b := 64) (As := [.int a0, .int 0]) (S := [.ref 64]) (by decide) rfl (pm_dec tk_X9_serving rfl) rfl rfl (by decide) rfl rfl (by decide) (Nat.le_of_ble_eq_true rfl) rfl (e_X9_ofDisk d (by omega) gx gs q _ _ _ _ q8) ?_
        cases q13 : f_X9_of (mo_i s 2 0) r7 0 with
        | none => rw [q13] at H; cases H
        | some r12 =>
         rw [q13] at H
         dsimp only at H
         refine pm_Wg.path (k := 1) (ds := []) (f' := (41, [some (.ref 64), some (.int a0)], [.int 0, .int r7, .ref 64], mo_h gx (mo_i s 2 0) gs q)) tk_X9_serving (by omega) rfl trivial ?_
         refine pm_Wg.callV (m' := 200) (ix := 254) (rr := 285) (pl := 1726) (b := 64) (As := [.int r7, .int 0]) (S := []) (by decide) rfl (pm_dec tk_X9_serving rfl) rfl rfl (by decide) rfl rfl (by decide) (Nat.le_of_ble_eq_true rfl) rfl (e_X9_of d (by omega) gx gs q _ _ _ _ q13) ?_
         injection H with H
         injection H with H1 H2
         subst H1
         subst H2
         exact pm_Wg.iret (pm_dec tk_X9_serving rfl) rfl rfl

def f_X9_tellDisk (s : mo_S) (a0 : Int32) (a1 : Int32) : Option (Int32 × mo_S) :=
  (match f_X9_isDisk (mo_i s 2 0) a0 with
  | none => none
  | some r1 =>
   (if r1 = 0 then
    (match f_X9_refuse (mo_i s 2 0) 1 with
    | none => none
    | some (r4, s5) =>
     some (r4, s5))
   else
    (match f_X9_ofDisk (mo_i s 2 0) a0 a1 with
    | none => none
    | some r7 =>
     some (r7, (mo_i s 2 0)))))
def tb_X9_tellDisk : List pm_I := [(0, .aload_n 0, 0, 0), (1, .iconst 0, 2, 0), (2, .putfield 45, 161, 0), (5, .aload_n 0, 0, 0), (6, .iload_n 1, 0, 0), (7, .invokevirtual 401, 336, 0), (10, .ifCond .eq 12, 22, 0), (13, .aload_n 0, 0, 0), (14, .iload_n 1, 0, 0), (15, .iload_n 2, 0, 0), (16, .invokevirtual 353, 298, 0), (19, .goto 8, 27, 0), (22, .aload_n 0, 0, 0), (23, .iconst 1, 3, 0), (24, .invokevirtual 69, 227, 0), (27, .ireturn, 0, 0)]
theorem tk_X9_tellDisk : ∀ e ∈ tb_X9_tellDisk, pm_ck 261 e = true := List.all_eq_true.mp (by decide +kernel)
set_option maxRecDepth 20000 in
set_option maxHeartbeats 20000000 in
theorem e_X9_tellDisk (d : Nat) (hd : 3 ≤ d) (gx : List pm_E) (gs : List (List pm_E)) (q : Nat × Nat × Nat) (s : mo_S) (a0 : Int32) (a1 : Int32) (r : Int32) (s1 : mo_S) (H : f_X9_tellDisk s a0 a1 = some (r, s1)) : pm_Mt 261 d [.ref 64, .int a0, .int a1] (mo_h gx s gs q) (.inl (some (.int r))) (mo_h gx s1 gs q) := by
  refine pm_Mt.of (by decide) (by decide +kernel) rfl rfl ?_
  obtain ⟨d, rfl⟩ : ∃ d', d = d' + 1 := ⟨d - 1, by omega⟩
  unfold f_X9_tellDisk at H
  cases q2 : f_X9_isDisk (mo_i s 2 0) a0 with
  | none => rw [q2] at H; cases H
  | some r1 =>
   rw [q2] at H
   dsimp only at H
   refine pm_Wg.path (k := 5) (ds := []) (f' := (7, [some (.ref 64), some (.int a0), some (.int a1)], [.int a0, .ref 64], mo_h gx (mo_i s 2 0) gs q)) tk_X9_tellDisk (by omega) rfl trivial ?_
   refine pm_Wg.callV (m' := 151) (ix := 401) (rr := 336) (pl := 1932) (b := 64) (As := [.int a0]) (S := []) (by decide) rfl (pm_dec tk_X9_tellDisk rfl) rfl rfl (by decide) rfl rfl (by decide) (Nat.le_of_ble_eq_true rfl) rfl (e_X9_isDisk d (by omega) gx gs q _ _ _ q2) ?_
   by_cases h3 : r1 = 0
   · rw [if_pos h3] at H
     cases q6 : f_X9_refuse (mo_i s 2 0) 1 with
     | none => rw [q6] at H; cases H
     | some w =>
      obtain ⟨r4, s5⟩ := w
      rw [q6] at H
      dsimp only at H
      refine pm_Wg.path (k := 3) (ds := [1]) (f' := (24, [some (.ref 64), some (.int a0), some (.int a1)], [.int 1, .ref 64], mo_h gx (mo_i s 2 0) gs q)) tk_X9_tellDisk (by omega) rfl ⟨h3, trivial⟩ ?_
      refine pm_Wg.callV (m' := 145) (ix := 69) (rr := 227) (pl := 1483) (b := 64) (As := [.int 1]) (S := []) (by decide) rfl (pm_dec tk_X9_tellDisk rfl) rfl rfl (by decide) rfl rfl (by decide) (Nat.le_of_ble_eq_true rfl) rfl (e_X9_refuse d (by omega) gx gs q _ _ _ _ q6) ?_
      injection H with H
      injection H with H1 H2
      subst H1
      subst H2
      exact pm_Wg.iret (pm_dec tk_X9_tellDisk rfl) rfl rfl
   · rw [if_neg h3] at H
     cases q8 : f_X9_ofDisk (mo_i s 2 0) a0 a1 with
     | none => rw [q8] at H; cases H
     | some r7 =>
      rw [q8] at H
      dsimp only at H
      refine pm_Wg.path (k := 4) (ds := [0]) (f' := (16, [some (.ref 64), some (.int a0), some (.int a1)], [.int a1, .int a0, .ref 64], mo_h gx (mo_i s 2 0) gs q)) tk_X9_tellDisk (by omega) rfl ⟨h3, trivial⟩ ?_
      refine pm_Wg.callV (m' := 195) (ix := 353) (rr := 298) (pl := 1780) (b := 64) (As := [.int a0, .int a1]) (S := []) (by decide) rfl (pm_dec tk_X9_tellDisk rfl) rfl rfl (by decide) rfl rfl (by decide) (Nat.le_of_ble_eq_true rfl) rfl (e_X9_ofDisk d (by omega) gx gs q _ _ _ _ q8) ?_
      injection H with H
      injection H with H1 H2
      subst H1
      subst H2
      refine pm_Wg.path (k := 1) (ds := []) (f' := (27, [some (.ref 64), some (.int a0), some (.int a1)], [.int r7], mo_h gx (mo_i s 2 0) gs q)) tk_X9_tellDisk (by omega) rfl trivial ?_
      exact pm_Wg.iret (pm_dec tk_X9_tellDisk rfl) rfl rfl

def f_X9_busyUntil (s : mo_S) (a0 : Int32) : Option (Int32 × mo_S) :=
  (match f_X9_tellDisk s a0 1 with
  | none => none
  | some (r1, s2) =>
   some (r1, s2))
def tb_X9_busyUntil : List pm_I := [(0, .aload_n 0, 0, 0), (1, .iload_n 1, 0, 0), (2, .iconst 1, 3, 0), (3, .invokevirtual 409, 341, 0), (6, .ireturn, 0, 0)]
theorem tk_X9_busyUntil : ∀ e ∈ tb_X9_busyUntil, pm_ck 262 e = true := List.all_eq_true.mp (by decide +kernel)
set_option maxRecDepth 20000 in
set_option maxHeartbeats 20000000 in
theorem e_X9_busyUntil (d : Nat) (hd : 4 ≤ d) (gx : List pm_E) (gs : List (List pm_E)) (q : Nat × Nat × Nat) (s : mo_S) (a0 : Int32) (r : Int32) (s1 : mo_S) (H : f_X9_busyUntil s a0 = some (r, s1)) : pm_Mt 262 d [.ref 64, .int a0] (mo_h gx s gs q) (.inl (some (.int r))) (mo_h gx s1 gs q) := by
  refine pm_Mt.of (by decide) (by decide +kernel) rfl rfl ?_
  obtain ⟨d, rfl⟩ : ∃ d', d = d' + 1 := ⟨d - 1, by omega⟩
  unfold f_X9_busyUntil at H
  cases q3 : f_X9_tellDisk s a0 1 with
  | none => rw [q3] at H; cases H
  | some w =>
   obtain ⟨r1, s2⟩ := w
   rw [q3] at H
   dsimp only at H
   refine pm_Wg.path (k := 3) (ds := []) (f' := (3, [some (.ref 64), some (.int a0)], [.int 1, .int a0, .ref 64], mo_h gx s gs q)) tk_X9_busyUntil (by omega) rfl trivial ?_
   refine pm_Wg.callV (m' := 261) (ix := 409) (rr := 341) (pl := 1953) (b := 64) (As := [.int a0, .int 1]) (S := []) (by decide) rfl (pm_dec tk_X9_busyUntil rfl) rfl rfl (by decide) rfl rfl (by decide) (Nat.le_of_ble_eq_true rfl) rfl (e_X9_tellDisk d (by omega) gx gs q _ _ _ _ _ q3) ?_
   injection H with H
   injection H with H1 H2
   subst H1
   subst H2
   exact pm_Wg.iret (pm_dec tk_X9_busyUntil rfl) rfl rfl

def f_X9_position (s : mo_S) (a0 : Int32) : Option (Int32 × mo_S) :=
  (match f_X9_tellDisk s a0 2 with
  | none => none
  | some (r1, s2) =>
   some (r1, s2))
def tb_X9_position : List pm_I := [(0, .aload_n 0, 0, 0), (1, .iload_n 1, 0, 0), (2, .iconst 2, 4, 0), (3, .invokevirtual 409, 341, 0), (6, .ireturn, 0, 0)]
theorem tk_X9_position : ∀ e ∈ tb_X9_position, pm_ck 263 e = true := List.all_eq_true.mp (by decide +kernel)
set_option maxRecDepth 20000 in
set_option maxHeartbeats 20000000 in
theorem e_X9_position (d : Nat) (hd : 4 ≤ d) (gx : List pm_E) (gs : List (List pm_E)) (q : Nat × Nat × Nat) (s : mo_S) (a0 : Int32) (r : Int32) (s1 : mo_S) (H : f_X9_position s a0 = some (r, s1)) : pm_Mt 263 d [.ref 64, .int a0] (mo_h gx s gs q) (.inl (some (.int r))) (mo_h gx s1 gs q) := by
  refine pm_Mt.of (by decide) (by decide +kernel) rfl rfl ?_
  obtain ⟨d, rfl⟩ : ∃ d', d = d' + 1 := ⟨d - 1, by omega⟩
  unfold f_X9_position at H
  cases q3 : f_X9_tellDisk s a0 2 with
  | none => rw [q3] at H; cases H
  | some w =>
   obtain ⟨r1, s2⟩ := w
   rw [q3] at H
   dsimp only at H
   refine pm_Wg.path (k := 3) (ds := []) (f' := (3, [some (.ref 64), some (.int a0)], [.int 2, .int a0, .ref 64], mo_h gx s gs q)) tk_X9_position (by omega) rfl trivial ?_
   refine pm_Wg.callV (m' := 261) (ix := 409) (rr := 341) (pl := 1953) (b := 64) (As := [.int a0, .int 2]) (S := []) (by decide) rfl (pm_dec tk_X9_position rfl) rfl rfl (by decide) rfl rfl (by decide) (Nat.le_of_ble_eq_true rfl) rfl (e_X9_tellDisk d (by omega) gx gs q _ _ _ _ _ q3) ?_
   injection H with H
   injection H with H1 H2
   subst H1
   subst H2
   exact pm_Wg.iret (pm_dec tk_X9_position rfl) rfl rfl

def f_X9_busyTime (s : mo_S) (a0 : Int32) : Option (Int32 × mo_S) :=
  (match f_X9_tellDisk s a0 3 with
  | none => none
  | some (r1, s2) =>
   some (r1, s2))
def tb_X9_busyTime : List pm_I := [(0, .aload_n 0, 0, 0), (1, .iload_n 1, 0, 0), (2, .iconst 3, 5, 0), (3, .invokevirtual 409, 341, 0), (6, .ireturn, 0, 0)]
theorem tk_X9_busyTime : ∀ e ∈ tb_X9_busyTime, pm_ck 264 e = true := List.all_eq_true.mp (by decide +kernel)
set_option maxRecDepth 20000 in
set_option maxHeartbeats 20000000 in
theorem e_X9_busyTime (d : Nat) (hd : 4 ≤ d) (gx : List pm_E) (gs : List (List pm_E)) (q : Nat × Nat × Nat) (s : mo_S) (a0 : Int32) (r : Int32) (s1 : mo_S) (H : f_X9_busyTime s a0 = some (r, s1)) : pm_Mt 264 d [.ref 64, .int a0] (mo_h gx s gs q) (.inl (some (.int r))) (mo_h gx s1 gs q) := by
  refine pm_Mt.of (by decide) (by decide +kernel) rfl rfl ?_
  obtain ⟨d, rfl⟩ : ∃ d', d = d' + 1 := ⟨d - 1, by omega⟩
  unfold f_X9_busyTime at H
  cases q3 : f_X9_tellDisk s a0 3 with
  | none => rw [q3] at H; cases H
  | some w =>
   obtain ⟨r1, s2⟩ := w
   rw [q3] at H
   dsimp only at H
   refine pm_Wg.path (k := 3) (ds := []) (f' := (3, [some (.ref 64), some (.int a0)], [.int 3, .int a0, .ref 64], mo_h gx s gs q)) tk_X9_busyTime (by omega) rfl trivial ?_
   refine pm_Wg.callV (m' := 261) (ix := 409) (rr := 341) (pl := 1953) (b := 64) (As := [.int a0, .int 3]) (S := []) (by decide) rfl (pm_dec tk_X9_busyTime rfl) rfl rfl (by decide) rfl rfl (by decide) (Nat.le_of_ble_eq_true rfl) rfl (e_X9_tellDisk d (by omega) gx gs q _ _ _ _ _ q3) ?_
   injection H with H
   injection H with H1 H2
   subst H1
   subst H2
   exact pm_Wg.iret (pm_dec tk_X9_busyTime rfl) rfl rfl

def f_X9_down (s : mo_S) (a0 : Int64) (a1 : Int64) : Option Int64 :=
  (if a1 = 0 then none else
  (if 0 ≤ (lg_cmp (a0 - a0 / a1 * a1) 0) then
   some (a0 / a1)
  else
   some ((a0 / a1) - 1)))
def tb_X9_down : List pm_I := [(0, .lload_n 0, 0, 0), (1, .lload_n 2, 0, 0), (2, .ldiv, 0, 0), (3, .lstore 4, 0, 0), (5, .lload_n 0, 0, 0), (6, .lload_n 2, 0, 0), (7, .lrem, 0, 0), (8, .lconst 0, 0, 0), (9, .lcmp, 0, 0), (10, .ifCond .ge 10, 20, 0), (13, .lload 4, 0, 0), (15, .lconst 1, 1, 0), (16, .lsub, 0, 0), (17, .goto 5, 22, 0), (20, .lload 4, 0, 0), (22, .lreturn, 0, 0)]
theorem tk_X9_down : ∀ e ∈ tb_X9_down, pm_ck 265 e = true := List.all_eq_true.mp (by decide +kernel)
set_option maxRecDepth 20000 in
set_option maxHeartbeats 20000000 in
theorem e_X9_down (d : Nat) (hd : 1 ≤ d) (gx : List pm_E) (gs : List (List pm_E)) (q : Nat × Nat × Nat) (s : mo_S) (a0 : Int64) (a1 : Int64) (r : Int64) (H : f_X9_down s a0 a1 = some r) : pm_Mt 265 d [.long a0, .long a1] (mo_h gx s gs q) (.inl (some (.long r))) (mo_h gx s gs q) := by
  refine pm_Mt.of (by decide) (by decide +kernel) rfl rfl ?_
  unfold f_X9_down at H
  by_cases b1 : a1 = 0
  · rw [if_pos b1] at H; cases H
  rw [if_neg b1] at H
  by_cases h3 : 0 ≤ (lg_cmp (a0 - a0 / a1 * a1) 0)
  · rw [if_pos h3] at H
    have H1 := Option.some.inj H
    subst H1
    refine pm_Wg.path (k := 11) (ds := [1]) (f' := (22, [some (.long a0), none, some (.long a1), none, some (.long (a0 / a1)), none], [.long (a0 / a1)], mo_h gx s gs q)) tk_X9_down (by omega) rfl ⟨h3, b1, b1, trivial⟩ ?_
    exact pm_Wg.lret (pm_dec tk_X9_down rfl) rfl
  · rw [if_neg h3] at H
    have H1 := Option.some.inj H
    subst H1
    refine pm_Wg.path (k := 14) (ds := [0]) (f' := (22, [some (.long a0), none, some (.long a1), none, some (.long (a0 / a1)), none], [.long ((a0 / a1) - 1)], mo_h gx s gs q)) tk_X9_down (by omega) rfl ⟨h3, b1, b1, trivial⟩ ?_
    exact pm_Wg.lret (pm_dec tk_X9_down rfl) rfl

def f_X9_behind (s : mo_S) (a0 : Int32) (a1 : Int32) : Option (Int32 × mo_S) :=
  (match f_X9_isDisk s a0 with
  | none => none
  | some r1 =>
   (if r1 = 0 then
    (match f_X9_firstOf (mo_i s 2 1) a0 a1 with
    | none => none
    | some r4 =>
     (if r4 = (-1) then
      some (0, (mo_i s 2 1))
     else
      (match f_X9_of (mo_i s 2 1) r4 6 with
      | none => none
      | some r7 =>
       (if r7 = 0 then
        some (0, (mo_i s 2 1))
       else
        (match pm_inb 0 18186 with
        | false => none
        | true =>
        (match f_X9_tagOf (mo_i s 2 1) r4 0 with
        | none => none
        | some r11 =>
         (match f_X9_down (mo_i s 2 1) r11 1000 with
         | none => none
         | some r13 =>
          (if (lg_cmp ((Int32.toInt64 ((mo_i s 2 1).2.2.1 3 (Int32.toNatClampNeg 0))) - r13) 0) ≤ 0 then
           some (0, (mo_i s 2 1))
          else
           some ((Int64.toInt32 ((Int32.toInt64 ((mo_i s 2 1).2.2.1 3 (Int32.toNatClampNeg 0))) - r13)), (mo_i s 2 1))))))))))
   else
    (match f_X9_isTenant s a1 with
    | none => none
    | some r16 =>
     (if r16 = 0 then
      (match f_X9_firstOf (mo_i s 2 1) a0 a1 with
      | none => none
      | some r19 =>
       (if r19 = (-1) then
        some (0, (mo_i s 2 1))
       else
        (match f_X9_of (mo_i s 2 1) r19 6 with
        | none => none
        | some r22 =>
         (if r22 = 0 then
          some (0, (mo_i s 2 1))
         else
          (match pm_inb 0 18186 with
          | false => none
          | true =>
          (match f_X9_tagOf (mo_i s 2 1) r19 0 with
          | none => none
          | some r26 =>
           (match f_X9_down (mo_i s 2 1) r26 1000 with
           | none => none
           | some r28 =>
            (if (lg_cmp ((Int32.toInt64 ((mo_i s 2 1).2.2.1 3 (Int32.toNatClampNeg 0))) - r28) 0) ≤ 0 then
             some (0, (mo_i s 2 1))
            else
             some ((Int64.toInt32 ((Int32.toInt64 ((mo_i s 2 1).2.2.1 3 (Int32.toNatClampNeg 0))) - r28)), (mo_i s 2 1))))))))))
     else
      (match f_X9_firstOf (mo_i s 2 0) a0 a1 with
      | none => none
      | some r31 =>
       (if r31 = (-1) then
        some (0, (mo_i s 2 0))
       else
        (match f_X9_of (mo_i s 2 0) r31 6 with
        | none => none
        | some r34 =>
         (if r34 = 0 then
          some (0, (mo_i s 2 0))
         else
          (match pm_inb 0 18186 with
          | false => none
          | true =>
          (match f_X9_tagOf (mo_i s 2 0) r31 0 with
          | none => none
          | some r38 =>
           (match f_X9_down (mo_i s 2 0) r38 1000 with
           | none => none
           | some r40 =>
            (if (lg_cmp ((Int32.toInt64 ((mo_i s 2 0).2.2.1 3 (Int32.toNatClampNeg 0))) - r40) 0) ≤ 0 then
             some (0, (mo_i s 2 0))
            else
             some ((Int64.toInt32 ((Int32.toInt64 ((mo_i s 2 0).2.2.1 3 (Int32.toNatClampNeg 0))) - r40)), (mo_i s 2 0))))))))))))))
def tb_X9_behind : List pm_I := [(0, .aload_n 0, 0, 0), (1, .aload_n 0, 0, 0), (2, .iload_n 1, 0, 0), (3, .invokevirtual 401, 336, 0), (6, .ifCond .eq 15, 21, 0), (9, .aload_n 0, 0, 0), (10, .iload_n 2, 0, 0), (11, .invokevirtual 218, 271, 0), (14, .ifCond .eq 7, 21, 0), (17, .iconst 0, 2, 0), (18, .goto 4, 22, 0), (21, .iconst 1, 3, 0), (22, .putfield 45, 161, 0), (25, .aload_n 0, 0, 0), (26, .iload_n 1, 0, 0), (27, .iload_n 2, 0, 0), (28, .invokevirtual 404, 338, 0), (31, .istore_n 3, 0, 0), (32, .iload_n 3, 0, 0), (33, .iconst (-1), 1, 0), (34, .if_icmp .eq 13, 47, 0), (37, .aload_n 0, 0, 0), (38, .iload_n 3, 0, 0), (39, .bipush 6, 8, 0), (41, .invokevirtual 254, 285, 0), (44, .ifCond .ne 5, 49, 0), (47, .iconst 0, 2, 0), (48, .ireturn, 0, 0), (49, .aload_n 0, 0, 0), (50, .getfield 16, 162, 0), (53, .iconst 0, 2, 0), (54, .iaload, 0, 0), (55, .i2l, 0, 0), (56, .aload_n 0, 0, 0), (57, .iload_n 3, 0, 0), (58, .iconst 0, 2, 0), (59, .invokevirtual 368, 327, 0), (62, .ldc2_w 225, 21, 0), (65, .invokestatic 412, 345, 0), (68, .lsub, 0, 0), (69, .lstore 4, 0, 0), (71, .lload 4, 0, 0), (73, .lconst 0, 0, 0), (74, .lcmp, 0, 0), (75, .ifCond .le 9, 84, 0), (78, .lload 4, 0, 0), (80, .l2i, 0, 0), (81, .goto 4, 85, 0), (84, .iconst 0, 2, 0), (85, .ireturn, 0, 0)]
theorem tk_X9_behind : ∀ e ∈ tb_X9_behind, pm_ck 266 e = true := List.all_eq_true.mp (by decide +kernel)
set_option maxRecDepth 20000 in
set_option maxHeartbeats 20000000 in
theorem e_X9_behind (d : Nat) (hd : 4 ≤ d) (gx : List pm_E) (gs : List (List pm_E)) (q : Nat × Nat × Nat) (s : mo_S) (a0 : Int32) (a1 : Int32) (r : Int32) (s1 : mo_S) (H : f_X9_behind s a0 a1 = some (r, s1)) : pm_Mt 266 d [.ref 64, .int a0, .int a1] (mo_h gx s gs q) (.inl (some (.int r))) (mo_h gx s1 gs q) := by
  refine pm_Mt.of (by decide) (by decide +kernel) rfl rfl ?_
  obtain ⟨d, rfl⟩ : ∃ d', d = d' + 1 := ⟨d - 1, by omega⟩
  unfold f_X9_behind at H
  cases q2 : f_X9_isDisk s a0 with
  | none => rw [q2] at H; cases H
  | some r1 =>
   rw [q2] at H
   dsimp only at H
   refine pm_Wg.path (k := 3) (ds := []) (f' := (3, [some (.ref 64), some (.int a0), some (.int a1), none, none, none], [.int a0, .ref 64, .ref 64], mo_h gx s gs q)) tk_X9_behind (by omega) rfl trivial ?_
   refine pm_Wg.callV (m' := 151) (ix := 401) (rr := 336) (pl := 1932) (b := 64) (As := [.int a0]) (S := [.ref 64]) (by decide) rfl (pm_dec tk_X9_behind rfl) rfl rfl (by decide) rfl rfl (by decide) (Nat.le_of_ble_eq_true rfl) rfl (e_X9_isDisk d (by omega) gx gs q _ _ _ q2) ?_
   by_cases h3 : r1 = 0
   · rw [if_pos h3] at H
     cases q5 : f_X9_firstOf (mo_i s 2 1) a0 a1 with
     | none => rw [q5] at H; cases H
     | some r4 =>
      rw [q5] at H
      dsimp only at H
      refine pm_Wg.path (k := 6) (ds := [1]) (f' := (28, [some (.ref 64), some (.int a0), some (.int a1), none, none, none], [.int a1, .int a0, .ref 64], mo_h gx (mo_i s 2 1) gs q)) tk_X9_behind (by omega) rfl ⟨h3, trivial⟩ ?_
      refine pm_Wg.callV (m' := 258) (ix := 404) (rr := 338) (pl := 1940) (b := 64) (As := [.int a0, .int a1]) (S := []) (by decide) rfl (pm_dec tk_X9_behind rfl) rfl rfl (by decide) rfl rfl (by decide) (Nat.le_of_ble_eq_true rfl) rfl (e_X9_firstOf d (by omega) gx gs q _ _ _ _ q5) ?_
      by_cases h6 : r4 = (-1)
      · rw [if_pos h6] at H
        injection H with H
        injection H with H1 H2
        subst H1
        subst H2
        refine pm_Wg.path (k := 5) (ds := [1]) (f' := (48, [some (.ref 64), some (.int a0), some (.int a1), some (.int r4), none, none], [.int 0], mo_h gx (mo_i s 2 1) gs q)) tk_X9_behind (by omega) rfl ⟨h6, trivial⟩ ?_
        exact pm_Wg.iret (pm_dec tk_X9_behind rfl) rfl rfl
      · rw [if_neg h6] at H
        cases q8 : f_X9_of (mo_i s 2 1) r4 6 with
        | none => rw [q8] at H; cases H
        | some r7 =>
         rw [q8] at H
         dsimp only at H
         refine pm_Wg.path (k := 7) (ds := [0]) (f' := (41, [some (.ref 64), some (.int a0), some (.int a1), some (.int r4), none, none], [.int 6, .int r4, .ref 64], mo_h gx (mo_i s 2 1) gs q)) tk_X9_behind (by omega) rfl ⟨h6, trivial⟩ ?_
         refine pm_Wg.callV (m' := 200) (ix := 254) (rr := 285) (pl := 1726) (b := 64) (As := [.int r4, .int 6]) (S := []) (by decide) rfl (pm_dec tk_X9_behind rfl) rfl rfl (by decide) rfl rfl (by decide) (Nat.le_of_ble_eq_true rfl) rfl (e_X9_of d (by omega) gx gs q _ _ _ _ q8) ?_
         by_cases h9 : r7 = 0
         · rw [if_pos h9] at H
           injection H with H
           injection H with H1 H2
           subst H1
           subst H2
           refine pm_Wg.path (k := 2) (ds := [0]) (f' := (48, [some (.ref 64), some (.int a0), some (.int a1), some (.int r4), none, none], [.int 0], mo_h gx (mo_i s 2 1) gs q)) tk_X9_behind (by omega) rfl ⟨h9, trivial⟩ ?_
           exact pm_Wg.iret (pm_dec tk_X9_behind rfl) rfl rfl
         · rw [if_neg h9] at H
           cases b10 : pm_inb 0 18186 with
           | false => rw [b10] at H; cases H
           | true =>
            rw [b10] at H
            dsimp only at H
            cases q12 : f_X9_tagOf (mo_i s 2 1) r4 0 with
            | none => rw [q12] at H; cases H
            | some r11 =>
             rw [q12] at H
             dsimp only at H
             refine pm_Wg.path (k := 9) (ds := [1]) (f' := (59, [some (.ref 64), some (.int a0), some (.int a1), some (.int r4), none, none], [.int 0, .int r4, .ref 64, .long (Int32.toInt64 ((mo_i s 2 1).2.2.1 3 (Int32.toNatClampNeg 0)))], mo_h gx (mo_i s 2 1) gs q)) tk_X9_behind (by omega) rfl ⟨pm_inb_vp b10, h9, trivial⟩ ?_
             refine pm_Wg.callV (m' := 202) (ix := 368) (rr := 327) (pl := 1896) (b := 64) (As := [.int r4, .int 0]) (S := [.long (Int32.toInt64 ((mo_i s 2 1).2.2.1 3 (Int32.toNatClampNeg 0)))]) (by decide) rfl (pm_dec tk_X9_behind rfl) rfl rfl (by decide) rfl rfl (by decide) (Nat.le_of_ble_eq_true rfl) rfl (e_X9_tagOf d (by omega) gx gs q _ _ _ _ q12) ?_
             cases q14 : f_X9_down (mo_i s 2 1) r11 1000 with
             | none => rw [q14] at H; cases H
             | some r13 =>
              rw [q14] at H
              dsimp only at H
              refine pm_Wg.path (k := 1) (ds := []) (f' := (65, [some (.ref 64), some (.int a0), some (.int a1), some (.int r4), none, none], [.long 1000, .long r11, .long (Int32.toInt64 ((mo_i s 2 1).2.2.1 3 (Int32.toNatClampNeg 0)))], mo_h gx (mo_i s 2 1) gs q)) tk_X9_behind (by omega) rfl trivial ?_
              refine pm_Wg.callS (m' := 265) (ix := 412) (rr := 345) (pl := 1969) (As := [.long r11, .long 1000]) (S := [.long (Int32.toInt64 ((mo_i s 2 1).2.2.1 3 (Int32.toNatClampNeg 0)))]) (by decide) rfl (pm_dec tk_X9_behind rfl) rfl rfl rfl (Nat.le_of_ble_eq_true rfl) rfl (e_X9_down d (by omega) gx gs q _ _ _ _ q14) ?_
              by_cases h15 : (lg_cmp ((Int32.toInt64 ((mo_i s 2 1).2.2.1 3 (Int32.toNatClampNeg 0))) - r13) 0) ≤ 0
              · rw [if_pos h15] at H
                injection H with H
                injection H with H1 H2
                subst H1
                subst H2
                refine pm_Wg.path (k := 7) (ds := [1]) (f' := (85, [some (.ref 64), some (.int a0), some (.int a1), some (.int r4), some (.long ((Int32.toInt64 ((mo_i s 2 1).2.2.1 3 (Int32.toNatClampNeg 0))) - r13)), none], [.int 0], mo_h gx (mo_i s 2 1) gs q)) tk_X9_behind (by omega) rfl ⟨h15, trivial⟩ ?_
                exact pm_Wg.iret (pm_dec tk_X9_behind rfl) rfl rfl
              · rw [if_neg h15] at H
                injection H with H
                injection H with H1 H2
                subst H1
                subst H2
                refine pm_Wg.path (k := 9) (ds := [0]) (f' := (85, [some (.ref 64), some (.int a0), some (.int a1), some (.int r4), some (.long ((Int32.toInt64 ((mo_i s 2 1).2.2.1 3 (Int32.toNatClampNeg 0))) - r13)), none], [.int (Int64.toInt32 ((Int32.toInt64 ((mo_i s 2 1).2.2.1 3 (Int32.toNatClampNeg 0))) - r13))], mo_h gx (mo_i s 2 1) gs q)) tk_X9_behind (by omega) rfl ⟨h15, trivial⟩ ?_
                exact pm_Wg.iret (pm_dec tk_X9_behind rfl) rfl rfl
   · rw [if_neg h3] at H
     cases q17 : f_X9_isTenant s a1 with
     | none => rw [q17] at H; cases H
     | some r16 =>
      rw [q17] at H
      dsimp only at H
      refine pm_Wg.path (k := 3) (ds := [0]) (f' := (11, [some (.ref 64), some (.int a0), some (.int a1), none, none, none], [.int a1, .ref 64, .ref 64], mo_h gx s gs q)) tk_X9_behind (by omega) rfl ⟨h3, trivial⟩ ?_
      refine pm_Wg.callV (m' := 153) (ix := 218) (rr := 271) (pl := 1671) (b := 64) (As := [.int a1]) (S := [.ref 64]) (by decide) rfl (pm_dec tk_X9_behind rfl) rfl rfl (by decide) rfl rfl (by decide) (Nat.le_of_ble_eq_true rfl) rfl (e_X9_isTenant d (by omega) gx gs q _ _ _ q17) ?_
      by_cases h18 : r16 = 0
      · rw [if_pos h18] at H
        cases q20 : f_X9_firstOf (mo_i s 2 1) a0 a1 with
        | none => rw [q20] at H; cases H
        | some r19 =>
         rw [q20] at H
         dsimp only at H
         refine pm_Wg.path (k := 6) (ds := [1]) (f' := (28, [some (.ref 64), some (.int a0), some (.int a1), none, none, none], [.int a1, .int a0, .ref 64], mo_h gx (mo_i s 2 1) gs q)) tk_X9_behind (by omega) rfl ⟨h18, trivial⟩ ?_
         refine pm_Wg.callV (m' := 258) (ix := 404) (rr := 338) (pl := 1940) (b := 64) (As := [.int a0, .int a1]) (S := []) (by decide) rfl (pm_dec tk_X9_behind rfl) rfl rfl (by decide) rfl rfl (by decide) (Nat.le_of_ble_eq_true rfl) rfl (e_X9_firstOf d (by omega) gx gs q _ _ _ _ q20) ?_
         by_cases h21 : r19 = (-1)
         · rw [if_pos h21] at H
           injection H with H
           injection H with H1 H2
           subst H1
           subst H2
           refine pm_Wg.path (k := 5) (ds := [1]) (f' := (48, [some (.ref 64), some (.int a0), some (.int a1), some (.int r19), none, none], [.int 0], mo_h gx (mo_i s 2 1) gs q)) tk_X9_behind (by omega) rfl ⟨h21, trivial⟩ ?_
           exact pm_Wg.iret (pm_dec tk_X9_behind rfl) rfl rfl
         · rw [if_neg h21] at H
           cases q23 : f_X9_of (mo_i s 2 1) r19 6 with
           | none => rw [q23] at H; cases H
           | some r22 =>
            rw [q23] at H
            dsimp only at H
            refine pm_Wg.path (k := 7) (ds := [0]) (f' := (41, [some (.ref 64), some (.int a0), some (.int a1), some (.int r19), none, none], [.int 6, .int r19, .ref 64], mo_h gx (mo_i s 2 1) gs q)) tk_X9_behind (by omega) rfl ⟨h21, trivial⟩ ?_
            refine pm_Wg.callV (m' := 200) (ix := 254) (rr := 285) (pl := 1726) (b := 64) (As := [.int r19, .int 6]) (S := []) (by decide) rfl (pm_dec tk_X9_behind rfl) rfl rfl (by decide) rfl rfl (by decide) (Nat.le_of_ble_eq_true rfl) rfl (e_X9_of d (by omega) gx gs q _ _ _ _ q23) ?_
            by_cases h24 : r22 = 0
            · rw [if_pos h24] at H
              injection H with H
              injection H with H1 H2
              subst H1
              subst H2
              refine pm_Wg.path (k := 2) (ds := [0]) (f' := (48, [some (.ref 64), some (.int a0), some (.int a1), some (.int r19), none, none], [.int 0], mo_h gx (mo_i s 2 1) gs q)) tk_X9_behind (by omega) rfl ⟨h24, trivial⟩ ?_
              exact pm_Wg.iret (pm_dec tk_X9_behind rfl) rfl rfl
            · rw [if_neg h24] at H
              cases b25 : pm_inb 0 18186 with
              | false => rw [b25] at H; cases H
              | true =>
               rw [b25] at H
               dsimp only at H
               cases q27 : f_X9_tagOf (mo_i s 2 1) r19 0 with
               | none => rw [q27] at H; cases H
               | some r26 =>
                rw [q27] at H
                dsimp only at H
                refine pm_Wg.path (k := 9) (ds := [1]) (f' := (59, [some (.ref 64), some (.int a0), some (.int a1), some (.int r19), none, none], [.int 0, .int r19, .ref 64, .long (Int32.toInt64 ((mo_i s 2 1).2.2.1 3 (Int32.toNatClampNeg 0)))], mo_h gx (mo_i s 2 1) gs q)) tk_X9_behind (by omega) rfl ⟨pm_inb_vp b25, h24, trivial⟩ ?_
                refine pm_Wg.callV (m' := 202) (ix := 368) (rr := 327) (pl := 1896) (b := 64) (As := [.int r19, .int 0]) (S := [.long (Int32.toInt64 ((mo_i s 2 1).2.2.1 3 (Int32.toNatClampNeg 0)))]) (by decide) rfl (pm_dec tk_X9_behind rfl) rfl rfl (by decide) rfl rfl (by decide) (Nat.le_of_ble_eq_true rfl) rfl (e_X9_tagOf d (by omega) gx gs q _ _ _ _ q27) ?_
                cases q29 : f_X9_down (mo_i s 2 1) r26 1000 with
                | none => rw [q29] at H; cases H
                | some r28 =>
                 rw [q29] at H
                 dsimp only at H
                 refine pm_Wg.path (k := 1) (ds := []) (f' := (65, [some (.ref 64), some (.int a0), some (.int a1), some (.int r19), none, none], [.long 1000, .long r26, .long (Int32.toInt64 ((mo_i s 2 1).2.2.1 3 (Int32.toNatClampNeg 0)))], mo_h gx (mo_i s 2 1) gs q)) tk_X9_behind (by omega) rfl trivial ?_
                 refine pm_Wg.callS (m' := 265) (ix := 412) (rr := 345) (pl := 1969) (As := [.long r26, .long 1000]) (S := [.long (Int32.toInt64 ((mo_i s 2 1).2.2.1 3 (Int32.toNatClampNeg 0)))]) (by decide) rfl (pm_dec tk_X9_behind rfl) rfl rfl rfl (Nat.le_of_ble_eq_true rfl) rfl (e_X9_down d (by omega) gx gs q _ _ _ _ q29) ?_
                 by_cases h30 : (lg_cmp ((Int32.toInt64 ((mo_i s 2 1).2.2.1 3 (Int32.toNatClampNeg 0))) - r28) 0) ≤ 0
                 · rw [if_pos h30] at H
                   injection H with H
                   injection H with H1 H2
                   subst H1
                   subst H2
                   refine pm_Wg.path (k := 7) (ds := [1]) (f' := (85, [some (.ref 64), some (.int a0), some (.int a1), some (.int r19), some (.long ((Int32.toInt64 ((mo_i s 2 1).2.2.1 3 (Int32.toNatClampNeg 0))) - r28)), none], [.int 0], mo_h gx (mo_i s 2 1) gs q)) tk_X9_behind (by omega) rfl ⟨h30, trivial⟩ ?_
                   exact pm_Wg.iret (pm_dec tk_X9_behind rfl) rfl rfl
                 · rw [if_neg h30] at H
                   injection H with H
                   injection H with H1 H2
                   subst H1
                   subst H2
                   refine pm_Wg.path (k := 9) (ds := [0]) (f' := (85, [some (.ref 64), some (.int a0), some (.int a1), some (.int r19), some (.long ((Int32.toInt64 ((mo_i s 2 1).2.2.1 3 (Int32.toNatClampNeg 0))) - r28)), none], [.int (Int64.toInt32 ((Int32.toInt64 ((mo_i s 2 1).2.2.1 3 (Int32.toNatClampNeg 0))) - r28))], mo_h gx (mo_i s 2 1) gs q)) tk_X9_behind (by omega) rfl ⟨h30, trivial⟩ ?_
                   exact pm_Wg.iret (pm_dec tk_X9_behind rfl) rfl rfl
      · rw [if_neg h18] at H
        cases q32 : f_X9_firstOf (mo_i s 2 0) a0 a1 with
        | none => rw [q32] at H; cases H
        | some r31 =>
         rw [q32] at H
         dsimp only at H
         refine pm_Wg.path (k := 7) (ds := [0]) (f' := (28, [some (.ref 64), some (.int a0), some (.int a1), none, none, none], [.int a1, .int a0, .ref 64], mo_h gx (mo_i s 2 0) gs q)) tk_X9_behind (by omega) rfl ⟨h18, trivial⟩ ?_
         refine pm_Wg.callV (m' := 258) (ix := 404) (rr := 338) (pl := 1940) (b := 64) (As := [.int a0, .int a1]) (S := []) (by decide) rfl (pm_dec tk_X9_behind rfl) rfl rfl (by decide) rfl rfl (by decide) (Nat.le_of_ble_eq_true rfl) rfl (e_X9_firstOf d (by omega) gx gs q _ _ _ _ q32) ?_
         by_cases h33 : r31 = (-1)
         · rw [if_pos h33] at H
           injection H with H
           injection H with H1 H2
           subst H1
           subst H2
           refine pm_Wg.path (k := 5) (ds := [1]) (f' := (48, [some (.ref 64), some (.int a0), some (.int a1), some (.int r31), none, none], [.int 0], mo_h gx (mo_i s 2 0) gs q)) tk_X9_behind (by omega) rfl ⟨h33, trivial⟩ ?_
           exact pm_Wg.iret (pm_dec tk_X9_behind rfl) rfl rfl
         · rw [if_neg h33] at H
           cases q35 : f_X9_of (mo_i s 2 0) r31 6 with
           | none => rw [q35] at H; cases H
           | some r34 =>
            rw [q35] at H
            dsimp only at H
            refine pm_Wg.path (k := 7) (ds := [0]) (f' := (41, [some (.ref 64), some (.int a0), some (.int a1), some (.int r31), none, none], [.int 6, .int r31, .ref 64], mo_h gx (mo_i s 2 0) gs q)) tk_X9_behind (by omega) rfl ⟨h33, trivial⟩ ?_
            refine pm_Wg.callV (m' := 200) (ix := 254) (rr := 285) (pl := 1726) (b := 64) (As := [.int r31, .int 6]) (S := []) (by decide) rfl (pm_dec tk_X9_behind rfl) rfl rfl (by decide) rfl rfl (by decide) (Nat.le_of_ble_eq_true rfl) rfl (e_X9_of d (by omega) gx gs q _ _ _ _ q35) ?_
            by_cases h36 : r34 = 0
            · rw [if_pos h36] at H
              injection H with H
              injection H with H1 H2
              subst H1
              subst H2
              refine pm_Wg.path (k := 2) (ds := [0]) (f' := (48, [some (.ref 64), some (.int a0), some (.int a1), some (.int r31), none, none], [.int 0], mo_h gx (mo_i s 2 0) gs q)) tk_X9_behind (by omega) rfl ⟨h36, trivial⟩ ?_
              exact pm_Wg.iret (pm_dec tk_X9_behind rfl) rfl rfl
            · rw [if_neg h36] at H
              cases b37 : pm_inb 0 18186 with
              | false => rw [b37] at H; cases H
              | true =>
               rw [b37] at H
               dsimp only at H
               cases q39 : f_X9_tagOf (mo_i s 2 0) r31 0 with
               | none => rw [q39] at H; cases H
               | some r38 =>
                rw [q39] at H
                dsimp only at H
                refine pm_Wg.path (k := 9) (ds := [1]) (f' := (59, [some (.ref 64), some (.int a0), some (.int a1), some (.int r31), none, none], [.int 0, .int r31, .ref 64, .long (Int32.toInt64 ((mo_i s 2 0).2.2.1 3 (Int32.toNatClampNeg 0)))], mo_h gx (mo_i s 2 0) gs q)) tk_X9_behind (by omega) rfl ⟨pm_inb_vp b37, h36, trivial⟩ ?_
                refine pm_Wg.callV (m' := 202) (ix := 368) (rr := 327) (pl := 1896) (b := 64) (As := [.int r31, .int 0]) (S := [.long (Int32.toInt64 ((mo_i s 2 0).2.2.1 3 (Int32.toNatClampNeg 0)))]) (by decide) rfl (pm_dec tk_X9_behind rfl) rfl rfl (by decide) rfl rfl (by decide) (Nat.le_of_ble_eq_true rfl) rfl (e_X9_tagOf d (by omega) gx gs q _ _ _ _ q39) ?_
                cases q41 : f_X9_down (mo_i s 2 0) r38 1000 with
                | none => rw [q41] at H; cases H
                | some r40 =>
                 rw [q41] at H
                 dsimp only at H
                 refine pm_Wg.path (k := 1) (ds := []) (f' := (65, [some (.ref 64), some (.int a0), some (.int a1), some (.int r31), none, none], [.long 1000, .long r38, .long (Int32.toInt64 ((mo_i s 2 0).2.2.1 3 (Int32.toNatClampNeg 0)))], mo_h gx (mo_i s 2 0) gs q)) tk_X9_behind (by omega) rfl trivial ?_
                 refine pm_Wg.callS (m' := 265) (ix := 412) (rr := 345) (pl := 1969) (As := [.long r38, .long 1000]) (S := [.long (Int32.toInt64 ((mo_i s 2 0).2.2.1 3 (Int32.toNatClampNeg 0)))]) (by decide) rfl (pm_dec tk_X9_behind rfl) rfl rfl rfl (Nat.le_of_ble_eq_true rfl) rfl (e_X9_down d (by omega) gx gs q _ _ _ _ q41) ?_
                 by_cases h42 : (lg_cmp ((Int32.toInt64 ((mo_i s 2 0).2.2.1 3 (Int32.toNatClampNeg 0))) - r40) 0) ≤ 0
                 · rw [if_pos h42] at H
                   injection H with H
                   injection H with H1 H2
                   subst H1
                   subst H2
                   refine pm_Wg.path (k := 7) (ds := [1]) (f' := (85, [some (.ref 64), some (.int a0), some (.int a1), some (.int r31), some (.long ((Int32.toInt64 ((mo_i s 2 0).2.2.1 3 (Int32.toNatClampNeg 0))) - r40)), none], [.int 0], mo_h gx (mo_i s 2 0) gs q)) tk_X9_behind (by omega) rfl ⟨h42, trivial⟩ ?_
                   exact pm_Wg.iret (pm_dec tk_X9_behind rfl) rfl rfl
                 · rw [if_neg h42] at H
                   injection H with H
                   injection H with H1 H2
                   subst H1
                   subst H2
                   refine pm_Wg.path (k := 9) (ds := [0]) (f' := (85, [some (.ref 64), some (.int a0), some (.int a1), some (.int r31), some (.long ((Int32.toInt64 ((mo_i s 2 0).2.2.1 3 (Int32.toNatClampNeg 0))) - r40)), none], [.int (Int64.toInt32 ((Int32.toInt64 ((mo_i s 2 0).2.2.1 3 (Int32.toNatClampNeg 0))) - r40))], mo_h gx (mo_i s 2 0) gs q)) tk_X9_behind (by omega) rfl ⟨h42, trivial⟩ ?_
                   exact pm_Wg.iret (pm_dec tk_X9_behind rfl) rfl rfl

def f_X9_ofTenant (s : mo_S) (a0 : Int32) (a1 : Int32) : Option Int32 :=
  (match pm_inb ((2744 + (7 * a0)) + a1) 18186 with
  | false => none
  | true =>
  some (s.2.2.1 3 (Int32.toNatClampNeg ((2744 + (7 * a0)) + a1))))
def tb_X9_ofTenant : List pm_I := [(0, .aload_n 0, 0, 0), (1, .getfield 16, 162, 0), (4, .sipush 2744, 42, 0), (7, .bipush 7, 9, 0), (9, .iload_n 1, 0, 0), (10, .imul, 0, 0), (11, .iadd, 0, 0), (12, .iload_n 2, 0, 0), (13, .iadd, 0, 0), (14, .iaload, 0, 0), (15, .ireturn, 0, 0)]
theorem tk_X9_ofTenant : ∀ e ∈ tb_X9_ofTenant, pm_ck 267 e = true := List.all_eq_true.mp (by decide +kernel)
set_option maxRecDepth 20000 in
set_option maxHeartbeats 20000000 in
theorem e_X9_ofTenant (d : Nat) (hd : 1 ≤ d) (gx : List pm_E) (gs : List (List pm_E)) (q : Nat × Nat × Nat) (s : mo_S) (a0 : Int32) (a1 : Int32) (r : Int32) (H : f_X9_ofTenant s a0 a1 = some r) : pm_Mt 267 d [.ref 64, .int a0, .int a1] (mo_h gx s gs q) (.inl (some (.int r))) (mo_h gx s gs q) := by
  refine pm_Mt.of (by decide) (by decide +kernel) rfl rfl ?_
  unfold f_X9_ofTenant at H
  cases b1 : pm_inb ((2744 + (7 * a0)) + a1) 18186 with
  | false => rw [b1] at H; cases H
  | true =>
   rw [b1] at H
   dsimp only at H
   have H1 := Option.some.inj H
   subst H1
   refine pm_Wg.path (k := 10) (ds := []) (f' := (15, [some (.ref 64), some (.int a0), some (.int a1)], [.int (s.2.2.1 3 (Int32.toNatClampNeg ((2744 + (7 * a0)) + a1)))], mo_h gx s gs q)) tk_X9_ofTenant (by omega) rfl ⟨pm_inb_vp b1, trivial⟩ ?_
   exact pm_Wg.iret (pm_dec tk_X9_ofTenant rfl) rfl rfl

def f_X9_chosen (s : mo_S) (a0 : Int32) (a1 : Int32) : Option (Int32 × mo_S) :=
  (match f_X9_isTenant (mo_i s 2 0) a0 with
  | none => none
  | some r1 =>
   (if r1 = 0 then
    (match f_X9_refuse (mo_i s 2 0) 1 with
    | none => none
    | some (r4, s5) =>
     some (r4, s5))
   else
    (match f_X9_in (mo_i s 2 0) a1 0 2 with
    | none => none
    | some r7 =>
     (if r7 = 0 then
      (match f_X9_refuse (mo_i s 2 0) 2 with
      | none => none
      | some (r10, s11) =>
       some (r10, s11))
     else
      (match f_X9_ofTenant (mo_i s 2 0) a0 (4 + a1) with
      | none => none
      | some r13 =>
       some (r13, (mo_i s 2 0)))))))
def tb_X9_chosen : List pm_I := [(0, .aload_n 0, 0, 0), (1, .iconst 0, 2, 0), (2, .putfield 45, 161, 0), (5, .aload_n 0, 0, 0), (6, .iload_n 1, 0, 0), (7, .invokevirtual 218, 271, 0), (10, .ifCond .ne 9, 19, 0), (13, .aload_n 0, 0, 0), (14, .iconst 1, 3, 0), (15, .invokevirtual 69, 227, 0), (18, .ireturn, 0, 0), (19, .iload_n 2, 0, 0), (20, .iconst 0, 2, 0), (21, .iconst 2, 4, 0), (22, .invokestatic 59, 233, 0), (25, .ifCond .eq 14, 39, 0), (28, .aload_n 0, 0, 0), (29, .iload_n 1, 0, 0), (30, .iconst 4, 6, 0), (31, .iload_n 2, 0, 0), (32, .iadd, 0, 0), (33, .invokevirtual 416, 347, 0), (36, .goto 8, 44, 0), (39, .aload_n 0, 0, 0), (40, .iconst 2, 4, 0), (41, .invokevirtual 69, 227, 0), (44, .ireturn, 0, 0)]
theorem tk_X9_chosen : ∀ e ∈ tb_X9_chosen, pm_ck 268 e = true := List.all_eq_true.mp (by decide +kernel)
set_option maxRecDepth 20000 in
set_option maxHeartbeats 20000000 in
theorem e_X9_chosen (d : Nat) (hd : 3 ≤ d) (gx : List pm_E) (gs : List (List pm_E)) (q : Nat × Nat × Nat) (s : mo_S) (a0 : Int32) (a1 : Int32) (r : Int32) (s1 : mo_S) (H : f_X9_chosen s a0 a1 = some (r, s1)) : pm_Mt 268 d [.ref 64, .int a0, .int a1] (mo_h gx s gs q) (.inl (some (.int r))) (mo_h gx s1 gs q) := by
  refine pm_Mt.of (by decide) (by decide +kernel) rfl rfl ?_
  obtain ⟨d, rfl⟩ : ∃ d', d = d' + 1 := ⟨d - 1, by omega⟩
  unfold f_X9_chosen at H
  cases q2 : f_X9_isTenant (mo_i s 2 0) a0 with
  | none => rw [q2] at H; cases H
  | some r1 =>
   rw [q2] at H
   dsimp only at H
   refine pm_Wg.path (k := 5) (ds := []) (f' := (7, [some (.ref 64), some (.int a0), some (.int a1)], [.int a0, .ref 64], mo_h gx (mo_i s 2 0) gs q)) tk_X9_chosen (by omega) rfl trivial ?_
   refine pm_Wg.callV (m' := 153) (ix := 218) (rr := 271) (pl := 1671) (b := 64) (As := [.int a0]) (S := []) (by decide) rfl (pm_dec tk_X9_chosen rfl) rfl rfl (by decide) rfl rfl (by decide) (Nat.le_of_ble_eq_true rfl) rfl (e_X9_isTenant d (by omega) gx gs q _ _ _ q2) ?_
   by_cases h3 : r1 = 0
   · rw [if_pos h3] at H
     cases q6 : f_X9_refuse (mo_i s 2 0) 1 with
     | none => rw [q6] at H; cases H
     | some w =>
      obtain ⟨r4, s5⟩ := w
      rw [q6] at H
      dsimp only at H
      refine pm_Wg.path (k := 3) (ds := [0]) (f' := (15, [some (.ref 64), some (.int a0), some (.int a1)], [.int 1, .ref 64], mo_h gx (mo_i s 2 0) gs q)) tk_X9_chosen (by omega) rfl ⟨h3, trivial⟩ ?_
      refine pm_Wg.callV (m' := 145) (ix := 69) (rr := 227) (pl := 1483) (b := 64) (As := [.int 1]) (S := []) (by decide) rfl (pm_dec tk_X9_chosen rfl) rfl rfl (by decide) rfl rfl (by decide) (Nat.le_of_ble_eq_true rfl) rfl (e_X9_refuse d (by omega) gx gs q _ _ _ _ q6) ?_
      injection H with H
      injection H with H1 H2
      subst H1
      subst H2
      exact pm_Wg.iret (pm_dec tk_X9_chosen rfl) rfl rfl
   · rw [if_neg h3] at H
     cases q8 : f_X9_in (mo_i s 2 0) a1 0 2 with
     | none => rw [q8] at H; cases H
     | some r7 =>
      rw [q8] at H
      dsimp only at H
      refine pm_Wg.path (k := 4) (ds := [1]) (f' := (22, [some (.ref 64), some (.int a0), some (.int a1)], [.int 2, .int 0, .int a1], mo_h gx (mo_i s 2 0) gs q)) tk_X9_chosen (by omega) rfl ⟨h3, trivial⟩ ?_
      refine pm_Wg.callS (m' := 147) (ix := 59) (rr := 233) (pl := 1507) (As := [.int a1, .int 0, .int 2]) (S := []) (by decide) rfl (pm_dec tk_X9_chosen rfl) rfl rfl rfl (Nat.le_of_ble_eq_true rfl) rfl (e_X9_in d (by omega) gx gs q _ _ _ _ _ q8) ?_
      by_cases h9 : r7 = 0
      · rw [if_pos h9] at H
        cases q12 : f_X9_refuse (mo_i s 2 0) 2 with
        | none => rw [q12] at H; cases H
        | some w =>
         obtain ⟨r10, s11⟩ := w
         rw [q12] at H
         dsimp only at H
         refine pm_Wg.path (k := 3) (ds := [1]) (f' := (41, [some (.ref 64), some (.int a0), some (.int a1)], [.int 2, .ref 64], mo_h gx (mo_i s 2 0) gs q)) tk_X9_chosen (by omega) rfl ⟨h9, trivial⟩ ?_
         refine pm_Wg.callV (m' := 145) (ix := 69) (rr := 227) (pl := 1483) (b := 64) (As := [.int 2]) (S := []) (by decide) rfl (pm_dec tk_X9_chosen rfl) rfl rfl (by decide) rfl rfl (by decide) (Nat.le_of_ble_eq_true rfl) rfl (e_X9_refuse d (by omega) gx gs q _ _ _ _ q12) ?_
         injection H with H
         injection H with H1 H2
         subst H1
         subst H2
         exact pm_Wg.iret (pm_dec tk_X9_chosen rfl) rfl rfl
      · rw [if_neg h9] at H
        cases q14 : f_X9_ofTenant (mo_i s 2 0) a0 (4 + a1) with
        | none => rw [q14] at H; cases H
        | some r13 =>
         rw [q14] at H
         dsimp only at H
         refine pm_Wg.path (k := 6) (ds := [0]) (f' := (33, [some (.ref 64), some (.int a0), some (.int a1)], [.int (4 + a1), .int a0, .ref 64], mo_h gx (mo_i s 2 0) gs q)) tk_X9_chosen (by omega) rfl ⟨h9, trivial⟩ ?_
         refine pm_Wg.callV (m' := 267) (ix := 416) (rr := 347) (pl := 1976) (b := 64) (As := [.int a0, .int (4 + a1)]) (S := []) (by decide) rfl (pm_dec tk_X9_chosen rfl) rfl rfl (by decide) rfl rfl (by decide) (Nat.le_of_ble_eq_true rfl) rfl (e_X9_ofTenant d (by omega) gx gs q _ _ _ _ q14) ?_
         injection H with H
         injection H with H1 H2
         subst H1
         subst H2
         refine pm_Wg.path (k := 1) (ds := []) (f' := (44, [some (.ref 64), some (.int a0), some (.int a1)], [.int r13], mo_h gx (mo_i s 2 0) gs q)) tk_X9_chosen (by omega) rfl trivial ?_
         exact pm_Wg.iret (pm_dec tk_X9_chosen rfl) rfl rfl

def f_X9_requestCount (s : mo_S) : Option (Int32 × mo_S) :=
  (match pm_inb 2 18186 with
  | false => none
  | true =>
  (match f_X9_told s (s.2.2.1 3 (Int32.toNatClampNeg 2)) with
  | none => none
  | some (r2, s3) =>
   some (r2, s3)))
def tb_X9_requestCount : List pm_I := [(0, .aload_n 0, 0, 0), (1, .aload_n 0, 0, 0), (2, .getfield 16, 162, 0), (5, .iconst 2, 4, 0), (6, .iaload, 0, 0), (7, .invokevirtual 80, 230, 0), (10, .ireturn, 0, 0)]
theorem tk_X9_requestCount : ∀ e ∈ tb_X9_requestCount, pm_ck 269 e = true := List.all_eq_true.mp (by decide +kernel)
set_option maxRecDepth 20000 in
set_option maxHeartbeats 20000000 in
theorem e_X9_requestCount (d : Nat) (hd : 2 ≤ d) (gx : List pm_E) (gs : List (List pm_E)) (q : Nat × Nat × Nat) (s : mo_S) (r : Int32) (s1 : mo_S) (H : f_X9_requestCount s = some (r, s1)) : pm_Mt 269 d [.ref 64] (mo_h gx s gs q) (.inl (some (.int r))) (mo_h gx s1 gs q) := by
  refine pm_Mt.of (by decide) (by decide +kernel) rfl rfl ?_
  obtain ⟨d, rfl⟩ : ∃ d', d = d' + 1 := ⟨d - 1, by omega⟩
  unfold f_X9_requestCount at H
  cases b1 : pm_inb 2 18186 with
  | false => rw [b1] at H; cases H
  | true =>
   rw [b1] at H
   dsimp only at H
   cases q4 : f_X9_told s (s.2.2.1 3 (Int32.toNatClampNeg 2)) with
   | none => rw [q4] at H; cases H
   | some w =>
    obtain ⟨r2, s3⟩ := w
    rw [q4] at H
    dsimp only at H
    refine pm_Wg.path (k := 5) (ds := []) (f' := (7, [some (.ref 64)], [.int (s.2.2.1 3 (Int32.toNatClampNeg 2)), .ref 64], mo_h gx s gs q)) tk_X9_requestCount (by omega) rfl ⟨pm_inb_vp b1, trivial⟩ ?_
    refine pm_Wg.callV (m' := 146) (ix := 80) (rr := 230) (pl := 1495) (b := 64) (As := [.int (s.2.2.1 3 (Int32.toNatClampNeg 2))]) (S := []) (by decide) rfl (pm_dec tk_X9_requestCount rfl) rfl rfl (by decide) rfl rfl (by decide) (Nat.le_of_ble_eq_true rfl) rfl (e_X9_told d (by omega) gx gs q _ _ _ _ q4) ?_
    injection H with H
    injection H with H1 H2
    subst H1
    subst H2
    exact pm_Wg.iret (pm_dec tk_X9_requestCount rfl) rfl rfl

def f_X9_lostLines (s : mo_S) : Option (Int32 × mo_S) :=
  (match pm_inb 4 18186 with
  | false => none
  | true =>
  (match f_X9_told s (s.2.2.1 3 (Int32.toNatClampNeg 4)) with
  | none => none
  | some (r2, s3) =>
   some (r2, s3)))
def tb_X9_lostLines : List pm_I := [(0, .aload_n 0, 0, 0), (1, .aload_n 0, 0, 0), (2, .getfield 16, 162, 0), (5, .iconst 4, 6, 0), (6, .iaload, 0, 0), (7, .invokevirtual 80, 230, 0), (10, .ireturn, 0, 0)]
theorem tk_X9_lostLines : ∀ e ∈ tb_X9_lostLines, pm_ck 270 e = true := List.all_eq_true.mp (by decide +kernel)
set_option maxRecDepth 20000 in
set_option maxHeartbeats 20000000 in
theorem e_X9_lostLines (d : Nat) (hd : 2 ≤ d) (gx : List pm_E) (gs : List (List pm_E)) (q : Nat × Nat × Nat) (s : mo_S) (r : Int32) (s1 : mo_S) (H : f_X9_lostLines s = some (r, s1)) : pm_Mt 270 d [.ref 64] (mo_h gx s gs q) (.inl (some (.int r))) (mo_h gx s1 gs q) := by
  refine pm_Mt.of (by decide) (by decide +kernel) rfl rfl ?_
  obtain ⟨d, rfl⟩ : ∃ d', d = d' + 1 := ⟨d - 1, by omega⟩
  unfold f_X9_lostLines at H
  cases b1 : pm_inb 4 18186 with
  | false => rw [b1] at H; cases H
  | true =>
   rw [b1] at H
   dsimp only at H
   cases q4 : f_X9_told s (s.2.2.1 3 (Int32.toNatClampNeg 4)) with
   | none => rw [q4] at H; cases H
   | some w =>
    obtain ⟨r2, s3⟩ := w
    rw [q4] at H
    dsimp only at H
    refine pm_Wg.path (k := 5) (ds := []) (f' := (7, [some (.ref 64)], [.int (s.2.2.1 3 (Int32.toNatClampNeg 4)), .ref 64], mo_h gx s gs q)) tk_X9_lostLines (by omega) rfl ⟨pm_inb_vp b1, trivial⟩ ?_
    refine pm_Wg.callV (m' := 146) (ix := 80) (rr := 230) (pl := 1495) (b := 64) (As := [.int (s.2.2.1 3 (Int32.toNatClampNeg 4))]) (S := []) (by decide) rfl (pm_dec tk_X9_lostLines rfl) rfl rfl (by decide) rfl rfl (by decide) (Nat.le_of_ble_eq_true rfl) rfl (e_X9_told d (by omega) gx gs q _ _ _ _ q4) ?_
    injection H with H
    injection H with H1 H2
    subst H1
    subst H2
    exact pm_Wg.iret (pm_dec tk_X9_lostLines rfl) rfl rfl

def f_X9_traceLines (s : mo_S) : Option (Int32 × mo_S) :=
  (match pm_inb 3 18186 with
  | false => none
  | true =>
  (match f_X9_told s ((s.1 19) - (s.2.2.1 3 (Int32.toNatClampNeg 3))) with
  | none => none
  | some (r2, s3) =>
   some (r2, s3)))
def tb_X9_traceLines : List pm_I := [(0, .aload_n 0, 0, 0), (1, .aload_n 0, 0, 0), (2, .getfield 48, 178, 0), (5, .aload_n 0, 0, 0), (6, .getfield 16, 162, 0), (9, .iconst 3, 5, 0), (10, .iaload, 0, 0), (11, .isub, 0, 0), (12, .invokevirtual 80, 230, 0), (15, .ireturn, 0, 0)]
theorem tk_X9_traceLines : ∀ e ∈ tb_X9_traceLines, pm_ck 271 e = true := List.all_eq_true.mp (by decide +kernel)
set_option maxRecDepth 20000 in
set_option maxHeartbeats 20000000 in
theorem e_X9_traceLines (d : Nat) (hd : 2 ≤ d) (gx : List pm_E) (gs : List (List pm_E)) (q : Nat × Nat × Nat) (s : mo_S) (r : Int32) (s1 : mo_S) (H : f_X9_traceLines s = some (r, s1)) : pm_Mt 271 d [.ref 64] (mo_h gx s gs q) (.inl (some (.int r))) (mo_h gx s1 gs q) := by
  refine pm_Mt.of (by decide) (by decide +kernel) rfl rfl ?_
  obtain ⟨d, rfl⟩ : ∃ d', d = d' + 1 := ⟨d - 1, by omega⟩
  unfold f_X9_traceLines at H
  cases b1 : pm_inb 3 18186 with
  | false => rw [b1] at H; cases H
  | true =>
   rw [b1] at H
   dsimp only at H
   cases q4 : f_X9_told s ((s.1 19) - (s.2.2.1 3 (Int32.toNatClampNeg 3))) with
   | none => rw [q4] at H; cases H
   | some w =>
    obtain ⟨r2, s3⟩ := w
    rw [q4] at H
    dsimp only at H
    refine pm_Wg.path (k := 8) (ds := []) (f' := (12, [some (.ref 64)], [.int ((s.1 19) - (s.2.2.1 3 (Int32.toNatClampNeg 3))), .ref 64], mo_h gx s gs q)) tk_X9_traceLines (by omega) rfl ⟨pm_inb_vp b1, trivial⟩ ?_
    refine pm_Wg.callV (m' := 146) (ix := 80) (rr := 230) (pl := 1495) (b := 64) (As := [.int ((s.1 19) - (s.2.2.1 3 (Int32.toNatClampNeg 3)))]) (S := []) (by decide) rfl (pm_dec tk_X9_traceLines rfl) rfl rfl (by decide) rfl rfl (by decide) (Nat.le_of_ble_eq_true rfl) rfl (e_X9_told d (by omega) gx gs q _ _ _ _ q4) ?_
    injection H with H
    injection H with H1 H2
    subst H1
    subst H2
    exact pm_Wg.iret (pm_dec tk_X9_traceLines rfl) rfl rfl

def f_X9_finishedAt (s : mo_S) (a0 : Int32) : Option (Int32 × mo_S) :=
  (match f_X9_isRequest (mo_i s 2 0) a0 with
  | none => none
  | some r1 =>
   (if r1 = 0 then
    (match f_X9_refuse (mo_i s 2 0) 1 with
    | none => none
    | some (r4, s5) =>
     some (r4, s5))
   else
    (match f_X9_ofRequest (mo_i s 2 0) a0 4 with
    | none => none
    | some r7 =>
     some (r7, (mo_i s 2 0)))))
def tb_X9_finishedAt : List pm_I := [(0, .aload_n 0, 0, 0), (1, .iconst 0, 2, 0), (2, .putfield 45, 161, 0), (5, .aload_n 0, 0, 0), (6, .iload_n 1, 0, 0), (7, .invokevirtual 419, 352, 0), (10, .ifCond .eq 12, 22, 0), (13, .aload_n 0, 0, 0), (14, .iload_n 1, 0, 0), (15, .iconst 4, 6, 0), (16, .invokevirtual 267, 282, 0), (19, .goto 8, 27, 0), (22, .aload_n 0, 0, 0), (23, .iconst 1, 3, 0), (24, .invokevirtual 69, 227, 0), (27, .ireturn, 0, 0)]
theorem tk_X9_finishedAt : ∀ e ∈ tb_X9_finishedAt, pm_ck 272 e = true := List.all_eq_true.mp (by decide +kernel)
set_option maxRecDepth 20000 in
set_option maxHeartbeats 20000000 in
theorem e_X9_finishedAt (d : Nat) (hd : 3 ≤ d) (gx : List pm_E) (gs : List (List pm_E)) (q : Nat × Nat × Nat) (s : mo_S) (a0 : Int32) (r : Int32) (s1 : mo_S) (H : f_X9_finishedAt s a0 = some (r, s1)) : pm_Mt 272 d [.ref 64, .int a0] (mo_h gx s gs q) (.inl (some (.int r))) (mo_h gx s1 gs q) := by
  refine pm_Mt.of (by decide) (by decide +kernel) rfl rfl ?_
  obtain ⟨d, rfl⟩ : ∃ d', d = d' + 1 := ⟨d - 1, by omega⟩
  unfold f_X9_finishedAt at H
  cases q2 : f_X9_isRequest (mo_i s 2 0) a0 with
  | none => rw [q2] at H; cases H
  | some r1 =>
   rw [q2] at H
   dsimp only at H
   refine pm_Wg.path (k := 5) (ds := []) (f' := (7, [some (.ref 64), some (.int a0)], [.int a0, .ref 64], mo_h gx (mo_i s 2 0) gs q)) tk_X9_finishedAt (by omega) rfl trivial ?_
   refine pm_Wg.callV (m' := 156) (ix := 419) (rr := 352) (pl := 1996) (b := 64) (As := [.int a0]) (S := []) (by decide) rfl (pm_dec tk_X9_finishedAt rfl) rfl rfl (by decide) rfl rfl (by decide) (Nat.le_of_ble_eq_true rfl) rfl (e_X9_isRequest d (by omega) gx gs q _ _ _ q2) ?_
   by_cases h3 : r1 = 0
   · rw [if_pos h3] at H
     cases q6 : f_X9_refuse (mo_i s 2 0) 1 with
     | none => rw [q6] at H; cases H
     | some w =>
      obtain ⟨r4, s5⟩ := w
      rw [q6] at H
      dsimp only at H
      refine pm_Wg.path (k := 3) (ds := [1]) (f' := (24, [some (.ref 64), some (.int a0)], [.int 1, .ref 64], mo_h gx (mo_i s 2 0) gs q)) tk_X9_finishedAt (by omega) rfl ⟨h3, trivial⟩ ?_
      refine pm_Wg.callV (m' := 145) (ix := 69) (rr := 227) (pl := 1483) (b := 64) (As := [.int 1]) (S := []) (by decide) rfl (pm_dec tk_X9_finishedAt rfl) rfl rfl (by decide) rfl rfl (by decide) (Nat.le_of_ble_eq_true rfl) rfl (e_X9_refuse d (by omega) gx gs q _ _ _ _ q6) ?_
      injection H with H
      injection H with H1 H2
      subst H1
      subst H2
      exact pm_Wg.iret (pm_dec tk_X9_finishedAt rfl) rfl rfl
   · rw [if_neg h3] at H
     cases q8 : f_X9_ofRequest (mo_i s 2 0) a0 4 with
     | none => rw [q8] at H; cases H
     | some r7 =>
      rw [q8] at H
      dsimp only at H
      refine pm_Wg.path (k := 4) (ds := [0]) (f' := (16, [some (.ref 64), some (.int a0)], [.int 4, .int a0, .ref 64], mo_h gx (mo_i s 2 0) gs q)) tk_X9_finishedAt (by omega) rfl ⟨h3, trivial⟩ ?_
      refine pm_Wg.callV (m' := 211) (ix := 267) (rr := 282) (pl := 1715) (b := 64) (As := [.int a0, .int 4]) (S := []) (by decide) rfl (pm_dec tk_X9_finishedAt rfl) rfl rfl (by decide) rfl rfl (by decide) (Nat.le_of_ble_eq_true rfl) rfl (e_X9_ofRequest d (by omega) gx gs q _ _ _ _ q8) ?_
      injection H with H
      injection H with H1 H2
      subst H1
      subst H2
      refine pm_Wg.path (k := 1) (ds := []) (f' := (27, [some (.ref 64), some (.int a0)], [.int r7], mo_h gx (mo_i s 2 0) gs q)) tk_X9_finishedAt (by omega) rfl trivial ?_
      exact pm_Wg.iret (pm_dec tk_X9_finishedAt rfl) rfl rfl

def f_X9_pending (s : mo_S) (a0 : Int32) : Option (Int32 × mo_S) :=
  (match f_X9_isRequest (mo_i s 2 0) a0 with
  | none => none
  | some r1 =>
   (if r1 = 0 then
    (match f_X9_refuse (mo_i s 2 0) 1 with
    | none => none
    | some (r4, s5) =>
     some (r4, s5))
   else
    (match f_X9_ofRequest (mo_i s 2 0) a0 3 with
    | none => none
    | some r7 =>
     some (r7, (mo_i s 2 0)))))
def tb_X9_pending : List pm_I := [(0, .aload_n 0, 0, 0), (1, .iconst 0, 2, 0), (2, .putfield 45, 161, 0), (5, .aload_n 0, 0, 0), (6, .iload_n 1, 0, 0), (7, .invokevirtual 419, 352, 0), (10, .ifCond .eq 12, 22, 0), (13, .aload_n 0, 0, 0), (14, .iload_n 1, 0, 0), (15, .iconst 3, 5, 0), (16, .invokevirtual 267, 282, 0), (19, .goto 8, 27, 0), (22, .aload_n 0, 0, 0), (23, .iconst 1, 3, 0), (24, .invokevirtual 69, 227, 0), (27, .ireturn, 0, 0)]
theorem tk_X9_pending : ∀ e ∈ tb_X9_pending, pm_ck 273 e = true := List.all_eq_true.mp (by decide +kernel)
set_option maxRecDepth 20000 in
set_option maxHeartbeats 20000000 in
theorem e_X9_pending (d : Nat) (hd : 3 ≤ d) (gx : List pm_E) (gs : List (List pm_E)) (q : Nat × Nat × Nat) (s : mo_S) (a0 : Int32) (r : Int32) (s1 : mo_S) (H : f_X9_pending s a0 = some (r, s1)) : pm_Mt 273 d [.ref 64, .int a0] (mo_h gx s gs q) (.inl (some (.int r))) (mo_h gx s1 gs q) := by
  refine pm_Mt.of (by decide) (by decide +kernel) rfl rfl ?_
  obtain ⟨d, rfl⟩ : ∃ d', d = d' + 1 := ⟨d - 1, by omega⟩
  unfold f_X9_pending at H
  cases q2 : f_X9_isRequest (mo_i s 2 0) a0 with
  | none => rw [q2] at H; cases H
  | some r1 =>
   rw [q2] at H
   dsimp only at H
   refine pm_Wg.path (k := 5) (ds := []) (f' := (7, [some (.ref 64), some (.int a0)], [.int a0, .ref 64], mo_h gx (mo_i s 2 0) gs q)) tk_X9_pending (by omega) rfl trivial ?_
   refine pm_Wg.callV (m' := 156) (ix := 419) (rr := 352) (pl := 1996) (b := 64) (As := [.int a0]) (S := []) (by decide) rfl (pm_dec tk_X9_pending rfl) rfl rfl (by decide) rfl rfl (by decide) (Nat.le_of_ble_eq_true rfl) rfl (e_X9_isRequest d (by omega) gx gs q _ _ _ q2) ?_
   by_cases h3 : r1 = 0
   · rw [if_pos h3] at H
     cases q6 : f_X9_refuse (mo_i s 2 0) 1 with
     | none => rw [q6] at H; cases H
     | some w =>
      obtain ⟨r4, s5⟩ := w
      rw [q6] at H
      dsimp only at H
      refine pm_Wg.path (k := 3) (ds := [1]) (f' := (24, [some (.ref 64), some (.int a0)], [.int 1, .ref 64], mo_h gx (mo_i s 2 0) gs q)) tk_X9_pending (by omega) rfl ⟨h3, trivial⟩ ?_
      refine pm_Wg.callV (m' := 145) (ix := 69) (rr := 227) (pl := 1483) (b := 64) (As := [.int 1]) (S := []) (by decide) rfl (pm_dec tk_X9_pending rfl) rfl rfl (by decide) rfl rfl (by decide) (Nat.le_of_ble_eq_true rfl) rfl (e_X9_refuse d (by omega) gx gs q _ _ _ _ q6) ?_
      injection H with H
      injection H with H1 H2
      subst H1
      subst H2
      exact pm_Wg.iret (pm_dec tk_X9_pending rfl) rfl rfl
   · rw [if_neg h3] at H
     cases q8 : f_X9_ofRequest (mo_i s 2 0) a0 3 with
     | none => rw [q8] at H; cases H
     | some r7 =>
      rw [q8] at H
      dsimp only at H
      refine pm_Wg.path (k := 4) (ds := [0]) (f' := (16, [some (.ref 64), some (.int a0)], [.int 3, .int a0, .ref 64], mo_h gx (mo_i s 2 0) gs q)) tk_X9_pending (by omega) rfl ⟨h3, trivial⟩ ?_
      refine pm_Wg.callV (m' := 211) (ix := 267) (rr := 282) (pl := 1715) (b := 64) (As := [.int a0, .int 3]) (S := []) (by decide) rfl (pm_dec tk_X9_pending rfl) rfl rfl (by decide) rfl rfl (by decide) (Nat.le_of_ble_eq_true rfl) rfl (e_X9_ofRequest d (by omega) gx gs q _ _ _ _ q8) ?_
      injection H with H
      injection H with H1 H2
      subst H1
      subst H2
      refine pm_Wg.path (k := 1) (ds := []) (f' := (27, [some (.ref 64), some (.int a0)], [.int r7], mo_h gx (mo_i s 2 0) gs q)) tk_X9_pending (by omega) rfl trivial ?_
      exact pm_Wg.iret (pm_dec tk_X9_pending rfl) rfl rfl

def f_X9_tellClient (s : mo_S) (a0 : Int32) (a1 : Int32) : Option (Int32 × mo_S) :=
  (match f_X9_isClient (mo_i s 2 0) a0 with
  | none => none
  | some r1 =>
   (if r1 = 0 then
    (match f_X9_refuse (mo_i s 2 0) 1 with
    | none => none
    | some (r4, s5) =>
     some (r4, s5))
   else
    (match f_X9_ofTenant (mo_i s 2 0) a0 a1 with
    | none => none
    | some r7 =>
     some (r7, (mo_i s 2 0)))))
def tb_X9_tellClient : List pm_I := [(0, .aload_n 0, 0, 0), (1, .iconst 0, 2, 0), (2, .putfield 45, 161, 0), (5, .aload_n 0, 0, 0), (6, .iload_n 1, 0, 0), (7, .invokevirtual 301, 274, 0), (10, .ifCond .eq 12, 22, 0), (13, .aload_n 0, 0, 0), (14, .iload_n 1, 0, 0), (15, .iload_n 2, 0, 0), (16, .invokevirtual 416, 347, 0), (19, .goto 8, 27, 0), (22, .aload_n 0, 0, 0), (23, .iconst 1, 3, 0), (24, .invokevirtual 69, 227, 0), (27, .ireturn, 0, 0)]
theorem tk_X9_tellClient : ∀ e ∈ tb_X9_tellClient, pm_ck 274 e = true := List.all_eq_true.mp (by decide +kernel)
set_option maxRecDepth 20000 in
set_option maxHeartbeats 20000000 in
theorem e_X9_tellClient (d : Nat) (hd : 4 ≤ d) (gx : List pm_E) (gs : List (List pm_E)) (q : Nat × Nat × Nat) (s : mo_S) (a0 : Int32) (a1 : Int32) (r : Int32) (s1 : mo_S) (H : f_X9_tellClient s a0 a1 = some (r, s1)) : pm_Mt 274 d [.ref 64, .int a0, .int a1] (mo_h gx s gs q) (.inl (some (.int r))) (mo_h gx s1 gs q) := by
  refine pm_Mt.of (by decide) (by decide +kernel) rfl rfl ?_
  obtain ⟨d, rfl⟩ : ∃ d', d = d' + 1 := ⟨d - 1, by omega⟩
  unfold f_X9_tellClient at H
  cases q2 : f_X9_isClient (mo_i s 2 0) a0 with
  | none => rw [q2] at H; cases H
  | some r1 =>
   rw [q2] at H
   dsimp only at H
   refine pm_Wg.path (k := 5) (ds := []) (f' := (7, [some (.ref 64), some (.int a0), some (.int a1)], [.int a0, .ref 64], mo_h gx (mo_i s 2 0) gs q)) tk_X9_tellClient (by omega) rfl trivial ?_
   refine pm_Wg.callV (m' := 224) (ix := 301) (rr := 274) (pl := 1683) (b := 64) (As := [.int a0]) (S := []) (by decide) rfl (pm_dec tk_X9_tellClient rfl) rfl rfl (by decide) rfl rfl (by decide) (Nat.le_of_ble_eq_true rfl) rfl (e_X9_isClient d (by omega) gx gs q _ _ _ q2) ?_
   by_cases h3 : r1 = 0
   · rw [if_pos h3] at H
     cases q6 : f_X9_refuse (mo_i s 2 0) 1 with
     | none => rw [q6] at H; cases H
     | some w =>
      obtain ⟨r4, s5⟩ := w
      rw [q6] at H
      dsimp only at H
      refine pm_Wg.path (k := 3) (ds := [1]) (f' := (24, [some (.ref 64), some (.int a0), some (.int a1)], [.int 1, .ref 64], mo_h gx (mo_i s 2 0) gs q)) tk_X9_tellClient (by omega) rfl ⟨h3, trivial⟩ ?_
      refine pm_Wg.callV (m' := 145) (ix := 69) (rr := 227) (pl := 1483) (b := 64) (As := [.int 1]) (S := []) (by decide) rfl (pm_dec tk_X9_tellClient rfl) rfl rfl (by decide) rfl rfl (by decide) (Nat.le_of_ble_eq_true rfl) rfl (e_X9_refuse d (by omega) gx gs q _ _ _ _ q6) ?_
      injection H with H
      injection H with H1 H2
      subst H1
      subst H2
      exact pm_Wg.iret (pm_dec tk_X9_tellClient rfl) rfl rfl
   · rw [if_neg h3] at H
     cases q8 : f_X9_ofTenant (mo_i s 2 0) a0 a1 with
     | none => rw [q8] at H; cases H
     | some r7 =>
      rw [q8] at H
      dsimp only at H
      refine pm_Wg.path (k := 4) (ds := [0]) (f' := (16, [some (.ref 64), some (.int a0), some (.int a1)], [.int a1, .int a0, .ref 64], mo_h gx (mo_i s 2 0) gs q)) tk_X9_tellClient (by omega) rfl ⟨h3, trivial⟩ ?_
      refine pm_Wg.callV (m' := 267) (ix := 416) (rr := 347) (pl := 1976) (b := 64) (As := [.int a0, .int a1]) (S := []) (by decide) rfl (pm_dec tk_X9_tellClient rfl) rfl rfl (by decide) rfl rfl (by decide) (Nat.le_of_ble_eq_true rfl) rfl (e_X9_ofTenant d (by omega) gx gs q _ _ _ _ q8) ?_
      injection H with H
      injection H with H1 H2
      subst H1
      subst H2
      refine pm_Wg.path (k := 1) (ds := []) (f' := (27, [some (.ref 64), some (.int a0), some (.int a1)], [.int r7], mo_h gx (mo_i s 2 0) gs q)) tk_X9_tellClient (by omega) rfl trivial ?_
      exact pm_Wg.iret (pm_dec tk_X9_tellClient rfl) rfl rfl

def f_X9_finished (s : mo_S) (a0 : Int32) : Option (Int32 × mo_S) :=
  (match f_X9_tellClient s a0 0 with
  | none => none
  | some (r1, s2) =>
   some (r1, s2))
def tb_X9_finished : List pm_I := [(0, .aload_n 0, 0, 0), (1, .iload_n 1, 0, 0), (2, .iconst 0, 2, 0), (3, .invokevirtual 422, 355, 0), (6, .ireturn, 0, 0)]
theorem tk_X9_finished : ∀ e ∈ tb_X9_finished, pm_ck 275 e = true := List.all_eq_true.mp (by decide +kernel)
set_option maxRecDepth 20000 in
set_option maxHeartbeats 20000000 in
theorem e_X9_finished (d : Nat) (hd : 5 ≤ d) (gx : List pm_E) (gs : List (List pm_E)) (q : Nat × Nat × Nat) (s : mo_S) (a0 : Int32) (r : Int32) (s1 : mo_S) (H : f_X9_finished s a0 = some (r, s1)) : pm_Mt 275 d [.ref 64, .int a0] (mo_h gx s gs q) (.inl (some (.int r))) (mo_h gx s1 gs q) := by
  refine pm_Mt.of (by decide) (by decide +kernel) rfl rfl ?_
  obtain ⟨d, rfl⟩ : ∃ d', d = d' + 1 := ⟨d - 1, by omega⟩
  unfold f_X9_finished at H
  cases q3 : f_X9_tellClient s a0 0 with
  | none => rw [q3] at H; cases H
  | some w =>
   obtain ⟨r1, s2⟩ := w
   rw [q3] at H
   dsimp only at H
   refine pm_Wg.path (k := 3) (ds := []) (f' := (3, [some (.ref 64), some (.int a0)], [.int 0, .int a0, .ref 64], mo_h gx s gs q)) tk_X9_finished (by omega) rfl trivial ?_
   refine pm_Wg.callV (m' := 274) (ix := 422) (rr := 355) (pl := 2008) (b := 64) (As := [.int a0, .int 0]) (S := []) (by decide) rfl (pm_dec tk_X9_finished rfl) rfl rfl (by decide) rfl rfl (by decide) (Nat.le_of_ble_eq_true rfl) rfl (e_X9_tellClient d (by omega) gx gs q _ _ _ _ _ q3) ?_
   injection H with H
   injection H with H1 H2
   subst H1
   subst H2
   exact pm_Wg.iret (pm_dec tk_X9_finished rfl) rfl rfl

def f_X9_totalLatency (s : mo_S) (a0 : Int32) : Option (Int32 × mo_S) :=
  (match f_X9_tellClient s a0 1 with
  | none => none
  | some (r1, s2) =>
   some (r1, s2))
def tb_X9_totalLatency : List pm_I := [(0, .aload_n 0, 0, 0), (1, .iload_n 1, 0, 0), (2, .iconst 1, 3, 0), (3, .invokevirtual 422, 355, 0), (6, .ireturn, 0, 0)]
theorem tk_X9_totalLatency : ∀ e ∈ tb_X9_totalLatency, pm_ck 276 e = true := List.all_eq_true.mp (by decide +kernel)
set_option maxRecDepth 20000 in
set_option maxHeartbeats 20000000 in
theorem e_X9_totalLatency (d : Nat) (hd : 5 ≤ d) (gx : List pm_E) (gs : List (List pm_E)) (q : Nat × Nat × Nat) (s : mo_S) (a0 : Int32) (r : Int32) (s1 : mo_S) (H : f_X9_totalLatency s a0 = some (r, s1)) : pm_Mt 276 d [.ref 64, .int a0] (mo_h gx s gs q) (.inl (some (.int r))) (mo_h gx s1 gs q) := by
  refine pm_Mt.of (by decide) (by decide +kernel) rfl rfl ?_
  obtain ⟨d, rfl⟩ : ∃ d', d = d' + 1 := ⟨d - 1, by omega⟩
  unfold f_X9_totalLatency at H
  cases q3 : f_X9_tellClient s a0 1 with
  | none => rw [q3] at H; cases H
  | some w =>
   obtain ⟨r1, s2⟩ := w
   rw [q3] at H
   dsimp only at H
   refine pm_Wg.path (k := 3) (ds := []) (f' := (3, [some (.ref 64), some (.int a0)], [.int 1, .int a0, .ref 64], mo_h gx s gs q)) tk_X9_totalLatency (by omega) rfl trivial ?_
   refine pm_Wg.callV (m' := 274) (ix := 422) (rr := 355) (pl := 2008) (b := 64) (As := [.int a0, .int 1]) (S := []) (by decide) rfl (pm_dec tk_X9_totalLatency rfl) rfl rfl (by decide) rfl rfl (by decide) (Nat.le_of_ble_eq_true rfl) rfl (e_X9_tellClient d (by omega) gx gs q _ _ _ _ _ q3) ?_
   injection H with H
   injection H with H1 H2
   subst H1
   subst H2
   exact pm_Wg.iret (pm_dec tk_X9_totalLatency rfl) rfl rfl

def f_X9_worstLatency (s : mo_S) (a0 : Int32) : Option (Int32 × mo_S) :=
  (match f_X9_tellClient s a0 2 with
  | none => none
  | some (r1, s2) =>
   some (r1, s2))
def tb_X9_worstLatency : List pm_I := [(0, .aload_n 0, 0, 0), (1, .iload_n 1, 0, 0), (2, .iconst 2, 4, 0), (3, .invokevirtual 422, 355, 0), (6, .ireturn, 0, 0)]
theorem tk_X9_worstLatency : ∀ e ∈ tb_X9_worstLatency, pm_ck 277 e = true := List.all_eq_true.mp (by decide +kernel)
set_option maxRecDepth 20000 in
set_option maxHeartbeats 20000000 in
theorem e_X9_worstLatency (d : Nat) (hd : 5 ≤ d) (gx : List pm_E) (gs : List (List pm_E)) (q : Nat × Nat × Nat) (s : mo_S) (a0 : Int32) (r : Int32) (s1 : mo_S) (H : f_X9_worstLatency s a0 = some (r, s1)) : pm_Mt 277 d [.ref 64, .int a0] (mo_h gx s gs q) (.inl (some (.int r))) (mo_h gx s1 gs q) := by
  refine pm_Mt.of (by decide) (by decide +kernel) rfl rfl ?_
  obtain ⟨d, rfl⟩ : ∃ d', d = d' + 1 := ⟨d - 1, by omega⟩
  unfold f_X9_worstLatency at H
  cases q3 : f_X9_tellClient s a0 2 with
  | none => rw [q3] at H; cases H
  | some w =>
   obtain ⟨r1, s2⟩ := w
   rw [q3] at H
   dsimp only at H
   refine pm_Wg.path (k := 3) (ds := []) (f' := (3, [some (.ref 64), some (.int a0)], [.int 2, .int a0, .ref 64], mo_h gx s gs q)) tk_X9_worstLatency (by omega) rfl trivial ?_
   refine pm_Wg.callV (m' := 274) (ix := 422) (rr := 355) (pl := 2008) (b := 64) (As := [.int a0, .int 2]) (S := []) (by decide) rfl (pm_dec tk_X9_worstLatency rfl) rfl rfl (by decide) rfl rfl (by decide) (Nat.le_of_ble_eq_true rfl) rfl (e_X9_tellClient d (by omega) gx gs q _ _ _ _ _ q3) ?_
   injection H with H
   injection H with H1 H2
   subst H1
   subst H2
   exact pm_Wg.iret (pm_dec tk_X9_worstLatency rfl) rfl rfl

def f_X9_late (s : mo_S) (a0 : Int32) : Option (Int32 × mo_S) :=
  (match f_X9_tellClient s a0 3 with
  | none => none
  | some (r1, s2) =>
   some (r1, s2))
def tb_X9_late : List pm_I := [(0, .aload_n 0, 0, 0), (1, .iload_n 1, 0, 0), (2, .iconst 3, 5, 0), (3, .invokevirtual 422, 355, 0), (6, .ireturn, 0, 0)]
theorem tk_X9_late : ∀ e ∈ tb_X9_late, pm_ck 278 e = true := List.all_eq_true.mp (by decide +kernel)
set_option maxRecDepth 20000 in
set_option maxHeartbeats 20000000 in
theorem e_X9_late (d : Nat) (hd : 5 ≤ d) (gx : List pm_E) (gs : List (List pm_E)) (q : Nat × Nat × Nat) (s : mo_S) (a0 : Int32) (r : Int32) (s1 : mo_S) (H : f_X9_late s a0 = some (r, s1)) : pm_Mt 278 d [.ref 64, .int a0] (mo_h gx s gs q) (.inl (some (.int r))) (mo_h gx s1 gs q) := by
  refine pm_Mt.of (by decide) (by decide +kernel) rfl rfl ?_
  obtain ⟨d, rfl⟩ : ∃ d', d = d' + 1 := ⟨d - 1, by omega⟩
  unfold f_X9_late at H
  cases q3 : f_X9_tellClient s a0 3 with
  | none => rw [q3] at H; cases H
  | some w =>
   obtain ⟨r1, s2⟩ := w
   rw [q3] at H
   dsimp only at H
   refine pm_Wg.path (k := 3) (ds := []) (f' := (3, [some (.ref 64), some (.int a0)], [.int 3, .int a0, .ref 64], mo_h gx s gs q)) tk_X9_late (by omega) rfl trivial ?_
   refine pm_Wg.callV (m' := 274) (ix := 422) (rr := 355) (pl := 2008) (b := 64) (As := [.int a0, .int 3]) (S := []) (by decide) rfl (pm_dec tk_X9_late rfl) rfl rfl (by decide) rfl rfl (by decide) (Nat.le_of_ble_eq_true rfl) rfl (e_X9_tellClient d (by omega) gx gs q _ _ _ _ _ q3) ?_
   injection H with H
   injection H with H1 H2
   subst H1
   subst H2
   exact pm_Wg.iret (pm_dec tk_X9_late rfl) rfl rfl

def f_X9_stripeState (s : mo_S) (a0 : Int32) : Option (Int32 × mo_S) :=
  (match f_X9_isStripe (mo_i s 2 0) a0 with
  | none => none
  | some r1 =>
   (if r1 = 0 then
    (match f_X9_refuse (mo_i s 2 0) 1 with
    | none => none
    | some (r6, s7) =>
     some (r6, s7))
   else
    (match pm_inb 1 18186 with
    | false => none
    | true =>
    (if ((mo_i s 2 0).2.2.1 3 (Int32.toNatClampNeg 1)) = (-1) then
     some ((-1), (mo_i s 2 0))
    else
     (match f_X9_stateOf (mo_i s 2 0) a0 with
     | none => none
     | some r9 =>
      some (r9, (mo_i s 2 0)))))))
def tb_X9_stripeState : List pm_I := [(0, .aload_n 0, 0, 0), (1, .iconst 0, 2, 0), (2, .putfield 45, 161, 0), (5, .aload_n 0, 0, 0), (6, .iload_n 1, 0, 0), (7, .invokevirtual 215, 269, 0), (10, .ifCond .ne 9, 19, 0), (13, .aload_n 0, 0, 0), (14, .iconst 1, 3, 0), (15, .invokevirtual 69, 227, 0), (18, .ireturn, 0, 0), (19, .aload_n 0, 0, 0), (20, .getfield 16, 162, 0), (23, .iconst 1, 3, 0), (24, .iaload, 0, 0), (25, .iconst (-1), 1, 0), (26, .if_icmp .ne 7, 33, 0), (29, .iconst (-1), 1, 0), (30, .goto 8, 38, 0), (33, .aload_n 0, 0, 0), (34, .iload_n 1, 0, 0), (35, .invokevirtual 286, 278, 0), (38, .ireturn, 0, 0)]
theorem tk_X9_stripeState : ∀ e ∈ tb_X9_stripeState, pm_ck 279 e = true := List.all_eq_true.mp (by decide +kernel)
set_option maxRecDepth 20000 in
set_option maxHeartbeats 20000000 in
theorem e_X9_stripeState (d : Nat) (hd : 3 ≤ d) (gx : List pm_E) (gs : List (List pm_E)) (q : Nat × Nat × Nat) (s : mo_S) (a0 : Int32) (r : Int32) (s1 : mo_S) (H : f_X9_stripeState s a0 = some (r, s1)) : pm_Mt 279 d [.ref 64, .int a0] (mo_h gx s gs q) (.inl (some (.int r))) (mo_h gx s1 gs q) := by
  refine pm_Mt.of (by decide) (by decide +kernel) rfl rfl ?_
  obtain ⟨d, rfl⟩ : ∃ d', d = d' + 1 := ⟨d - 1, by omega⟩
  unfold f_X9_stripeState at H
  cases q2 : f_X9_isStripe (mo_i s 2 0) a0 with
  | none => rw [q2] at H; cases H
  | some r1 =>
   rw [q2] at H
   dsimp only at H
   refine pm_Wg.path (k := 5) (ds := []) (f' := (7, [some (.ref 64), some (.int a0)], [.int a0, .ref 64], mo_h gx (mo_i s 2 0) gs q)) tk_X9_stripeState (by omega) rfl trivial ?_
   refine pm_Wg.callV (m' := 152) (ix := 215) (rr := 269) (pl := 1663) (b := 64) (As := [.int a0]) (S := []) (by decide) rfl (pm_dec tk_X9_stripeState rfl) rfl rfl (by decide) rfl rfl (by decide) (Nat.le_of_ble_eq_true rfl) rfl (e_X9_isStripe d (by omega) gx gs q _ _ _ q2) ?_
   by_cases h3 : r1 = 0
   · rw [if_pos h3] at H
     cases q8 : f_X9_refuse (mo_i s 2 0) 1 with
     | none => rw [q8] at H; cases H
     | some w =>
      obtain ⟨r6, s7⟩ := w
      rw [q8] at H
      dsimp only at H
      refine pm_Wg.path (k := 3) (ds := [0]) (f' := (15, [some (.ref 64), some (.int a0)], [.int 1, .ref 64], mo_h gx (mo_i s 2 0) gs q)) tk_X9_stripeState (by omega) rfl ⟨h3, trivial⟩ ?_
      refine pm_Wg.callV (m' := 145) (ix := 69) (rr := 227) (pl := 1483) (b := 64) (As := [.int 1]) (S := []) (by decide) rfl (pm_dec tk_X9_stripeState rfl) rfl rfl (by decide) rfl rfl (by decide) (Nat.le_of_ble_eq_true rfl) rfl (e_X9_refuse d (by omega) gx gs q _ _ _ _ q8) ?_
      injection H with H
      injection H with H1 H2
      subst H1
      subst H2
      exact pm_Wg.iret (pm_dec tk_X9_stripeState rfl) rfl rfl
   · rw [if_neg h3] at H
     cases b4 : pm_inb 1 18186 with
     | false => rw [b4] at H; cases H
     | true =>
      rw [b4] at H
      dsimp only at H
      by_cases h5 : ((mo_i s 2 0).2.2.1 3 (Int32.toNatClampNeg 1)) = (-1)
      · rw [if_pos h5] at H
        injection H with H
        injection H with H1 H2
        subst H1
        subst H2
        refine pm_Wg.path (k := 9) (ds := [1, 0]) (f' := (38, [some (.ref 64), some (.int a0)], [.int (-1)], mo_h gx (mo_i s 2 0) gs q)) tk_X9_stripeState (by omega) rfl ⟨h5, pm_inb_vp b4, h3, trivial⟩ ?_
        exact pm_Wg.iret (pm_dec tk_X9_stripeState rfl) rfl rfl
      · rw [if_neg h5] at H
        cases q10 : f_X9_stateOf (mo_i s 2 0) a0 with
        | none => rw [q10] at H; cases H
        | some r9 =>
         rw [q10] at H
         dsimp only at H
         refine pm_Wg.path (k := 9) (ds := [1, 1]) (f' := (35, [some (.ref 64), some (.int a0)], [.int a0, .ref 64], mo_h gx (mo_i s 2 0) gs q)) tk_X9_stripeState (by omega) rfl ⟨h5, pm_inb_vp b4, h3, trivial⟩ ?_
         refine pm_Wg.callV (m' := 219) (ix := 286) (rr := 278) (pl := 1699) (b := 64) (As := [.int a0]) (S := []) (by decide) rfl (pm_dec tk_X9_stripeState rfl) rfl rfl (by decide) rfl rfl (by decide) (Nat.le_of_ble_eq_true rfl) rfl (e_X9_stateOf d (by omega) gx gs q _ _ _ q10) ?_
         injection H with H
         injection H with H1 H2
         subst H1
         subst H2
         exact pm_Wg.iret (pm_dec tk_X9_stripeState rfl) rfl rfl

def f_X9_isHeld (s : mo_S) (a0 : Int32) (a1 : Int32) : Option (Int32 × mo_S) :=
  (match f_X9_isArray s with
  | none => none
  | some r1 =>
   (if r1 = 0 then
    (if ((mo_i s 2 1).1 2) = 0 then
     (match f_X9_isHeldOn (mo_i s 2 1) a0 a1 with
     | none => none
     | some r5 =>
      (if r5 = 0 then
       some (0, (mo_i s 2 1))
      else
       some (1, (mo_i s 2 1))))
    else
     some (0, (mo_i s 2 1)))
   else
    (match f_X9_disks s with
    | none => none
    | some r8 =>
     (match f_X9_in s a0 0 (r8 - 1) with
     | none => none
     | some r10 =>
      (if r10 = 0 then
       (if ((mo_i s 2 1).1 2) = 0 then
        (match f_X9_isHeldOn (mo_i s 2 1) a0 a1 with
        | none => none
        | some r14 =>
         (if r14 = 0 then
          some (0, (mo_i s 2 1))
         else
          some (1, (mo_i s 2 1))))
       else
        some (0, (mo_i s 2 1)))
      else
       (match f_X9_isStripe s a1 with
       | none => none
       | some r17 =>
        (if r17 = 0 then
         (if ((mo_i s 2 1).1 2) = 0 then
          (match f_X9_isHeldOn (mo_i s 2 1) a0 a1 with
          | none => none
          | some r22 =>
           (if r22 = 0 then
            some (0, (mo_i s 2 1))
           else
            some (1, (mo_i s 2 1))))
         else
          some (0, (mo_i s 2 1)))
        else
         (if ((mo_i s 2 0).1 2) = 0 then
          (match f_X9_isHeldOn (mo_i s 2 0) a0 a1 with
          | none => none
          | some r25 =>
           (if r25 = 0 then
            some (0, (mo_i s 2 0))
           else
            some (1, (mo_i s 2 0))))
         else
          some (0, (mo_i s 2 0))))))))))
def tb_X9_isHeld : List pm_I := [(0, .aload_n 0, 0, 0), (1, .aload_n 0, 0, 0), (2, .invokevirtual 51, 254, 0), (5, .ifCond .eq 29, 34, 0), (8, .iload_n 1, 0, 0), (9, .iconst 0, 2, 0), (10, .aload_n 0, 0, 0), (11, .invokevirtual 55, 258, 0), (14, .iconst 1, 3, 0), (15, .isub, 0, 0), (16, .invokestatic 59, 233, 0), (19, .ifCond .eq 15, 34, 0), (22, .aload_n 0, 0, 0), (23, .iload_n 2, 0, 0), (24, .invokevirtual 215, 269, 0), (27, .ifCond .eq 7, 34, 0), (30, .iconst 0, 2, 0), (31, .goto 4, 35, 0), (34, .iconst 1, 3, 0), (35, .putfield 45, 161, 0), (38, .aload_n 0, 0, 0), (39, .getfield 45, 161, 0), (42, .ifCond .ne 16, 58, 0), (45, .aload_n 0, 0, 0), (46, .iload_n 1, 0, 0), (47, .iload_n 2, 0, 0), (48, .invokevirtual 279, 281, 0), (51, .ifCond .eq 7, 58, 0), (54, .iconst 1, 3, 0), (55, .goto 4, 59, 0), (58, .iconst 0, 2, 0), (59, .ireturn, 0, 0)]
theorem tk_X9_isHeld : ∀ e ∈ tb_X9_isHeld, pm_ck 280 e = true := List.all_eq_true.mp (by decide +kernel)
set_option maxRecDepth 20000 in
set_option maxHeartbeats 20000000 in
theorem e_X9_isHeld (d : Nat) (hd : 3 ≤ d) (gx : List pm_E) (gs : List (List pm_E)) (q : Nat × Nat × Nat) (s : mo_S) (a0 : Int32) (a1 : Int32) (r : Int32) (s1 : mo_S) (H : f_X9_isHeld s a0 a1 = some (r, s1)) : pm_Mt 280 d [.ref 64, .int a0, .int a1] (mo_h gx s gs q) (.inl (some (.int r))) (mo_h gx s1 gs q) := by
  refine pm_Mt.of (by decide) (by decide +kernel) rfl rfl ?_
  obtain ⟨d, rfl⟩ : ∃ d', d = d' + 1 := ⟨d - 1, by omega⟩
  unfold f_X9_isHeld at H
  cases q2 : f_X9_isArray s with
  | none => rw [q2] at H; cases H
  | some r1 =>
   rw [q2] at H
   dsimp only at H
   refine pm_Wg.path (k := 2) (ds := []) (f' := (2, [some (.ref 64), some (.int a0), some (.int a1)], [.ref 64, .ref 64], mo_h gx s gs q)) tk_X9_isHeld (by omega) rfl trivial ?_
   refine pm_Wg.callV (m' := 149) (ix := 51) (rr := 254) (pl := 1598) (b := 64) (As := []) (S := [.ref 64]) (by decide) rfl (pm_dec tk_X9_isHeld rfl) rfl rfl (by decide) rfl rfl (by decide) (Nat.le_of_ble_eq_true rfl) rfl (e_X9_isArray d (by omega) gx gs q _ _ q2) ?_
   by_cases h3 : r1 = 0
   · rw [if_pos h3] at H
     by_cases h4 : ((mo_i s 2 1).1 2) = 0
     · rw [if_pos h4] at H
       cases q6 : f_X9_isHeldOn (mo_i s 2 1) a0 a1 with
       | none => rw [q6] at H; cases H
       | some r5 =>
        rw [q6] at H
        dsimp only at H
        refine pm_Wg.path (k := 9) (ds := [1, 0]) (f' := (48, [some (.ref 64), some (.int a0), some (.int a1)], [.int a1, .int a0, .ref 64], mo_h gx (mo_i s 2 1) gs q)) tk_X9_isHeld (by omega) rfl ⟨h4, h3, trivial⟩ ?_
        refine pm_Wg.callV (m' := 217) (ix := 279) (rr := 281) (pl := 1711) (b := 64) (As := [.int a0, .int a1]) (S := []) (by decide) rfl (pm_dec tk_X9_isHeld rfl) rfl rfl (by decide) rfl rfl (by decide) (Nat.le_of_ble_eq_true rfl) rfl (e_X9_isHeldOn d (by omega) gx gs q _ _ _ _ q6) ?_
        by_cases h7 : r5 = 0
        · rw [if_pos h7] at H
          injection H with H
          injection H with H1 H2
          subst H1
          subst H2
          refine pm_Wg.path (k := 2) (ds := [1]) (f' := (59, [some (.ref 64), some (.int a0), some (.int a1)], [.int 0], mo_h gx (mo_i s 2 1) gs q)) tk_X9_isHeld (by omega) rfl ⟨h7, trivial⟩ ?_
          exact pm_Wg.iret (pm_dec tk_X9_isHeld rfl) rfl rfl
        · rw [if_neg h7] at H
          injection H with H
          injection H with H1 H2
          subst H1
          subst H2
          refine pm_Wg.path (k := 3) (ds := [0]) (f' := (59, [some (.ref 64), some (.int a0), some (.int a1)], [.int 1], mo_h gx (mo_i s 2 1) gs q)) tk_X9_isHeld (by omega) rfl ⟨h7, trivial⟩ ?_
          exact pm_Wg.iret (pm_dec tk_X9_isHeld rfl) rfl rfl
     · rw [if_neg h4] at H
       injection H with H
       injection H with H1 H2
       subst H1
       subst H2
       refine pm_Wg.path (k := 7) (ds := [1, 1]) (f' := (59, [some (.ref 64), some (.int a0), some (.int a1)], [.int 0], mo_h gx (mo_i s 2 1) gs q)) tk_X9_isHeld (by omega) rfl ⟨h4, h3, trivial⟩ ?_
       exact pm_Wg.iret (pm_dec tk_X9_isHeld rfl) rfl rfl
   · rw [if_neg h3] at H
     cases q9 : f_X9_disks s with
     | none => rw [q9] at H; cases H
     | some r8 =>
      rw [q9] at H
      dsimp only at H
      refine pm_Wg.path (k := 4) (ds := [0]) (f' := (11, [some (.ref 64), some (.int a0), some (.int a1)], [.ref 64, .int 0, .int a0, .ref 64], mo_h gx s gs q)) tk_X9_isHeld (by omega) rfl ⟨h3, trivial⟩ ?_
      refine pm_Wg.callV (m' := 150) (ix := 55) (rr := 258) (pl := 1618) (b := 64) (As := []) (S := [.int 0, .int a0, .ref 64]) (by decide) rfl (pm_dec tk_X9_isHeld rfl) rfl rfl (by decide) rfl rfl (by decide) (Nat.le_of_ble_eq_true rfl) rfl (e_X9_disks d (by omega) gx gs q _ _ q9) ?_
      cases q11 : f_X9_in s a0 0 (r8 - 1) with
      | none => rw [q11] at H; cases H
      | some r10 =>
       rw [q11] at H
       dsimp only at H
       refine pm_Wg.path (k := 2) (ds := []) (f' := (16, [some (.ref 64), some (.int a0), some (.int a1)], [.int (r8 - 1), .int 0, .int a0, .ref 64], mo_h gx s gs q)) tk_X9_isHeld (by omega) rfl trivial ?_
       refine pm_Wg.callS (m' := 147) (ix := 59) (rr := 233) (pl := 1507) (As := [.int a0, .int 0, .int (r8 - 1)]) (S := [.ref 64]) (by decide) rfl (pm_dec tk_X9_isHeld rfl) rfl rfl rfl (Nat.le_of_ble_eq_true rfl) rfl (e_X9_in d (by omega) gx gs q _ _ _ _ _ q11) ?_
       by_cases h12 : r10 = 0
       · rw [if_pos h12] at H
         by_cases h13 : ((mo_i s 2 1).1 2) = 0
         · rw [if_pos h13] at H
           cases q15 : f_X9_isHeldOn (mo_i s 2 1) a0 a1 with
           | none => rw [q15] at H; cases H
           | some r14 =>
            rw [q15] at H
            dsimp only at H
            refine pm_Wg.path (k := 9) (ds := [1, 0]) (f' := (48, [some (.ref 64), some (.int a0), some (.int a1)], [.int a1, .int a0, .ref 64], mo_h gx (mo_i s 2 1) gs q)) tk_X9_isHeld (by omega) rfl ⟨h13, h12, trivial⟩ ?_
            refine pm_Wg.callV (m' := 217) (ix := 279) (rr := 281) (pl := 1711) (b := 64) (As := [.int a0, .int a1]) (S := []) (by decide) rfl (pm_dec tk_X9_isHeld rfl) rfl rfl (by decide) rfl rfl (by decide) (Nat.le_of_ble_eq_true rfl) rfl (e_X9_isHeldOn d (by omega) gx gs q _ _ _ _ q15) ?_
            by_cases h16 : r14 = 0
            · rw [if_pos h16] at H
              injection H with H
              injection H with H1 H2
              subst H1
              subst H2
              refine pm_Wg.path (k := 2) (ds := [1]) (f' := (59, [some (.ref 64), some (.int a0), some (.int a1)], [.int 0], mo_h gx (mo_i s 2 1) gs q)) tk_X9_isHeld (by omega) rfl ⟨h16, trivial⟩ ?_
              exact pm_Wg.iret (pm_dec tk_X9_isHeld rfl) rfl rfl
            · rw [if_neg h16] at H
              injection H with H
              injection H with H1 H2
              subst H1
              subst H2
              refine pm_Wg.path (k := 3) (ds := [0]) (f' := (59, [some (.ref 64), some (.int a0), some (.int a1)], [.int 1], mo_h gx (mo_i s 2 1) gs q)) tk_X9_isHeld (by omega) rfl ⟨h16, trivial⟩ ?_
              exact pm_Wg.iret (pm_dec tk_X9_isHeld rfl) rfl rfl
         · rw [if_neg h13] at H
           injection H with H
           injection H with H1 H2
           subst H1
           subst H2
           refine pm_Wg.path (k := 7) (ds := [1, 1]) (f' := (59, [some (.ref 64), some (.int a0), some (.int a1)], [.int 0], mo_h gx (mo_i s 2 1) gs q)) tk_X9_isHeld (by omega) rfl ⟨h13, h12, trivial⟩ ?_
           exact pm_Wg.iret (pm_dec tk_X9_isHeld rfl) rfl rfl
       · rw [if_neg h12] at H
         cases q18 : f_X9_isStripe s a1 with
         | none => rw [q18] at H; cases H
         | some r17 =>
          rw [q18] at H
          dsimp only at H
          refine pm_Wg.path (k := 3) (ds := [0]) (f' := (24, [some (.ref 64), some (.int a0), some (.int a1)], [.int a1, .ref 64, .ref 64], mo_h gx s gs q)) tk_X9_isHeld (by omega) rfl ⟨h12, trivial⟩ ?_
          refine pm_Wg.callV (m' := 152) (ix := 215) (rr := 269) (pl := 1663) (b := 64) (As := [.int a1]) (S := [.ref 64]) (by decide) rfl (pm_dec tk_X9_isHeld rfl) rfl rfl (by decide) rfl rfl (by decide) (Nat.le_of_ble_eq_true rfl) rfl (e_X9_isStripe d (by omega) gx gs q _ _ _ q18) ?_
          by_cases h19 : r17 = 0
          · rw [if_pos h19] at H
            by_cases h20 : ((mo_i s 2 1).1 2) = 0
            · rw [if_pos h20] at H
              cases q23 : f_X9_isHeldOn (mo_i s 2 1) a0 a1 with
              | none => rw [q23] at H; cases H
              | some r22 =>
               rw [q23] at H
               dsimp only at H
               refine pm_Wg.path (k := 9) (ds := [1, 0]) (f' := (48, [some (.ref 64), some (.int a0), some (.int a1)], [.int a1, .int a0, .ref 64], mo_h gx (mo_i s 2 1) gs q)) tk_X9_isHeld (by omega) rfl ⟨h20, h19, trivial⟩ ?_
               refine pm_Wg.callV (m' := 217) (ix := 279) (rr := 281) (pl := 1711) (b := 64) (As := [.int a0, .int a1]) (S := []) (by decide) rfl (pm_dec tk_X9_isHeld rfl) rfl rfl (by decide) rfl rfl (by decide) (Nat.le_of_ble_eq_true rfl) rfl (e_X9_isHeldOn d (by omega) gx gs q _ _ _ _ q23) ?_
               by_cases h24 : r22 = 0
               · rw [if_pos h24] at H
                 injection H with H
                 injection H with H1 H2
                 subst H1
                 subst H2
                 refine pm_Wg.path (k := 2) (ds := [1]) (f' := (59, [some (.ref 64), some (.int a0), some (.int a1)], [.int 0], mo_h gx (mo_i s 2 1) gs q)) tk_X9_isHeld (by omega) rfl ⟨h24, trivial⟩ ?_
                 exact pm_Wg.iret (pm_dec tk_X9_isHeld rfl) rfl rfl
               · rw [if_neg h24] at H
                 injection H with H
                 injection H with H1 H2
                 subst H1
                 subst H2
                 refine pm_Wg.path (k := 3) (ds := [0]) (f' := (59, [some (.ref 64), some (.int a0), some (.int a1)], [.int 1], mo_h gx (mo_i s 2 1) gs q)) tk_X9_isHeld (by omega) rfl ⟨h24, trivial⟩ ?_
                 exact pm_Wg.iret (pm_dec tk_X9_isHeld rfl) rfl rfl
            · rw [if_neg h20] at H
              injection H with H
              injection H with H1 H2
              subst H1
              subst H2
              refine pm_Wg.path (k := 7) (ds := [1, 1]) (f' := (59, [some (.ref 64), some (.int a0), some (.int a1)], [.int 0], mo_h gx (mo_i s 2 1) gs q)) tk_X9_isHeld (by omega) rfl ⟨h20, h19, trivial⟩ ?_
              exact pm_Wg.iret (pm_dec tk_X9_isHeld rfl) rfl rfl
          · rw [if_neg h19] at H
            by_cases h21 : ((mo_i s 2 0).1 2) = 0
            · rw [if_pos h21] at H
              cases q26 : f_X9_isHeldOn (mo_i s 2 0) a0 a1 with
              | none => rw [q26] at H; cases H
              | some r25 =>
               rw [q26] at H
               dsimp only at H
               refine pm_Wg.path (k := 10) (ds := [0, 0]) (f' := (48, [some (.ref 64), some (.int a0), some (.int a1)], [.int a1, .int a0, .ref 64], mo_h gx (mo_i s 2 0) gs q)) tk_X9_isHeld (by omega) rfl ⟨h21, h19, trivial⟩ ?_
               refine pm_Wg.callV (m' := 217) (ix := 279) (rr := 281) (pl := 1711) (b := 64) (As := [.int a0, .int a1]) (S := []) (by decide) rfl (pm_dec tk_X9_isHeld rfl) rfl rfl (by decide) rfl rfl (by decide) (Nat.le_of_ble_eq_true rfl) rfl (e_X9_isHeldOn d (by omega) gx gs q _ _ _ _ q26) ?_
               by_cases h27 : r25 = 0
               · rw [if_pos h27] at H
                 injection H with H
                 injection H with H1 H2
                 subst H1
                 subst H2
                 refine pm_Wg.path (k := 2) (ds := [1]) (f' := (59, [some (.ref 64), some (.int a0), some (.int a1)], [.int 0], mo_h gx (mo_i s 2 0) gs q)) tk_X9_isHeld (by omega) rfl ⟨h27, trivial⟩ ?_
                 exact pm_Wg.iret (pm_dec tk_X9_isHeld rfl) rfl rfl
               · rw [if_neg h27] at H
                 injection H with H
                 injection H with H1 H2
                 subst H1
                 subst H2
                 refine pm_Wg.path (k := 3) (ds := [0]) (f' := (59, [some (.ref 64), some (.int a0), some (.int a1)], [.int 1], mo_h gx (mo_i s 2 0) gs q)) tk_X9_isHeld (by omega) rfl ⟨h27, trivial⟩ ?_
                 exact pm_Wg.iret (pm_dec tk_X9_isHeld rfl) rfl rfl
            · rw [if_neg h21] at H
              injection H with H
              injection H with H1 H2
              subst H1
              subst H2
              refine pm_Wg.path (k := 8) (ds := [0, 1]) (f' := (59, [some (.ref 64), some (.int a0), some (.int a1)], [.int 0], mo_h gx (mo_i s 2 0) gs q)) tk_X9_isHeld (by omega) rfl ⟨h21, h19, trivial⟩ ?_
              exact pm_Wg.iret (pm_dec tk_X9_isHeld rfl) rfl rfl

def f_X9_completedAt (s : mo_S) : Option (Int32 × mo_S) :=
  (match pm_inb 7 18186 with
  | false => none
  | true =>
  (match f_X9_told s (s.2.2.1 3 (Int32.toNatClampNeg 7)) with
  | none => none
  | some (r2, s3) =>
   some (r2, s3)))
def tb_X9_completedAt : List pm_I := [(0, .aload_n 0, 0, 0), (1, .aload_n 0, 0, 0), (2, .getfield 16, 162, 0), (5, .bipush 7, 9, 0), (7, .iaload, 0, 0), (8, .invokevirtual 80, 230, 0), (11, .ireturn, 0, 0)]
theorem tk_X9_completedAt : ∀ e ∈ tb_X9_completedAt, pm_ck 283 e = true := List.all_eq_true.mp (by decide +kernel)
set_option maxRecDepth 20000 in
set_option maxHeartbeats 20000000 in
theorem e_X9_completedAt (d : Nat) (hd : 2 ≤ d) (gx : List pm_E) (gs : List (List pm_E)) (q : Nat × Nat × Nat) (s : mo_S) (r : Int32) (s1 : mo_S) (H : f_X9_completedAt s = some (r, s1)) : pm_Mt 283 d [.ref 64] (mo_h gx s gs q) (.inl (some (.int r))) (mo_h gx s1 gs q) := by
  refine pm_Mt.of (by decide) (by decide +kernel) rfl rfl ?_
  obtain ⟨d, rfl⟩ : ∃ d', d = d' + 1 := ⟨d - 1, by omega⟩
  unfold f_X9_completedAt at H
  cases b1 : pm_inb 7 18186 with
  | false => rw [b1] at H; cases H
  | true =>
   rw [b1] at H
   dsimp only at H
   cases q4 : f_X9_told s (s.2.2.1 3 (Int32.toNatClampNeg 7)) with
   | none => rw [q4] at H; cases H
   | some w =>
    obtain ⟨r2, s3⟩ := w
    rw [q4] at H
    dsimp only at H
    refine pm_Wg.path (k := 5) (ds := []) (f' := (8, [some (.ref 64)], [.int (s.2.2.1 3 (Int32.toNatClampNeg 7)), .ref 64], mo_h gx s gs q)) tk_X9_completedAt (by omega) rfl ⟨pm_inb_vp b1, trivial⟩ ?_
    refine pm_Wg.callV (m' := 146) (ix := 80) (rr := 230) (pl := 1495) (b := 64) (As := [.int (s.2.2.1 3 (Int32.toNatClampNeg 7))]) (S := []) (by decide) rfl (pm_dec tk_X9_completedAt rfl) rfl rfl (by decide) rfl rfl (by decide) (Nat.le_of_ble_eq_true rfl) rfl (e_X9_told d (by omega) gx gs q _ _ _ _ q4) ?_
    injection H with H
    injection H with H1 H2
    subst H1
    subst H2
    exact pm_Wg.iret (pm_dec tk_X9_completedAt rfl) rfl rfl

def f_X9_savedReads (s : mo_S) : Option (Int32 × mo_S) :=
  (match pm_inb 5 18186 with
  | false => none
  | true =>
  (match f_X9_told s (s.2.2.1 3 (Int32.toNatClampNeg 5)) with
  | none => none
  | some (r2, s3) =>
   some (r2, s3)))
def tb_X9_savedReads : List pm_I := [(0, .aload_n 0, 0, 0), (1, .aload_n 0, 0, 0), (2, .getfield 16, 162, 0), (5, .iconst 5, 7, 0), (6, .iaload, 0, 0), (7, .invokevirtual 80, 230, 0), (10, .ireturn, 0, 0)]
theorem tk_X9_savedReads : ∀ e ∈ tb_X9_savedReads, pm_ck 284 e = true := List.all_eq_true.mp (by decide +kernel)
set_option maxRecDepth 20000 in
set_option maxHeartbeats 20000000 in
theorem e_X9_savedReads (d : Nat) (hd : 2 ≤ d) (gx : List pm_E) (gs : List (List pm_E)) (q : Nat × Nat × Nat) (s : mo_S) (r : Int32) (s1 : mo_S) (H : f_X9_savedReads s = some (r, s1)) : pm_Mt 284 d [.ref 64] (mo_h gx s gs q) (.inl (some (.int r))) (mo_h gx s1 gs q) := by
  refine pm_Mt.of (by decide) (by decide +kernel) rfl rfl ?_
  obtain ⟨d, rfl⟩ : ∃ d', d = d' + 1 := ⟨d - 1, by omega⟩
  unfold f_X9_savedReads at H
  cases b1 : pm_inb 5 18186 with
  | false => rw [b1] at H; cases H
  | true =>
   rw [b1] at H
   dsimp only at H
   cases q4 : f_X9_told s (s.2.2.1 3 (Int32.toNatClampNeg 5)) with
   | none => rw [q4] at H; cases H
   | some w =>
    obtain ⟨r2, s3⟩ := w
    rw [q4] at H
    dsimp only at H
    refine pm_Wg.path (k := 5) (ds := []) (f' := (7, [some (.ref 64)], [.int (s.2.2.1 3 (Int32.toNatClampNeg 5)), .ref 64], mo_h gx s gs q)) tk_X9_savedReads (by omega) rfl ⟨pm_inb_vp b1, trivial⟩ ?_
    refine pm_Wg.callV (m' := 146) (ix := 80) (rr := 230) (pl := 1495) (b := 64) (As := [.int (s.2.2.1 3 (Int32.toNatClampNeg 5))]) (S := []) (by decide) rfl (pm_dec tk_X9_savedReads rfl) rfl rfl (by decide) rfl rfl (by decide) (Nat.le_of_ble_eq_true rfl) rfl (e_X9_told d (by omega) gx gs q _ _ _ _ q4) ?_
    injection H with H
    injection H with H1 H2
    subst H1
    subst H2
    exact pm_Wg.iret (pm_dec tk_X9_savedReads rfl) rfl rfl

def f_X9_piggybackedReads (s : mo_S) : Option (Int32 × mo_S) :=
  (match pm_inb 6 18186 with
  | false => none
  | true =>
  (match f_X9_told s (s.2.2.1 3 (Int32.toNatClampNeg 6)) with
  | none => none
  | some (r2, s3) =>
   some (r2, s3)))
def tb_X9_piggybackedReads : List pm_I := [(0, .aload_n 0, 0, 0), (1, .aload_n 0, 0, 0), (2, .getfield 16, 162, 0), (5, .bipush 6, 8, 0), (7, .iaload, 0, 0), (8, .invokevirtual 80, 230, 0), (11, .ireturn, 0, 0)]
theorem tk_X9_piggybackedReads : ∀ e ∈ tb_X9_piggybackedReads, pm_ck 285 e = true := List.all_eq_true.mp (by decide +kernel)
set_option maxRecDepth 20000 in
set_option maxHeartbeats 20000000 in
theorem e_X9_piggybackedReads (d : Nat) (hd : 2 ≤ d) (gx : List pm_E) (gs : List (List pm_E)) (q : Nat × Nat × Nat) (s : mo_S) (r : Int32) (s1 : mo_S) (H : f_X9_piggybackedReads s = some (r, s1)) : pm_Mt 285 d [.ref 64] (mo_h gx s gs q) (.inl (some (.int r))) (mo_h gx s1 gs q) := by
  refine pm_Mt.of (by decide) (by decide +kernel) rfl rfl ?_
  obtain ⟨d, rfl⟩ : ∃ d', d = d' + 1 := ⟨d - 1, by omega⟩
  unfold f_X9_piggybackedReads at H
  cases b1 : pm_inb 6 18186 with
  | false => rw [b1] at H; cases H
  | true =>
   rw [b1] at H
   dsimp only at H
   cases q4 : f_X9_told s (s.2.2.1 3 (Int32.toNatClampNeg 6)) with
   | none => rw [q4] at H; cases H
   | some w =>
    obtain ⟨r2, s3⟩ := w
    rw [q4] at H
    dsimp only at H
    refine pm_Wg.path (k := 5) (ds := []) (f' := (8, [some (.ref 64)], [.int (s.2.2.1 3 (Int32.toNatClampNeg 6)), .ref 64], mo_h gx s gs q)) tk_X9_piggybackedReads (by omega) rfl ⟨pm_inb_vp b1, trivial⟩ ?_
    refine pm_Wg.callV (m' := 146) (ix := 80) (rr := 230) (pl := 1495) (b := 64) (As := [.int (s.2.2.1 3 (Int32.toNatClampNeg 6))]) (S := []) (by decide) rfl (pm_dec tk_X9_piggybackedReads rfl) rfl rfl (by decide) rfl rfl (by decide) (Nat.le_of_ble_eq_true rfl) rfl (e_X9_told d (by omega) gx gs q _ _ _ _ q4) ?_
    injection H with H
    injection H with H1 H2
    subst H1
    subst H2
    exact pm_Wg.iret (pm_dec tk_X9_piggybackedReads rfl) rfl rfl

def f_X9_stripeDeadline (s : mo_S) (a0 : Int32) : Option (Int32 × mo_S) :=
  (match f_X9_isStripe (mo_i s 2 0) a0 with
  | none => none
  | some r1 =>
   (if r1 = 0 then
    (match f_X9_refuse (mo_i s 2 0) 1 with
    | none => none
    | some (r4, s5) =>
     some (r4, s5))
   else
    (match f_X9_deadlineOf (mo_i s 2 0) a0 with
    | none => none
    | some r7 =>
     some (r7, (mo_i s 2 0)))))
def tb_X9_stripeDeadline : List pm_I := [(0, .aload_n 0, 0, 0), (1, .iconst 0, 2, 0), (2, .putfield 45, 161, 0), (5, .aload_n 0, 0, 0), (6, .iload_n 1, 0, 0), (7, .invokevirtual 215, 269, 0), (10, .ifCond .eq 11, 21, 0), (13, .aload_n 0, 0, 0), (14, .iload_n 1, 0, 0), (15, .invokevirtual 311, 307, 0), (18, .goto 8, 26, 0), (21, .aload_n 0, 0, 0), (22, .iconst 1, 3, 0), (23, .invokevirtual 69, 227, 0), (26, .ireturn, 0, 0)]
theorem tk_X9_stripeDeadline : ∀ e ∈ tb_X9_stripeDeadline, pm_ck 286 e = true := List.all_eq_true.mp (by decide +kernel)
set_option maxRecDepth 20000 in
set_option maxHeartbeats 20000000 in
theorem e_X9_stripeDeadline (d : Nat) (hd : 3 ≤ d) (gx : List pm_E) (gs : List (List pm_E)) (q : Nat × Nat × Nat) (s : mo_S) (a0 : Int32) (r : Int32) (s1 : mo_S) (H : f_X9_stripeDeadline s a0 = some (r, s1)) : pm_Mt 286 d [.ref 64, .int a0] (mo_h gx s gs q) (.inl (some (.int r))) (mo_h gx s1 gs q) := by
  refine pm_Mt.of (by decide) (by decide +kernel) rfl rfl ?_
  obtain ⟨d, rfl⟩ : ∃ d', d = d' + 1 := ⟨d - 1, by omega⟩
  unfold f_X9_stripeDeadline at H
  cases q2 : f_X9_isStripe (mo_i s 2 0) a0 with
  | none => rw [q2] at H; cases H
  | some r1 =>
   rw [q2] at H
   dsimp only at H
   refine pm_Wg.path (k := 5) (ds := []) (f' := (7, [some (.ref 64), some (.int a0)], [.int a0, .ref 64], mo_h gx (mo_i s 2 0) gs q)) tk_X9_stripeDeadline (by omega) rfl trivial ?_
   refine pm_Wg.callV (m' := 152) (ix := 215) (rr := 269) (pl := 1663) (b := 64) (As := [.int a0]) (S := []) (by decide) rfl (pm_dec tk_X9_stripeDeadline rfl) rfl rfl (by decide) rfl rfl (by decide) (Nat.le_of_ble_eq_true rfl) rfl (e_X9_isStripe d (by omega) gx gs q _ _ _ q2) ?_
   by_cases h3 : r1 = 0
   · rw [if_pos h3] at H
     cases q6 : f_X9_refuse (mo_i s 2 0) 1 with
     | none => rw [q6] at H; cases H
     | some w =>
      obtain ⟨r4, s5⟩ := w
      rw [q6] at H
      dsimp only at H
      refine pm_Wg.path (k := 3) (ds := [1]) (f' := (23, [some (.ref 64), some (.int a0)], [.int 1, .ref 64], mo_h gx (mo_i s 2 0) gs q)) tk_X9_stripeDeadline (by omega) rfl ⟨h3, trivial⟩ ?_
      refine pm_Wg.callV (m' := 145) (ix := 69) (rr := 227) (pl := 1483) (b := 64) (As := [.int 1]) (S := []) (by decide) rfl (pm_dec tk_X9_stripeDeadline rfl) rfl rfl (by decide) rfl rfl (by decide) (Nat.le_of_ble_eq_true rfl) rfl (e_X9_refuse d (by omega) gx gs q _ _ _ _ q6) ?_
      injection H with H
      injection H with H1 H2
      subst H1
      subst H2
      exact pm_Wg.iret (pm_dec tk_X9_stripeDeadline rfl) rfl rfl
   · rw [if_neg h3] at H
     cases q8 : f_X9_deadlineOf (mo_i s 2 0) a0 with
     | none => rw [q8] at H; cases H
     | some r7 =>
      rw [q8] at H
      dsimp only at H
      refine pm_Wg.path (k := 3) (ds := [0]) (f' := (15, [some (.ref 64), some (.int a0)], [.int a0, .ref 64], mo_h gx (mo_i s 2 0) gs q)) tk_X9_stripeDeadline (by omega) rfl ⟨h3, trivial⟩ ?_
      refine pm_Wg.callV (m' := 226) (ix := 311) (rr := 307) (pl := 1816) (b := 64) (As := [.int a0]) (S := []) (by decide) rfl (pm_dec tk_X9_stripeDeadline rfl) rfl rfl (by decide) rfl rfl (by decide) (Nat.le_of_ble_eq_true rfl) rfl (e_X9_deadlineOf d (by omega) gx gs q _ _ _ q8) ?_
      injection H with H
      injection H with H1 H2
      subst H1
      subst H2
      refine pm_Wg.path (k := 1) (ds := []) (f' := (26, [some (.ref 64), some (.int a0)], [.int r7], mo_h gx (mo_i s 2 0) gs q)) tk_X9_stripeDeadline (by omega) rfl trivial ?_
      exact pm_Wg.iret (pm_dec tk_X9_stripeDeadline rfl) rfl rfl
