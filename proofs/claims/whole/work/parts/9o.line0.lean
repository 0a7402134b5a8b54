/-! A line of a trace: the reference's text in pieces; the line's end. -/
def rl_u (s : mo_S) (at' l2 : Int32) : Option (Int32 × mo_S) :=
  match f_X9_units s with
  | none => none
  | some r => (match f_X9_readNumber s 0 (r - 1) with
    | none => none
    | some (r38, s39) => if r38 = 0 then some (0, s39) else
      (match pm_inb (at' + 3) 500 with
      | false => none
      | true => fc_X9_readLine_c1 (mo_a s39 18 (at' + 3) (s39.1 13)) at' l2 (-1) (at' + 4)))
def rl_w (s : mo_S) (at' l2 v : Int32) : Option (Int32 × mo_S) :=
  match pm_inb (at' + 2) 500 with
  | false => none
  | true => (match f_X9_passWord (mo_a s 18 (at' + 2) v) with
    | none => none
    | some s34 => rl_u s34 at' l2)
def rl_s (s : mo_S) (at' l2 : Int32) : Option (Int32 × mo_S) :=
  match f_X9_seesWord s with
  | none => none
  | some (r22, s23) => if r22 = 0 then some (0, s23) else
    (if (lg_cmp s23.2.1 19039379) = 0 then (if (lg_cmp s23.2.1 790941875) = 0 then rl_w s23 at' l2 1 else rl_w s23 at' l2 0)
    else (if (lg_cmp s23.2.1 790941875) = 0 then (if (lg_cmp s23.2.1 790941875) = 0 then rl_w s23 at' l2 1 else rl_w s23 at' l2 0)
      else (match f_X9_fails s23 1 (s23.1 12) with
        | none => none
        | some (r170, s171) => (if r170 &&& 1 = r170 then some (r170, s171) else none))))
def rl_n (s12 : mo_S) (at' l2 : Int32) : Option (Int32 × mo_S) :=
  match pm_inb at' 500 with
  | false => none
  | true => (match pm_inb 6 26 with
    | false => none
    | true => (match f_X9_readNumber (mo_a s12 18 at' (s12.1 13)) 1 (((mo_a s12 18 at' (s12.1 13)).2.2.1 0 (Int32.toNatClampNeg 6)) - 1) with
      | none => none
      | some (r17, s18) => if r17 = 0 then some (0, s18) else
        (match pm_inb (at' + 1) 500 with
        | false => none
        | true => rl_s (mo_a s18 18 (at' + 1) (s18.1 13)) at' l2)))
def rl_f (s6 : mo_S) (at' l2 : Int32) : Option (Int32 × mo_S) :=
  match f_X9_readNumber s6 l2 99999 with
  | none => none
  | some (r11, s12) => if r11 = 0 then some (0, s12) else rl_n s12 at' l2
theorem rl_eq (s : mo_S) : f_X9_readLine s = (if (s.1 20) = 100 then (match f_X9_fails s 3 (s.1 12) with
   | none => none
   | some (r2, s3) => (if r2 &&& 1 = r2 then some (r2, s3) else none))
  else (match f_X9_passWord s with
   | none => none
   | some s6 => (if (s6.1 20) = 0 then (match pm_inb 0 18186 with
      | false => none
      | true => rl_f s6 (5 * (s6.1 20)) ((s6.2.2.1 3 (Int32.toNatClampNeg 0)) + 1))
     else (match pm_inb ((5 * (s6.1 20)) - 5) 500 with
      | false => none
      | true => rl_f s6 (5 * (s6.1 20)) (s6.2.2.1 18 (Int32.toNatClampNeg ((5 * (s6.1 20)) - 5))))))) := rfl
