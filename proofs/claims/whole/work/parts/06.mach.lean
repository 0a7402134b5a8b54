/-! The pure machine: abstract cells, heaps and frames; one instruction. An abstract reference is a number (group * 64 + place); .retAddr k is the String constant k; .float w a reference of which nothing is known. -/
abbrev pm_E : Type := (Nat × vp_A) ⊕ (Nat × List Value)
abbrev pm_H : Type := List (List pm_E) × Nat × Nat × Nat
abbrev pm_F : Type := Nat × List (Option Value) × List Value × pm_H
abbrev pm_R : Type := Option (Option Prop × pm_F)
def pm_lk (h : pm_H) (i : Nat) : Option pm_E := (h.1.getD (i / 64) [])[i % 64]?
def pm_st (h : pm_H) (i : Nat) (c : pm_E) : pm_H := (h.1.set (i / 64) ((h.1.getD (i / 64) []).set (i % 64) c), h.2)
def pm_id (h : pm_H) (g : Nat) : Nat := g * 64 + (h.1.getD g []).length
def pm_pu (h : pm_H) (g : Nat) (c : pm_E) (n : Nat) : pm_H := (h.1.set g (h.1.getD g [] ++ [c]), g, h.2.2.1 + 1, h.2.2.2 + n)
def pm_s1 (L : List (Option Value)) (i : Nat) (v : Value) : List (Option Value) := match L[i - 1]? with
  | some (some (.long _)) => (L.set (i - 1) none).set i (some v)
  | _ => L.set i (some v)
def pm_s2 (L : List (Option Value)) (i : Nat) (v : Value) : List (Option Value) := (pm_s1 L i v).set (i + 1) none
def pm_kt (ty : FieldType) : Nat := match ty with
  | .int => 0
  | .long => 1
  | .object _ => 2
  | .array _ => 2
  | _ => 3
def pm_vk (v : Value) : Nat := match v with
  | .int _ => 0
  | .long _ => 1
  | .ref _ => 2
  | .null => 2
  | _ => 4
def pm_sum (S : List Value) : Nat := match S with
  | [] => 0
  | v :: t => (match v with | .long _ => 2 | .double _ => 2 | _ => 1) + pm_sum t
def pm_br (c : Prop) (dir t f : Nat) (L : List (Option Value)) (S : List Value) (h : pm_H) : pm_R := match dir with
  | 0 => some (some (¬ c), (f, L, S, h))
  | _ => some (some c, (t, L, S, h))
def pm_lda (i pc : Nat) (L : List (Option Value)) (S : List Value) (h : pm_H) : pm_R := match L[i]? with
  | some (some (.ref x)) => some (none, (pc, L, .ref x :: S, h))
  | some (some (.retAddr x)) => some (none, (pc, L, .retAddr x :: S, h))
  | some (some .null) => some (none, (pc, L, .null :: S, h))
  | _ => none
def pm_ldi (i pc : Nat) (L : List (Option Value)) (S : List Value) (h : pm_H) : pm_R := match L[i]? with
  | some (some (.int x)) => some (none, (pc, L, .int x :: S, h))
  | _ => none
def pm_ldl (i pc : Nat) (L : List (Option Value)) (S : List Value) (h : pm_H) : pm_R := match L[i]? with
  | some (some (.long x)) => some (none, (pc, L, .long x :: S, h))
  | _ => none
def pm_sti (i pc : Nat) (L : List (Option Value)) (S : List Value) (h : pm_H) : pm_R := match S with
  | .int x :: S' => (match Nat.blt i L.length with
    | true => some (none, (pc, pm_s1 L i (.int x), S', h))
    | false => none)
  | _ => none
def pm_sta (i pc : Nat) (L : List (Option Value)) (S : List Value) (h : pm_H) : pm_R := match Nat.blt i L.length with
  | true => (match S with
    | .ref x :: S' => some (none, (pc, pm_s1 L i (.ref x), S', h))
    | .retAddr x :: S' => some (none, (pc, pm_s1 L i (.retAddr x), S', h))
    | .null :: S' => some (none, (pc, pm_s1 L i .null, S', h))
    | _ => none)
  | false => none
def pm_stl (i pc : Nat) (L : List (Option Value)) (S : List Value) (h : pm_H) : pm_R := match S with
  | .long x :: S' => (match Nat.blt (i + 1) L.length with
    | true => some (none, (pc, pm_s2 L i (.long x), S', h))
    | false => none)
  | _ => none
def pm_i1 (f : Int32 → Int32) (pc : Nat) (L : List (Option Value)) (S : List Value) (h : pm_H) : pm_R := match S with
  | .int x :: S' => some (none, (pc, L, .int (f x) :: S', h))
  | _ => none
def pm_i2 (f : Int32 → Int32 → Int32) (pc : Nat) (L : List (Option Value)) (S : List Value) (h : pm_H) : pm_R := match S with
  | .int y :: .int x :: S' => some (none, (pc, L, .int (f x y) :: S', h))
  | _ => none
def pm_d2 (f : Int32 → Int32 → Int32) (pc : Nat) (L : List (Option Value)) (S : List Value) (h : pm_H) : pm_R := match S with
  | .int y :: .int x :: S' => some (some (¬ y = 0), (pc, L, .int (f x y) :: S', h))
  | _ => none
def pm_l2 (f : Int64 → Int64 → Int64) (pc : Nat) (L : List (Option Value)) (S : List Value) (h : pm_H) : pm_R := match S with
  | .long y :: .long x :: S' => some (none, (pc, L, .long (f x y) :: S', h))
  | _ => none
def pm_dl2 (f : Int64 → Int64 → Int64) (pc : Nat) (L : List (Option Value)) (S : List Value) (h : pm_H) : pm_R := match S with
  | .long y :: .long x :: S' => some (some (¬ y = 0), (pc, L, .long (f x y) :: S', h))
  | _ => none
def pm_if (c : ClassFile.Cond) (dir t f : Nat) (L : List (Option Value)) (S : List Value) (h : pm_H) : pm_R := match S with
  | .int x :: S' => (match c with
    | .eq => pm_br (x = 0) dir t f L S' h
    | .ne => (match dir with
      | 0 => some (some (x = 0), (f, L, S', h))
      | _ => some (some (¬ x = 0), (t, L, S', h)))
    | .lt => pm_br (x < 0) dir t f L S' h
    | .ge => pm_br (0 ≤ x) dir t f L S' h
    | .gt => pm_br (0 < x) dir t f L S' h
    | .le => pm_br (x ≤ 0) dir t f L S' h)
  | _ => none
def pm_ic (c : ClassFile.Cond) (dir t f : Nat) (L : List (Option Value)) (S : List Value) (h : pm_H) : pm_R := match S with
  | .int y :: .int x :: S' => (match c with
    | .eq => pm_br (x = y) dir t f L S' h
    | .ne => (match dir with
      | 0 => some (some (x = y), (f, L, S', h))
      | _ => some (some (¬ x = y), (t, L, S', h)))
    | .lt => pm_br (x < y) dir t f L S' h
    | .ge => pm_br (y ≤ x) dir t f L S' h
    | .gt => pm_br (y < x) dir t f L S' h
    | .le => pm_br (x ≤ y) dir t f L S' h)
  | _ => none
def pm_gf (r pc : Nat) (L : List (Option Value)) (S : List Value) (h : pm_H) : pm_R := match S with
  | .ref i :: S' => (match pm_lk h i with
    | some (.inr (ci, fs)) => (match pm_FL[r]? with
      | some (_, _, cj, k, _) => (match Nat.beq ci cj with
        | true => (match fs[k]? with
          | some v => some (none, (pc, L, v :: S', h))
          | none => none)
        | false => none)
      | none => none)
    | _ => none)
  | _ => none
def pm_pf (r pc : Nat) (L : List (Option Value)) (S : List Value) (h : pm_H) : pm_R := match S with
  | v :: .ref i :: S' => (match pm_lk h i with
    | some (.inr (ci, fs)) => (match pm_FL[r]? with
      | some (_, _, cj, k, _) => (match Nat.beq ci cj && (Nat.blt k fs.length && Nat.beq (pm_vk v) (pm_kt (pm_ty ci k))) with
        | true => some (none, (pc, L, S', pm_st h i (.inr (ci, fs.set k v))))
        | false => none)
      | none => none)
    | _ => none)
  | _ => none
def pm_al (t : Nat) (pc : Nat) (L : List (Option Value)) (S : List Value) (h : pm_H) : pm_R := match S with
  | .int i :: .ref a :: S' => (match pm_lk h a with
    | some (.inl (u, n, .inl f)) => (match (Nat.beq t 0 && (Nat.beq u 0 || Nat.beq u 9)) || (Nat.beq t 2 && (Nat.beq u 2 || Nat.beq u 3)) with
      | true => some (some (vp_in i n), (pc, L, .int (f i.toNatClampNeg) :: S', h))
      | false => none)
    | some (.inl (u, n, .inr (.inl f))) => (match Nat.beq t 1 && Nat.beq u 1 with
      | true => some (some (vp_in i n), (pc, L, .long (f i.toNatClampNeg) :: S', h))
      | false => none)
    | _ => none)
  | _ => none
def pm_as (t : Nat) (pc : Nat) (L : List (Option Value)) (S : List Value) (h : pm_H) : pm_R := match S with
  | .int x :: .int i :: .ref a :: S' => (match pm_lk h a with
    | some (.inl (u, n, .inl f)) => (match t, u with
      | 0, 0 => some (some (vp_in i n), (pc, L, S', pm_st h a (.inl (0, n, .inl (upd f i.toNatClampNeg x)))))
      | 2, 2 => some (some (vp_in i n), (pc, L, S', pm_st h a (.inl (2, n, .inl (upd f i.toNatClampNeg (vp_nar .byte x))))))
      | 2, 3 => some (some (vp_in i n), (pc, L, S', pm_st h a (.inl (3, n, .inl (upd f i.toNatClampNeg (vp_nar .boolean x))))))
      | _, _ => none)
    | _ => none)
  | .long x :: .int i :: .ref a :: S' => (match pm_lk h a with
    | some (.inl (u, n, .inr (.inl f))) => (match t, u with
      | 1, 1 => some (some (vp_in i n), (pc, L, S', pm_st h a (.inl (1, n, .inr (.inl (vp_updL f i.toNatClampNeg x))))))
      | _, _ => none)
    | _ => none)
  | _ => none
def pm_len (pc : Nat) (L : List (Option Value)) (S : List Value) (h : pm_H) : pm_R := match S with
  | .ref a :: S' => (match pm_lk h a with
    | some (.inl (u, n, _)) => (match Nat.blt u 4 || Nat.beq u 9 with
      | true => some (none, (pc, L, .int (Int32.ofNat n) :: S', h))
      | false => none)
    | _ => none)
  | _ => none
/-- where a new cell goes: r2 = 0 the current group, 1 the group of 'this', g + 2 the group g -/
def pm_grp (r2 : Nat) (L : List (Option Value)) (h : pm_H) : Nat := match r2 with
  | 0 => h.2.1
  | 1 => (match L with | some (.ref i) :: _ => i / 64 | _ => h.2.1)
  | g + 2 => g
def pm_alc (g : Nat) (h : pm_H) (c : pm_E) (n pc : Nat) (L : List (Option Value)) (S : List Value) (P : Option Prop) : pm_R :=
  match Nat.blt g h.1.length && Nat.blt (h.1.getD g []).length 64 with
  | true => some (P, (pc, L, .ref (pm_id h g) :: S, pm_pu h g c n))
  | false => none
def pm_new (r r2 pc : Nat) (L : List (Option Value)) (S : List Value) (h : pm_H) : pm_R := match pm_CL[r]? with
  | some (_, _, ci, _) => pm_alc (pm_grp r2 L h) h (.inr (ci, pm_df ci)) (pm_N ci) pc L S none
  | none => none
def pm_nar (t : ArrayType) (r r2 pc : Nat) (L : List (Option Value)) (S : List Value) (h : pm_H) : pm_R := match S with
  | .int n :: S' => (match Nat.blt r 100000 with
    | true => (match t with
      | .int => pm_alc (pm_grp r2 L h) h (.inl (0, r, .inl (fun _ => 0))) r pc L S' (some (n = nI r))
      | .long => pm_alc (pm_grp r2 L h) h (.inl (1, r, .inr (.inl (fun _ => 0)))) r pc L S' (some (n = nI r))
      | .byte => pm_alc (pm_grp r2 L h) h (.inl (2, r, .inl (fun _ => 0))) r pc L S' (some (n = nI r))
      | .boolean => pm_alc (pm_grp r2 L h) h (.inl (3, r, .inl (fun _ => 0))) r pc L S' (some (n = nI r))
      | _ => none)
    | false => none)
  | _ => none
def pm_cpy (pc : Nat) (L : List (Option Value)) (S : List Value) (h : pm_H) : pm_R := match S with
  | .int n :: .int dp :: .ref a :: .int sp :: .ref a0 :: S' => (match Nat.ble (pm_sum S') 8 with
    | true => (match pm_lk h a0, pm_lk h a with
      | some (.inl (0, n0, .inl f)), some (.inl (0, n1, .inl g)) => some (some ((¬ sp < 0) ∧ (¬ dp < 0) ∧ (¬ n < 0) ∧ sp.toNatClampNeg + n.toNatClampNeg ≤ n0 ∧ dp.toNatClampNeg + n.toNatClampNeg ≤ n1), (pc, L, S', pm_st h a (.inl (0, n1, .inl (va_cpy f g sp.toNatClampNeg dp.toNatClampNeg n.toNatClampNeg)))))
      | some (.inl (1, n0, .inr (.inl f))), some (.inl (1, n1, .inr (.inl g))) => some (some ((¬ sp < 0) ∧ (¬ dp < 0) ∧ (¬ n < 0) ∧ sp.toNatClampNeg + n.toNatClampNeg ≤ n0 ∧ dp.toNatClampNeg + n.toNatClampNeg ≤ n1), (pc, L, S', pm_st h a (.inl (1, n1, .inr (.inl (va_cpy f g sp.toNatClampNeg dp.toNatClampNeg n.toNatClampNeg))))))
      | _, _ => none)
    | false => none)
  | _ => none
/-- a static method of the library that is one step here: 1 arraycopy, 2 max, 3 min, 4 abs, 5 max of longs, 6 min of longs -/
def pm_lib (r2 pc : Nat) (L : List (Option Value)) (S : List Value) (h : pm_H) : pm_R := match r2 with
  | 1 => pm_cpy pc L S h
  | 2 => (match S with
    | .int y :: .int x :: S' => (match Nat.ble (pm_sum S') 8 with
      | true => some (none, (pc, L, .int (if x < y then y else x) :: S', h))
      | false => none)
    | _ => none)
  | 3 => (match S with
    | .int y :: .int x :: S' => (match Nat.ble (pm_sum S') 8 with
      | true => some (none, (pc, L, .int (if y < x then y else x) :: S', h))
      | false => none)
    | _ => none)
  | 4 => (match S with
    | .int x :: S' => (match Nat.ble (pm_sum S') 8 with
      | true => some (none, (pc, L, .int (if 0 ≤ x then x else 0 - x) :: S', h))
      | false => none)
    | _ => none)
  | 5 => (match S with
    | .long y :: .long x :: S' => (match Nat.ble (pm_sum S') 8 with
      | true => some (none, (pc, L, .long (if y < x then x else y) :: S', h))
      | false => none)
    | _ => none)
  | 6 => (match S with
    | .long y :: .long x :: S' => (match Nat.ble (pm_sum S') 8 with
      | true => some (none, (pc, L, .long (if y < x then y else x) :: S', h))
      | false => none)
    | _ => none)
  | _ => none
def pm_tsw (dflt lo hi : Int) (offs : Array Int) (dir pc : Nat) (L : List (Option Value)) (S : List Value) (h : pm_H) : pm_R := match S with
  | .int x :: S' => (match offs.toList[dir]? with
    | some o => some (some (x.toInt = lo + (dir : Int) ∧ ¬ hi < x.toInt), (((pc : Int) + o).toNat, L, S', h))
    | none => some (some (x.toInt < lo ∨ hi < x.toInt), (((pc : Int) + dflt).toNat, L, S', h)))
  | _ => none
def pm_ex (I : Instr) (r r2 dir pc : Nat) (L : List (Option Value)) (S : List Value) (h : pm_H) : pm_R := match I with
  | .aconst_null => some (none, (pc + 1, L, .null :: S, h))
  | .aload i => pm_lda i (pc + 2) L S h
  | .aload_n k => pm_lda k.val (pc + 1) L S h
  | .iload i => pm_ldi i (pc + 2) L S h
  | .iload_n k => pm_ldi k.val (pc + 1) L S h
  | .lload i => pm_ldl i (pc + 2) L S h
  | .lload_n k => pm_ldl k.val (pc + 1) L S h
  | .astore i => pm_sta i (pc + 2) L S h
  | .astore_n k => pm_sta k.val (pc + 1) L S h
  | .istore i => pm_sti i (pc + 2) L S h
  | .istore_n k => pm_sti k.val (pc + 1) L S h
  | .lstore i => pm_stl i (pc + 2) L S h
  | .lstore_n k => pm_stl k.val (pc + 1) L S h
  | .iinc i _ => (match L[i]? with
    | some (some (.int x)) => some (none, (pc + 3, pm_s1 L i (.int (x + pm_CI.getD r 0)), S, h))
    | _ => none)
  | .iconst _ => some (none, (pc + 1, L, .int (pm_CI.getD r 0) :: S, h))
  | .bipush _ => some (none, (pc + 2, L, .int (pm_CI.getD r 0) :: S, h))
  | .sipush _ => some (none, (pc + 3, L, .int (pm_CI.getD r 0) :: S, h))
  | .ldc _ => (match r2 with
    | 0 => (match pm_KI[r]? with
      | some (_, _, v, _) => some (none, (pc + 2, L, .int v :: S, h))
      | none => none)
    | _ => some (none, (pc + 2, L, .retAddr r :: S, h)))
  | .ldc_w _ => (match pm_KI[r]? with
    | some (_, _, v, _) => some (none, (pc + 3, L, .int v :: S, h))
    | none => none)
  | .ldc2_w _ => (match pm_KJ[r]? with
    | some (_, _, v, _) => some (none, (pc + 3, L, .long v :: S, h))
    | none => none)
  | .lconst _ => (match r with
    | 0 => some (none, (pc + 1, L, .long 0 :: S, h))
    | _ => some (none, (pc + 1, L, .long 1 :: S, h)))
  | .iadd => pm_i2 (fun x y => x + y) (pc + 1) L S h
  | .isub => pm_i2 (fun x y => x - y) (pc + 1) L S h
  | .imul => pm_i2 (fun x y => x * y) (pc + 1) L S h
  | .iand => pm_i2 (fun x y => x &&& y) (pc + 1) L S h
  | .ior => pm_i2 (fun x y => x ||| y) (pc + 1) L S h
  | .ixor => pm_i2 (fun x y => x ^^^ y) (pc + 1) L S h
  | .ishl => pm_i2 (fun x y => x <<< (y &&& 31)) (pc + 1) L S h
  | .ishr => pm_i2 (fun x y => x >>> (y &&& 31)) (pc + 1) L S h
  | .iushr => pm_i2 (fun x y => (x.toUInt32 >>> (y.toUInt32 &&& Int32.toUInt32 31)).toInt32) (pc + 1) L S h
  | .idiv => pm_d2 (fun x y => x / y) (pc + 1) L S h
  | .irem => pm_d2 (fun x y => x - x / y * y) (pc + 1) L S h
  | .ineg => pm_i1 (fun x => -x) (pc + 1) L S h
  | .i2b => pm_i1 (fun x => x.toInt8.toInt32) (pc + 1) L S h
  | .i2l => (match S with
    | .int x :: S' => some (none, (pc + 1, L, .long x.toInt64 :: S', h))
    | _ => none)
  | .l2i => (match S with
    | .long x :: S' => some (none, (pc + 1, L, .int x.toInt32 :: S', h))
    | _ => none)
  | .ladd => pm_l2 (fun x y => x + y) (pc + 1) L S h
  | .lsub => pm_l2 (fun x y => x - y) (pc + 1) L S h
  | .lmul => pm_l2 (fun x y => x * y) (pc + 1) L S h
  | .lxor => pm_l2 (fun x y => x ^^^ y) (pc + 1) L S h
  | .ldiv => pm_dl2 (fun x y => x / y) (pc + 1) L S h
  | .lrem => pm_dl2 (fun x y => x - x / y * y) (pc + 1) L S h
  | .lneg => (match S with
    | .long x :: S' => some (none, (pc + 1, L, .long (-x) :: S', h))
    | _ => none)
  | .lcmp => (match S with
    | .long y :: .long x :: S' => some (none, (pc + 1, L, .int (lg_cmp x y) :: S', h))
    | _ => none)
  | .dup => (match S with
    | .int x :: S' => some (none, (pc + 1, L, .int x :: .int x :: S', h))
    | .ref x :: S' => some (none, (pc + 1, L, .ref x :: .ref x :: S', h))
    | _ => none)
  | .dup2 => (match S with
    | .int x :: .ref y :: S' => some (none, (pc + 1, L, .int x :: .ref y :: .int x :: .ref y :: S', h))
    | _ => none)
  | .pop => (match S with
    | .int _ :: S' => some (none, (pc + 1, L, S', h))
    | .ref _ :: S' => some (none, (pc + 1, L, S', h))
    | _ => none)
  | .goto _ => some (none, (r, L, S, h))
  | .ifCond c _ => pm_if c dir r (pc + 3) L S h
  | .if_icmp c _ => pm_ic c dir r (pc + 3) L S h
  | .ifnull _ => (match S with
    | .null :: S' => some (none, (r, L, S', h))
    | .ref _ :: S' => some (none, (pc + 3, L, S', h))
    | _ => none)
  | .ifnonnull _ => (match S with
    | .null :: S' => some (none, (pc + 3, L, S', h))
    | .ref _ :: S' => some (none, (r, L, S', h))
    | _ => none)
  | .tableswitch d lo hi offs => pm_tsw d lo hi offs dir pc L S h
  | .getfield _ => pm_gf r (pc + 3) L S h
  | .putfield _ => pm_pf r (pc + 3) L S h
  | .iaload => pm_al 0 (pc + 1) L S h
  | .laload => pm_al 1 (pc + 1) L S h
  | .baload => pm_al 2 (pc + 1) L S h
  | .iastore => pm_as 0 (pc + 1) L S h
  | .lastore => pm_as 1 (pc + 1) L S h
  | .bastore => pm_as 2 (pc + 1) L S h
  | .arraylength => pm_len (pc + 1) L S h
  | .new _ => pm_new r r2 (pc + 3) L S h
  | .newarray t => pm_nar t r r2 (pc + 2) L S h
  | .invokespecial _ => (match r2 with
    | 7 => (match S with
      | .ref _ :: S' => (match Nat.ble (pm_sum S') 8 with
        | true => some (none, (pc + 3, L, S', h))
        | false => none)
      | _ => none)
    | _ => none)
  | .invokestatic _ => pm_lib r2 (pc + 3) L S h
  | _ => none
/-- an instruction's length -/
def pm_ln (I : Instr) (r2 : Nat) : Nat := match I with
  | .aload _ | .iload _ | .lload _ | .astore _ | .istore _ | .lstore _ | .bipush _ | .ldc _ | .newarray _ => 2
  | .iinc _ _ | .sipush _ | .ldc_w _ | .ldc2_w _ | .goto _ | .ifCond _ _ | .if_icmp _ _ | .ifnull _ | .ifnonnull _ | .getfield _ | .putfield _ | .new _ | .invokespecial _ | .invokestatic _ | .invokevirtual _ | .getstatic _ => 3
  | .tableswitch _ _ _ _ => r2
  | _ => 1
abbrev pm_I : Type := Nat × Instr × Nat × Nat
/-- what must be checked of an instruction beside its bytes -/
def pm_cs (m pc : Nat) (I : Instr) (r r2 : Nat) : Bool := match I with
  | .iinc _ n => decide (Int32.ofInt n = pm_CI.getD r 0)
  | .iconst n => decide (Int32.ofInt n = pm_CI.getD r 0)
  | .bipush n => decide ((Int8.ofInt n).toInt32 = pm_CI.getD r 0)
  | .sipush n => decide ((Int16.ofInt n).toInt32 = pm_CI.getD r 0)
  | .lconst n => (match r with
    | 0 => decide (Int64.ofNat n.val = 0)
    | _ => decide (Int64.ofNat n.val = 1))
  | .ldc i => (match r2 with
    | 0 => (match pm_KI[r]? with
      | some (oc, ix, _, _) => Nat.beq oc (pm_oc m) && Nat.beq ix i
      | none => false)
    | _ => (match pm_SR[r]? with
      | some (oc, ix, _, _) => Nat.beq oc (pm_oc m) && Nat.beq ix i
      | none => false))
  | .ldc_w i => (match pm_KI[r]? with
    | some (oc, ix, _, _) => Nat.beq oc (pm_oc m) && Nat.beq ix i
    | none => false)
  | .ldc2_w i => (match pm_KJ[r]? with
    | some (oc, ix, _, _) => Nat.beq oc (pm_oc m) && Nat.beq ix i
    | none => false)
  | .goto o => decide ((pc : Int) + o = (r : Int))
  | .ifCond _ o => decide ((pc : Int) + o = (r : Int))
  | .if_icmp _ o => decide ((pc : Int) + o = (r : Int))
  | .ifnull o => decide ((pc : Int) + o = (r : Int))
  | .ifnonnull o => decide ((pc : Int) + o = (r : Int))
  | .tableswitch d _ _ offs => decide (0 ≤ (pc : Int) + d) && offs.toList.all (fun o => decide (0 ≤ (pc : Int) + o))
  | .getfield i => (match pm_FL[r]? with
    | some (oc, ix, _, _, _) => Nat.beq oc (pm_oc m) && Nat.beq ix i
    | none => false)
  | .putfield i => (match pm_FL[r]? with
    | some (oc, ix, ci, k, _) => Nat.beq oc (pm_oc m) && (Nat.beq ix i && (!(pm_T ci k).2.2.2 || (decide ((pm_y m).name = "<init>") && decide ((pm_T ci k).1 = pm_cn (pm_oc m)))))
    | none => false)
  | .new i => (match pm_CL[r]? with
    | some (oc, ix, _, _) => Nat.beq oc (pm_oc m) && Nat.beq ix i
    | none => false)
  | .invokespecial i => (match r2 with
    | 7 => (match pm_OI[r]? with
      | some (oc, ix, _) => Nat.beq oc (pm_oc m) && Nat.beq ix i
      | none => false)
    | _ => true)
  | .invokestatic i => (match r2 with
    | 0 => true
    | 1 => (match pm_AC[r]? with
      | some (oc, ix, _) => Nat.beq oc (pm_oc m) && Nat.beq ix i
      | none => false)
    | _ => (match pm_ML[r]? with
      | some (oc, ix, y, z, _) => Nat.beq oc (pm_oc m) && (Nat.beq ix i && (Nat.beq z 0 && Nat.beq y (pm_mth r2)))
      | none => false))
  | _ => true
def pm_ck (m : Nat) (e : pm_I) : Bool := decide (decode (pm_cd m) e.1 = .ok (e.2.1, pm_ln e.2.1 e.2.2.2)) && pm_cs m e.1 e.2.1 e.2.2.1 e.2.2.2
def pm_ft : List pm_I → Nat → Option (Instr × Nat × Nat)
  | [], _ => none
  | (k, e) :: t, pc => match Nat.beq k pc with
    | true => some e
    | false => pm_ft t pc
def pm_isb (I : Instr) : Bool := match I with
  | .ifCond _ _ | .if_icmp _ _ | .tableswitch _ _ _ _ => true
  | _ => false
/-- k instructions of straight code, the branches as ds says; what must hold for it -/
def pm_gp (tb : List pm_I) : Nat → List Nat → Prop → pm_F → Option (Prop × pm_F)
  | 0, _, P, f => some (P, f)
  | k + 1, ds, P, (pc, L, S, h) => match pm_ft tb pc with
    | some (I, r, r2) => (match pm_isb I with
      | true => (match pm_ex I r r2 (ds.headD 0) pc L S h with
        | some (some Q, f) => pm_gp tb k ds.tail (Q ∧ P) f
        | some (none, f) => pm_gp tb k ds.tail P f
        | none => none)
      | false => (match pm_ex I r r2 0 pc L S h with
        | some (some Q, f) => pm_gp tb k ds (Q ∧ P) f
        | some (none, f) => pm_gp tb k ds P f
        | none => none))
    | none => none
