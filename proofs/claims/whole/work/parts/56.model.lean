/-! The engine between the two programs: its state, and what it means on either side. -/
/-- a queued operation: its number (as the program's class has it: stripe * 7 + disk, or (64 + request) * 7 + disk), deadline, the three tags -/
abbrev ab_O : Type := Nat × Int32 × Option Int64 × Int64 × Int64
/-- the numbers by region as the reference has them (region 5 has two words more: 5 stripe, 6 kind), the queues, their last tags, what the disks serve -/
abbrev ab_S : Type := (Nat → Nat → Nat → Int32) × (Nat → List ab_O) × (Nat → Nat → Option Int64) × (Nat → Option Nat)
def ab_v (A : ab_S) (g i w : Nat) (x : Int32) : ab_S := (fun g' i' w' => if g' = g ∧ i' = i ∧ w' = w then x else A.1 g' i' w', A.2)
def ab_q (A : ab_S) (q : Nat) (l : List ab_O) : ab_S := (A.1, fun q' => if q' = q then l else A.2.1 q', A.2.2)
def ab_t (A : ab_S) (q w : Nat) (x : Option Int64) : ab_S := (A.1, A.2.1, fun q' w' => if q' = q ∧ w' = w then x else A.2.2.1 q' w', A.2.2.2)
def ab_d (A : ab_S) (d : Nat) (x : Option Nat) : ab_S := (A.1, A.2.1, A.2.2.1, fun d' => if d' = d then x else A.2.2.2 d')
theorem ab_v_1 (A : ab_S) (g i w : Nat) (x : Int32) (g' i' w' : Nat) : (ab_v A g i w x).1 g' i' w' = if g' = g ∧ i' = i ∧ w' = w then x else A.1 g' i' w' := rfl
theorem ab_v_2 (A : ab_S) (g i w : Nat) (x : Int32) : (ab_v A g i w x).2 = A.2 := rfl
theorem ab_q_1 (A : ab_S) (q : Nat) (l : List ab_O) : (ab_q A q l).1 = A.1 := rfl
theorem ab_q_2 (A : ab_S) (q : Nat) (l : List ab_O) (q' : Nat) : (ab_q A q l).2.1 q' = if q' = q then l else A.2.1 q' := rfl
theorem ab_q_3 (A : ab_S) (q : Nat) (l : List ab_O) : (ab_q A q l).2.2 = A.2.2 := rfl
theorem ab_t_1 (A : ab_S) (q w : Nat) (x : Option Int64) : (ab_t A q w x).1 = A.1 := rfl
theorem ab_t_2 (A : ab_S) (q w : Nat) (x : Option Int64) : (ab_t A q w x).2.1 = A.2.1 := rfl
theorem ab_t_3 (A : ab_S) (q w : Nat) (x : Option Int64) (q' w' : Nat) : (ab_t A q w x).2.2.1 q' w' = if q' = q ∧ w' = w then x else A.2.2.1 q' w' := rfl
theorem ab_t_4 (A : ab_S) (q w : Nat) (x : Option Int64) : (ab_t A q w x).2.2.2 = A.2.2.2 := rfl
theorem ab_d_1 (A : ab_S) (d : Nat) (x : Option Nat) : (ab_d A d x).1 = A.1 := rfl
theorem ab_d_2 (A : ab_S) (d : Nat) (x : Option Nat) : (ab_d A d x).2.1 = A.2.1 := rfl
theorem ab_d_3 (A : ab_S) (d : Nat) (x : Option Nat) : (ab_d A d x).2.2.1 = A.2.2.1 := rfl
theorem ab_d_4 (A : ab_S) (d : Nat) (x : Option Nat) (d' : Nat) : (ab_d A d x).2.2.2 d' = if d' = d then x else A.2.2.2 d' := rfl
/-- how many of the first n numbers have a property -/
def ab_cnt (f : Nat → Bool) : Nat → Nat
  | 0 => 0
  | n + 1 => ab_cnt f n + if f n = true then 1 else 0
/-- stripes under way, units cached, stripes rebuilt; S stripes -/
def ab_started (v : Nat → Nat → Nat → Int32) (S : Nat) : Nat := ab_cnt (fun k => decide (v 4 k 0 = 1 ∨ v 4 k 0 = 2)) S
def ab_rebuilt (v : Nat → Nat → Nat → Int32) (S : Nat) : Nat := ab_cnt (fun k => decide (v 4 k 0 = 3)) S
def ab_heldOf (v : Nat → Nat → Nat → Int32) (k : Nat) : Nat := ab_cnt (fun d => decide (v 3 d k = 1)) 6
def ab_sum (f : Nat → Nat) : Nat → Nat
  | 0 => 0
  | n + 1 => ab_sum f n + f n
def ab_cached (v : Nat → Nat → Nat → Int32) (S : Nat) : Nat := ab_sum (fun k => if v 4 k 0 = 0 then ab_heldOf v k else 0) S
/-- no tag: what the program writes for it -/
def ab_no : Int64 := -1152921504606846976
/-- the links of a queue: from each operation to the next -/
def ab_ch (nx : Nat → Int32) (f : Nat → Nat) : List ab_O → Prop
  | [] => True
  | [_] => True
  | a :: b :: l => nx (f a.1) = nI (f b.1) ∧ ab_ch nx f (b :: l)
/-- the program's engine (s5) is at A; S stripes -/
def ab_Cq (A : ab_S) (s : cs_S) (q : Nat) : Prop :=
  s.2.1 4 q = nI (A.2.1 q).length ∧ (∀ a l, A.2.1 q = a :: l → s.2.1 2 q = nI a.1 ∧ s.2.1 3 q = nI ((a :: l).getLast (List.cons_ne_nil a l)).1) ∧ ab_ch (s.2.1 12) id (A.2.1 q) ∧
  (∀ a, a ∈ A.2.1 q → s.2.1 11 a.1 = a.2.1 ∧ s.2.2 8 a.1 = a.2.2.1.getD ab_no ∧ s.2.2 9 a.1 = a.2.2.2.1 ∧ s.2.2 10 a.1 = a.2.2.2.2) ∧
  s.2.2 5 q = (A.2.2.1 q 0).getD ab_no ∧ s.2.2 6 q = (A.2.2.1 q 1).getD ab_no ∧ s.2.2 7 q = (A.2.2.1 q 2).getD ab_no
def ab_Cd (A : ab_S) (s : cs_S) (d : Nat) : Prop :=
  (s.2.1 14 d = match A.2.2.2 d with | none => -1 | some c => nI c) ∧ s.2.1 15 d = A.1 1 d 1 ∧ s.2.1 16 d = A.1 1 d 2 ∧ s.2.1 17 d = A.1 1 d 3
def ab_Ct (A : ab_S) (s : cs_S) (t : Nat) : Prop :=
  s.2.1 27 t = A.1 6 t 0 ∧ s.2.1 28 t = A.1 6 t 1 ∧ s.2.1 29 t = A.1 6 t 2 ∧ s.2.1 30 t = A.1 6 t 3 ∧ s.2.1 18 (3 * t) = A.1 6 t 4 ∧ s.2.1 18 (3 * t + 1) = A.1 6 t 5 ∧ s.2.1 18 (3 * t + 2) = A.1 6 t 6
def ab_Cr (A : ab_S) (s : cs_S) (r : Nat) : Prop :=
  s.2.1 20 r = A.1 5 r 0 ∧ s.2.1 24 r = A.1 5 r 1 ∧ s.2.1 23 r = A.1 5 r 2 ∧ s.2.1 26 r = A.1 5 r 3 ∧ s.2.1 25 r = A.1 5 r 4 ∧ s.2.1 21 r = A.1 5 r 5 ∧ s.2.1 22 r = A.1 5 r 6
/-- the bits of a stripe's held units -/
def ab_Ch (A : ab_S) (s : cs_S) (k : Nat) : Prop := s.2.1 32 k = A.1 4 k 0 ∧ ∃ n : Nat, n < 64 ∧ s.2.1 33 k = nI n ∧ ∀ d, d < 6 → n.testBit d = decide (A.1 3 d k = 1)
def ab_C (S : Nat) (A : ab_S) (s : cs_S) : Prop :=
  (s.1 0 4 = A.1 0 0 0 ∧ s.1 31 0 = A.1 0 0 1 ∧ s.1 19 0 = A.1 0 0 2 ∧ s.1 0 2 = A.1 0 0 3 - A.1 0 0 11 ∧ s.1 0 3 = A.1 0 0 4 ∧ s.1 31 7 = A.1 0 0 5 ∧ s.1 31 8 = A.1 0 0 6 ∧ s.1 31 6 = A.1 0 0 7 ∧ s.1 31 10 = A.1 0 0 9 ∧ s.1 31 9 = A.1 0 0 10) ∧
  (s.1 31 3 = nI (ab_started A.1 S) ∧ s.1 31 4 = nI (ab_cached A.1 S) ∧ s.1 31 5 = nI (ab_rebuilt A.1 S)) ∧
  (∀ q, q < 42 → ab_Cq A s q) ∧ (∀ d, d < 7 → ab_Cd A s d) ∧ (∀ t, t < 6 → ab_Ct A s t) ∧ (∀ r : Nat, r < 400 → nI r < A.1 0 0 2 → ab_Cr A s r) ∧ (∀ k, k < 64 → ab_Ch A s k)
/-- is the operation of number c in a queue, or served? -/
def ab_live (A : ab_S) (c : Nat) : Prop := (∃ q, q < 42 ∧ ∃ a, a ∈ A.2.1 q ∧ a.1 = c) ∨ (∃ d, d < 7 ∧ A.2.2.2 d = some c)
/-- kind, stripe and request of an operation; D disks -/
def ab_kind (D : Nat) (A : ab_S) (c : Nat) : Int32 := if c < 448 then (if c % 7 = D then 1 else 0) else A.1 5 (c / 7 - 64) 6
def ab_stripe (A : ab_S) (c : Nat) : Int32 := if c < 448 then nI (c / 7) else A.1 5 (c / 7 - 64) 5
def ab_req (c : Nat) : Int32 := if c < 448 then -1 else nI (c / 7 - 64)
def ab_ten (A : ab_S) (c : Nat) : Int32 := if c < 448 then 0 else A.1 5 (c / 7 - 64) 0
/-- the reference is at A; W: where it has the program's operations; F: its free ones -/
def ab_Rq (A : ab_S) (s : mo_S) (W : Nat → Nat) (q : Nat) : Prop :=
  vn s 2 q 2 = nI (A.2.1 q).length ∧
  (match A.2.1 q with
    | [] => vn s 2 q 0 = -1 ∧ vn s 2 q 1 = -1
    | a :: l => vn s 2 q 0 = nI (W a.1) ∧ vn s 2 q 1 = nI (W ((a :: l).getLast (List.cons_ne_nil a l)).1) ∧ vn s 7 (W ((a :: l).getLast (List.cons_ne_nil a l)).1) 5 = -1) ∧
  ab_ch (fun o => vn s 7 o 5) W (A.2.1 q) ∧
  (∀ a, a ∈ A.2.1 q → vn s 7 (W a.1) 3 = a.2.1 ∧ vn s 7 (W a.1) 6 = (if a.2.2.1.isSome = true then 1 else 0) ∧ vt s (W a.1) 0 = a.2.2.1.getD 0 ∧ vt s (W a.1) 1 = a.2.2.2.1 ∧ vt s (W a.1) 2 = a.2.2.2.2) ∧
  (∀ w, w < 3 → vn s 2 q (3 + w) = (if (A.2.2.1 q w).isSome = true then 1 else 0) ∧ ∀ x, A.2.2.1 q w = some x → vq s q w = x)
def ab_Ro (D : Nat) (A : ab_S) (s : mo_S) (W : Nat → Nat) (c : Nat) : Prop :=
  W c < 2200 ∧ vn s 7 (W c) 0 = ab_ten A c ∧ vn s 7 (W c) 1 = ab_kind D A c ∧ vn s 7 (W c) 2 = ab_stripe A c ∧ vn s 7 (W c) 4 = ab_req c
def ab_fl (nx : Nat → Int32) : Int32 → List Nat → Prop
  | x, [] => x = -1
  | x, o :: l => x = nI o ∧ o < 2200 ∧ ab_fl nx (nx o) l
def ab_R (D : Nat) (A : ab_S) (s : mo_S) (W : Nat → Nat) (F : List Nat) : Prop :=
  (∀ w, w < 8 → vn s 0 0 w = A.1 0 0 w) ∧ vn s 0 0 9 = A.1 0 0 9 ∧ vn s 0 0 10 = A.1 0 0 10 ∧
  (∀ q, q < 42 → ab_Rq A s W q) ∧
  (∀ d, d < 7 → (A.1 1 d 7 = 0 → vn s 1 d 0 = (match A.2.2.2 d with | none => -1 | some c => nI (W c)) ∧ vn s 1 d 1 = A.1 1 d 1 ∧ vn s 1 d 2 = A.1 1 d 2 ∧ vn s 1 d 3 = A.1 1 d 3) ∧ vn s 1 d 2 = A.1 1 d 2 ∧ vn s 1 d 3 = A.1 1 d 3) ∧
  (∀ d k, d < 6 → k < 64 → vn s 3 d k = A.1 3 d k) ∧ (∀ k, k < 64 → vn s 4 k 0 = A.1 4 k 0) ∧
  (∀ r w : Nat, r < 400 → nI r < A.1 0 0 2 → w < 5 → vn s 5 r w = A.1 5 r w) ∧ (∀ t w, t < 6 → w < 7 → vn s 6 t w = A.1 6 t w) ∧
  (∀ c, ab_live A c → ab_Ro D A s W c) ∧ (∀ c c', ab_live A c → ab_live A c' → W c = W c' → c = c') ∧
  ab_fl (fun o => vn s 7 o 5) (vn s 0 0 8) F ∧ F.Nodup ∧ (∀ c, ab_live A c → ¬ W c ∈ F)
