/-! Append, the reference. -/
theorem rf_setQ {s : mo_S} {q w : Nat} {v : Int32} (hq : q < 42) (hw : w < 6) : ∃ s', f_X9_setQueue s (nI q) (nI w) v = some s' ∧ rf_F s s' ∧ (∀ g i w', vn s' g i w' = if g = 2 ∧ i = q ∧ w' = w then v else vn s g i w') ∧ (∀ i w', vt s' i w' = vt s i w') ∧ (∀ i w', vq s' i w' = vq s i w') :=
  ⟨us s 2 q w v, setQueue_w s hq hw, rf_F.us _ _ _ _ _, fun g i w' => vn_us (eb_2 hq hw) g i w', fun i w' => rfl, fun i w' => rfl⟩
theorem rf_free {s : mo_S} {v : Int32} : ∃ s', mo_a s 3 8 v = s' ∧ rf_F s s' ∧ (∀ g i w', vn s' g i w' = if g = 0 ∧ i = 0 ∧ w' = 8 then v else vn s g i w') ∧ (∀ i w', vt s' i w' = vt s i w') ∧ (∀ i w', vq s' i w' = vq s i w') :=
  ⟨us s 0 0 8 v, rfl, rf_F.us _ _ _ _ _, fun g i w' => vn_us (show eb 0 0 8 = true from rfl) g i w', fun i w' => rfl, fun i w' => rfl⟩
theorem rf_pend {s : mo_S} {r : Nat} {v : Int32} (h : r < 400) : ∃ s', f_X9_addPending s (nI r) v = some s' ∧ rf_F s s' ∧ (∀ g i w', vn s' g i w' = if g = 5 ∧ i = r ∧ w' = 3 then vn s 5 r 3 + v else vn s g i w') ∧ (∀ i w', vt s' i w' = vt s i w') ∧ (∀ i w', vq s' i w' = vq s i w') :=
  ⟨_, addPending_w s h, rf_F.us _ _ _ _ _, fun g i w' => vn_us (show eb 5 r 3 = true from decide_eq_true ⟨h, by decide⟩) g i w', fun i w' => rfl, fun i w' => rfl⟩
theorem nI_nm1 {r : Nat} (h : r < 400) : ¬ nI r = -1 := fun e => by
  have := congrArg Int32.toInt e
  rw [nI_toInt (by omega), show (-1 : Int32).toInt = -1 from rfl] at this
  omega
/-- what a new operation's queueing does to the reference; E: the queue's last one, if there is one -/
def rq_eff (s s' : mo_S) (q t o : Nat) (kind stripe due req : Int32) (rq : Option Nat) (E : Option Nat) (r : Option Int64) (p : Int64) (l : Option Int64) : Prop := rf_F s s' ∧
  (∀ g i w, vn s' g i w = if g = 5 ∧ some i = rq ∧ w = 3 then vn s g i w + 1 else if g = 2 ∧ i = q ∧ w = 2 then vn s 2 q 2 + 1 else if g = 2 ∧ i = q ∧ w = 1 then nI o else if g = 2 ∧ i = q ∧ w = 0 ∧ E = none then nI o else if g = 7 ∧ some i = E ∧ w = 5 then nI o else
    if g = 7 ∧ i = o ∧ w = 6 then (if r.isSome = true then 1 else 0) else if g = 2 ∧ i = q ∧ w = 3 ∧ r.isSome = true then 1 else if g = 2 ∧ i = q ∧ w = 4 then 1 else if g = 2 ∧ i = q ∧ w = 5 ∧ l.isSome = true then 1 else
    if g = 7 ∧ i = o ∧ w = 5 then -1 else if g = 7 ∧ i = o ∧ w = 4 then req else if g = 7 ∧ i = o ∧ w = 3 then due else if g = 7 ∧ i = o ∧ w = 2 then stripe else if g = 7 ∧ i = o ∧ w = 1 then kind else if g = 7 ∧ i = o ∧ w = 0 then nI t else if g = 0 ∧ i = 0 ∧ w = 8 then vn s 7 o 5 else vn s g i w) ∧
  (∀ i w, vt s' i w = if i = o ∧ w = 0 then r.getD 0 else if i = o ∧ w = 1 then p else if i = o ∧ w = 2 then l.getD 0 else vt s i w) ∧
  (∀ i w, vq s' i w = if i = q ∧ w = 0 ∧ r.isSome = true then r.getD 0 else if i = q ∧ w = 1 then p else if i = q ∧ w = 2 ∧ l.isSome = true then l.getD 0 else vq s i w)
set_option maxHeartbeats 4000000 in
theorem rf_queue {s : mo_S} {d t o n : Nat} {kind stripe due req : Int32} {rq E : Option Nat} {xr xp xl : Option Int64} {R Wt Lm : Int32} (hd : d < 7) (ht : t < 6) (ho : o < 2200) (h8 : vn s 0 0 8 = nI o) (hn : vn s 0 0 0 = nI n) (hr : s.2.2.1 0 (8 + 3 * t) = R) (hw : s.2.2.1 0 (8 + 3 * t + 1) = Wt) (hl : s.2.2.1 0 (8 + 3 * t + 2) = Lm) (hw0 : ¬ Wt ≤ 0)
    (fr : vn s 2 (6 * d + t) 3 = if xr.isSome = true then 1 else 0) (gr : ∀ y, xr = some y → vq s (6 * d + t) 0 = y) (fp : vn s 2 (6 * d + t) 4 = if xp.isSome = true then 1 else 0) (gp : ∀ y, xp = some y → vq s (6 * d + t) 1 = y) (fl : vn s 2 (6 * d + t) 5 = if xl.isSome = true then 1 else 0) (gl : ∀ y, xl = some y → vq s (6 * d + t) 2 = y)
    (hE : match E with | none => vn s 2 (6 * d + t) 0 = -1 | some e => ¬ vn s 2 (6 * d + t) 0 = -1 ∧ vn s 2 (6 * d + t) 1 = nI e ∧ e < 2200 ∧ e ≠ o) (hq : match rq with | none => req = -1 | some r => req = nI r ∧ r < 400) :
    ∃ s', f_X9_queue s (nI d) (nI t) kind stripe due req = some s' ∧ rq_eff s s' (6 * d + t) t o kind stripe due req rq E (if R ≤ 0 then none else some (ab_nx xr (1000 * (nI n).toInt64) R)) (ab_nx xp (1000 * (nI n).toInt64) Wt) (if Lm ≤ 0 then none else some (ab_nx xl (1000 * (nI n).toInt64) Lm)) := by
  have hq42 : 6 * d + t < 42 := by omega
  generalize hQ : 6 * d + t = q at *
  have eq : f_X9_queueOf s (nI d) (nI t) = some (nI q) := by
    rw [← hQ]
    show some (nI 6 * nI d + nI t) = _
    rw [nI_mul, nI_add]
  obtain ⟨s1, c1, F1, n1, t1, q1⟩ := rf_free (s := s) (v := vn s 7 o 5)
  obtain ⟨s2, c2, F2, n2, t2, q2⟩ := rf_set (s := s1) (o := o) (w := 0) (v := nI t) ho (by decide)
  have c2' : f_X9_set s1 (nI o) 0 (nI t) = some s2 := c2
  clear c2
  obtain ⟨s3, c3, F3, n3, t3, q3⟩ := rf_set (s := s2) (o := o) (w := 1) (v := kind) ho (by decide)
  have c3' : f_X9_set s2 (nI o) 1 kind = some s3 := c3
  clear c3
  obtain ⟨s4, c4, F4, n4, t4, q4⟩ := rf_set (s := s3) (o := o) (w := 2) (v := stripe) ho (by decide)
  have c4' : f_X9_set s3 (nI o) 2 stripe = some s4 := c4
  clear c4
  obtain ⟨s5, c5, F5, n5, t5, q5⟩ := rf_set (s := s4) (o := o) (w := 3) (v := due) ho (by decide)
  have c5' : f_X9_set s4 (nI o) 3 due = some s5 := c5
  clear c5
  obtain ⟨s6, c6, F6, n6, t6, q6⟩ := rf_set (s := s5) (o := o) (w := 4) (v := req) ho (by decide)
  have c6' : f_X9_set s5 (nI o) 4 req = some s6 := c6
  clear c6
  obtain ⟨s7, c7, F7, n7, t7, q7⟩ := rf_set (s := s6) (o := o) (w := 5) (v := -1) ho (by decide)
  have c7' : f_X9_set s6 (nI o) 5 (-1) = some s7 := c7
  clear c7
  have F17 := ((F1.trans F2).trans (F3.trans F4)).trans ((F5.trans F6).trans F7)
  have n17 : ∀ g i w, vn s7 g i w = if g = 7 ∧ i = o ∧ w = 5 then -1 else if g = 7 ∧ i = o ∧ w = 4 then req else if g = 7 ∧ i = o ∧ w = 3 then due else if g = 7 ∧ i = o ∧ w = 2 then stripe else if g = 7 ∧ i = o ∧ w = 1 then kind else if g = 7 ∧ i = o ∧ w = 0 then nI t else if g = 0 ∧ i = 0 ∧ w = 8 then vn s 7 o 5 else vn s g i w := fun g i w => by rw [n7, n6, n5, n4, n3, n2, n1]
  have t17 : ∀ i w, vt s7 i w = vt s i w := fun i w => by rw [t7, t6, t5, t4, t3, t2, t1]
  have q17 : ∀ i w, vq s7 i w = vq s i w := fun i w => by rw [q7, q6, q5, q4, q3, q2, q1]
  clear n1 n2 n3 n4 n5 n6 n7 t1 t2 t3 t4 t5 t6 t7 q1 q2 q3 q4 q5 q6 q7
  have nq : ∀ i w, vn s7 2 i w = vn s 2 i w := fun i w => by rw [n17]; simp
  have n0 : vn s7 0 0 0 = vn s 0 0 0 := by rw [n17]; simp
  obtain ⟨s8, c8, F8, n8, t8, q8⟩ := rf_tags (s := s7) (q := q) (t := t) (o := o) (n := n) (xr := xr) (xp := xp) (xl := xl) (R := R) (Wt := Wt) (Lm := Lm) hq42 ht ho (n0.trans hn) (by rw [F17.2.2.1 0 (by decide)]; exact hr) (by rw [F17.2.2.1 0 (by decide)]; exact hw) (by rw [F17.2.2.1 0 (by decide)]; exact hl) hw0 ((nq _ _).trans fr) (fun y hy => (q17 _ _).trans (gr y hy)) ((nq _ _).trans fp) (fun y hy => (q17 _ _).trans (gp y hy)) ((nq _ _).trans fl) (fun y hy => (q17 _ _).trans (gl y hy))
  generalize (if R ≤ 0 then none else some (ab_nx xr (1000 * (nI n).toInt64) R)) = r at *
  generalize (if Lm ≤ 0 then none else some (ab_nx xl (1000 * (nI n).toInt64) Lm)) = l at *
  generalize ab_nx xp (1000 * (nI n).toInt64) Wt = p at *
  have k0 : vn s8 2 q 0 = vn s 2 q 0 := by rw [n8, nq]; simp
  have k1 : vn s8 2 q 1 = vn s 2 q 1 := by rw [n8, nq]; simp
  have k2 : vn s8 2 q 2 = vn s 2 q 2 := by rw [n8, nq]; simp
  have F18 := F17.trans F8
  cases E with
  | none =>
    simp only at hE
    cases rq with
    | none =>
      simp only at hq
      subst hq
      obtain ⟨s9, c9, F9, n9, t9, q9⟩ := rf_setQ (s := s8) (q := q) (w := 0) (v := nI o) hq42 (by decide)
      have c9' : f_X9_setQueue s8 (nI q) 0 (nI o) = some s9 := c9
      obtain ⟨s10, c10, F10, n10, t10, q10⟩ := rf_setQ (s := s9) (q := q) (w := 1) (v := nI o) hq42 (by decide)
      have c10' : f_X9_setQueue s9 (nI q) 1 (nI o) = some s10 := c10
      have k10 : vn s10 2 q 2 = vn s 2 q 2 := by rw [n10, if_neg (by omega), n9, if_neg (by omega), k2]
      obtain ⟨s11, c11, F11, n11, t11, q11⟩ := rf_setQ (s := s10) (q := q) (w := 2) (v := vn s 2 q 2 + 1) hq42 (by decide)
      have c11' : f_X9_setQueue s10 (nI q) 2 (vn s 2 q 2 + 1) = some s11 := c11
      clear c9 c10 c11
      refine ⟨s11, ?_, ((F18.trans F9).trans F10).trans F11, ?_, ?_, ?_⟩
      · unfold f_X9_queue
        simp only [nb_8_18186, tc_8, vn_s8, h8, eq, of_5 s ho, c1, c2', c3', c4', c5', c6', c7', c8, ofQueue_0 s8 hq42, k0, hE, if_true, c9', c10', ofQueue_2 s10 hq42, k10, c11', if_true]
      · intro g i w
        rw [n11, n10, n9, n8, n17]
        clear c1 c2' c3' c4' c5' c6' c7' c8 n8 n9 n10 n11 n17 t8 t9 t10 t11 t17 q8 q9 q10 q11 q17
        simp only [reduceCtorEq, and_false, false_and, and_true, if_false, Option.some.injEq]
      · intro i w
        rw [t11, t10, t9, t8, t17]
      · intro i w
        rw [q11, q10, q9, q8, q17]
    | some rr =>
      obtain ⟨hr1, hr2⟩ := hq
      subst hr1
      obtain ⟨s9, c9, F9, n9, t9, q9⟩ := rf_setQ (s := s8) (q := q) (w := 0) (v := nI o) hq42 (by decide)
      have c9' : f_X9_setQueue s8 (nI q) 0 (nI o) = some s9 := c9
      obtain ⟨s10, c10, F10, n10, t10, q10⟩ := rf_setQ (s := s9) (q := q) (w := 1) (v := nI o) hq42 (by decide)
      have c10' : f_X9_setQueue s9 (nI q) 1 (nI o) = some s10 := c10
      have k10 : vn s10 2 q 2 = vn s 2 q 2 := by rw [n10, if_neg (by omega), n9, if_neg (by omega), k2]
      obtain ⟨s11, c11, F11, n11, t11, q11⟩ := rf_setQ (s := s10) (q := q) (w := 2) (v := vn s 2 q 2 + 1) hq42 (by decide)
      have c11' : f_X9_setQueue s10 (nI q) 2 (vn s 2 q 2 + 1) = some s11 := c11
      clear c9 c10 c11
      obtain ⟨s12, c12, F12, n12, t12, q12⟩ := rf_pend (s := s11) (r := rr) (v := 1) hr2
      have k12 : vn s11 5 rr 3 = vn s 5 rr 3 := by rw [n11, if_neg (by omega), n10, if_neg (by omega), n9, if_neg (by omega), n8]; simp [n17]
      refine ⟨s12, ?_, (((F18.trans F9).trans F10).trans F11).trans F12, ?_, ?_, ?_⟩
      · unfold f_X9_queue
        simp only [nb_8_18186, tc_8, vn_s8, h8, eq, of_5 s ho, c1, c2', c3', c4', c5', c6', c7', c8, ofQueue_0 s8 hq42, k0, hE, if_true, c9', c10', ofQueue_2 s10 hq42, k10, c11', if_neg (nI_nm1 (show rr < 400 from hr2)), c12]
      · intro g i w
        rw [n12, k12, n11, n10, n9, n8, n17]
        clear c1 c2' c3' c4' c5' c6' c7' c8 n8 n9 n10 n11 n17 t8 t9 t10 t11 t17 q8 q9 q10 q11 q17
        by_cases hA : g = 5 ∧ i = rr ∧ w = 3
        · obtain ⟨a, b, c⟩ := hA
          rw [a, b, c, if_pos ⟨rfl, rfl, rfl⟩, if_pos ⟨rfl, rfl, rfl⟩]
        · have hB : ¬ (g = 5 ∧ some i = some rr ∧ w = 3) := fun h => hA ⟨h.1, Option.some.inj h.2.1, h.2.2⟩
          rw [if_neg hA, if_neg hB]
          simp only [reduceCtorEq, and_false, false_and, and_true, if_false, Option.some.injEq]
      · intro i w
        rw [t12, t11, t10, t9, t8, t17]
      · intro i w
        rw [q12, q11, q10, q9, q8, q17]
  | some e =>
    obtain ⟨he0, he1, he2, he3⟩ := hE
    cases rq with
    | none =>
      simp only at hq
      subst hq
      obtain ⟨s9, c9, F9, n9, t9, q9⟩ := rf_set (s := s8) (o := e) (w := 5) (v := nI o) he2 (by decide)
      have c9' : f_X9_set s8 (nI e) 5 (nI o) = some s9 := c9
      obtain ⟨s10, c10, F10, n10, t10, q10⟩ := rf_setQ (s := s9) (q := q) (w := 1) (v := nI o) hq42 (by decide)
      have c10' : f_X9_setQueue s9 (nI q) 1 (nI o) = some s10 := c10
      have k10 : vn s10 2 q 2 = vn s 2 q 2 := by rw [n10, if_neg (by omega), n9, if_neg (by omega), k2]
      obtain ⟨s11, c11, F11, n11, t11, q11⟩ := rf_setQ (s := s10) (q := q) (w := 2) (v := vn s 2 q 2 + 1) hq42 (by decide)
      have c11' : f_X9_setQueue s10 (nI q) 2 (vn s 2 q 2 + 1) = some s11 := c11
      clear c9 c10 c11
      refine ⟨s11, ?_, ((F18.trans F9).trans F10).trans F11, ?_, ?_, ?_⟩
      · unfold f_X9_queue
        simp only [nb_8_18186, tc_8, vn_s8, h8, eq, of_5 s ho, c1, c2', c3', c4', c5', c6', c7', c8, ofQueue_0 s8 hq42, k0, if_neg he0, ofQueue_1 s8 hq42, k1, he1, c9', c10', ofQueue_2 s10 hq42, k10, c11', if_true]
      · intro g i w
        rw [n11, n10, n9, n8, n17]
        clear c1 c2' c3' c4' c5' c6' c7' c8 n8 n9 n10 n11 n17 t8 t9 t10 t11 t17 q8 q9 q10 q11 q17
        simp only [reduceCtorEq, and_false, false_and, and_true, if_false, Option.some.injEq]
      · intro i w
        rw [t11, t10, t9, t8, t17]
      · intro i w
        rw [q11, q10, q9, q8, q17]
    | some rr =>
      obtain ⟨hr1, hr2⟩ := hq
      subst hr1
      obtain ⟨s9, c9, F9, n9, t9, q9⟩ := rf_set (s := s8) (o := e) (w := 5) (v := nI o) he2 (by decide)
      have c9' : f_X9_set s8 (nI e) 5 (nI o) = some s9 := c9
      obtain ⟨s10, c10, F10, n10, t10, q10⟩ := rf_setQ (s := s9) (q := q) (w := 1) (v := nI o) hq42 (by decide)
      have c10' : f_X9_setQueue s9 (nI q) 1 (nI o) = some s10 := c10
      have k10 : vn s10 2 q 2 = vn s 2 q 2 := by rw [n10, if_neg (by omega), n9, if_neg (by omega), k2]
      obtain ⟨s11, c11, F11, n11, t11, q11⟩ := rf_setQ (s := s10) (q := q) (w := 2) (v := vn s 2 q 2 + 1) hq42 (by decide)
      have c11' : f_X9_setQueue s10 (nI q) 2 (vn s 2 q 2 + 1) = some s11 := c11
      clear c9 c10 c11
      obtain ⟨s12, c12, F12, n12, t12, q12⟩ := rf_pend (s := s11) (r := rr) (v := 1) hr2
      have k12 : vn s11 5 rr 3 = vn s 5 rr 3 := by rw [n11, if_neg (by omega), n10, if_neg (by omega), n9, if_neg (by omega), n8]; simp [n17]
      refine ⟨s12, ?_, (((F18.trans F9).trans F10).trans F11).trans F12, ?_, ?_, ?_⟩
      · unfold f_X9_queue
        simp only [nb_8_18186, tc_8, vn_s8, h8, eq, of_5 s ho, c1, c2', c3', c4', c5', c6', c7', c8, ofQueue_0 s8 hq42, k0, if_neg he0, ofQueue_1 s8 hq42, k1, he1, c9', c10', ofQueue_2 s10 hq42, k10, c11', if_neg (nI_nm1 (show rr < 400 from hr2)), c12]
      · intro g i w
        rw [n12, k12, n11, n10, n9, n8, n17]
        clear c1 c2' c3' c4' c5' c6' c7' c8 n8 n9 n10 n11 n17 t8 t9 t10 t11 t17 q8 q9 q10 q11 q17
        by_cases hA : g = 5 ∧ i = rr ∧ w = 3
        · obtain ⟨a, b, c⟩ := hA
          rw [a, b, c, if_pos ⟨rfl, rfl, rfl⟩, if_pos ⟨rfl, rfl, rfl⟩]
        · have hB : ¬ (g = 5 ∧ some i = some rr ∧ w = 3) := fun h => hA ⟨h.1, Option.some.inj h.2.1, h.2.2⟩
          rw [if_neg hA, if_neg hB]
          simp only [reduceCtorEq, and_false, false_and, and_true, if_false, Option.some.injEq]
      · intro i w
        rw [t12, t11, t10, t9, t8, t17]
      · intro i w
        rw [q12, q11, q10, q9, q8, q17]
