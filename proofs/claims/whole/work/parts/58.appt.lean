/-! Append, the tags, the program's class. -/
/-- the next tag behind the last one -/
def ab_nx (x : Option Int64) (st : Int64) (sh : Int32) : Int64 := match x with
  | none => st
  | some t => if t + (1000000 / sh).toInt64 < st then st else t + (1000000 / sh).toInt64
theorem ab_step {sh : Int32} (h : 0 < sh) : 0 ≤ (1000000 / sh).toInt ∧ (1000000 / sh).toInt ≤ 1000000 := by
  rw [Int32.lt_iff_toInt_lt] at h
  have h0 : (0 : Int32).toInt = 0 := rfl
  have h1 : (1000000 : Int32).toInt = 1000000 := rfl
  rw [h0] at h
  rw [Int32.toInt_div, h1, Int.tdiv_eq_ediv_of_nonneg (by decide)]
  have a : 0 ≤ (1000000 : Int) / sh.toInt := Int.ediv_nonneg (by decide) (by omega)
  have b : (1000000 : Int) / sh.toInt ≤ 1000000 := Int.ediv_le_self _ (by decide)
  rw [Int.bmod_eq_of_le (by omega) (by omega)]
  exact ⟨a, b⟩
theorem ab_stamp {n : Nat} (h : n ≤ 100000) : (1000 * (nI n).toInt64 : Int64).toInt = 1000 * (n : Int) := by
  rw [Int64.toInt_mul, Int32.toInt_toInt64, nI_toInt (by omega), show (1000 : Int64).toInt = 1000 from rfl]
  exact Int.bmod_eq_of_le (by omega) (by omega)
theorem ab_no_lt {sh : Int32} {n : Nat} (h : 0 < sh) (hn : n ≤ 100000) : ab_no + (1000000 / sh).toInt64 < 1000 * (nI n).toInt64 := by
  rw [Int64.lt_iff_toInt_lt, ab_stamp hn, Int64.toInt_add, Int32.toInt_toInt64, show ab_no.toInt = -1152921504606846976 from rfl]
  have := ab_step h
  rw [Int.bmod_eq_of_le (by omega) (by omega)]
  omega
theorem ab_nx_eq {x : Option Int64} {sh : Int32} {n : Nat} (h : 0 < sh) (hn : n ≤ 100000) : (if x.getD ab_no + (1000000 / sh).toInt64 < 1000 * (nI n).toInt64 then 1000 * (nI n).toInt64 else x.getD ab_no + (1000000 / sh).toInt64) = ab_nx x (1000 * (nI n).toInt64) sh := by
  cases x with
  | none => exact if_pos (ab_no_lt h hn)
  | some t => rfl
theorem i32_npos {a : Int32} (h : ¬ a ≤ 0) : 0 < a ∧ ¬ a = 0 := by
  have h1 : 0 < a := Int32.not_le.mp h
  refine ⟨h1, fun h2 => ?_⟩
  subst h2
  exact absurd h1 (by decide)
theorem ap_t {q : Nat} (h : q < 42) : nI q - nI q / 6 * 6 = nI (q % 6) := by
  have : ∀ q : Fin 42, nI q.1 - nI q.1 / 6 * 6 = nI (q.1 % 6) := by decide
  exact this ⟨q, h⟩
/-- what append writes -/
def ap_eff (s s' : cs_S) (q c L e : Nat) (due : Int32) (r : Option Int64) (p : Int64) (l : Option Int64) : Prop := s'.1 = s.1 ∧ (∀ P k, s'.2.1 P k =
  if P = 4 ∧ k = q then nI (L + 1) else if P = 3 ∧ k = q then nI c else if P = 2 ∧ k = q ∧ L = 0 then nI c else if P = 12 ∧ k = e ∧ L ≠ 0 then nI c else if P = 12 ∧ k = c then -1 else if P = 11 ∧ k = c then due else s.2.1 P k) ∧
  (∀ P k, s'.2.2 P k = if P = 8 ∧ k = c then r.getD ab_no else if P = 9 ∧ k = c then p else if P = 10 ∧ k = c then l.getD 0 else if P = 5 ∧ k = q ∧ r.isSome = true then r.getD 0 else if P = 6 ∧ k = q then p else if P = 7 ∧ k = q ∧ l.isSome = true then l.getD 0 else s.2.2 P k)
theorem ap_c2 {s4 s : cs_S} {q c L e n : Nat} {due l5 Lm : Int32} {x : Option Int64} (hn : n ≤ 100000) (hq : q < 42) (hc : c < 3248) (hL : s.2.1 4 q = nI L) (hL' : L < 3248) (he : L ≠ 0 → s.2.1 3 q = nI e ∧ e < 3248) (hl : s4.2.1 3 (q % 6) = Lm) (hx : s.2.2 7 q = x.getD ab_no) : ∃ s' s'', fc_X3_append_c2 s4 s (nI q) (nI c) due l5 (nI (q % 6)) (1000 * (nI n).toInt64) 0 (nI c) = some s' ∧ ap_ints s'' s' q c L e due ∧ s''.1 = s.1 ∧ s''.2.1 = s.2.1 ∧ ∀ P k, s''.2.2 P k = if P = 10 ∧ k = c then (if Lm ≤ 0 then 0 else ab_nx x (1000 * (nI n).toInt64) Lm) else if P = 7 ∧ k = q ∧ ¬ Lm ≤ 0 then ab_nx x (1000 * (nI n).toInt64) Lm else s.2.2 P k := by
  have ht : q % 6 < 6 := Nat.mod_lt _ (by decide)
  by_cases h : Lm ≤ 0
  · obtain ⟨s', h1, h2⟩ := ap_c3 (s4 := s4) (s := cs_l s 10 (nI c) 0) (due := due) (l3 := due) (l5 := l5) (l6 := nI (q % 6)) (l7 := 1000 * (nI n).toInt64) hq hc hL hL' he
    refine ⟨s', _, ?_, h2, rfl, rfl, ?_⟩
    · simp (disch := omega) [fc_X3_append_c2, nb_nI, nI_clamp, hl, h, h1]
    · intro P k
      simp (disch := omega) only [cl_3, h]
      repeat' split
      all_goals first | rfl | omega | (exfalso; simp_all)
  · obtain ⟨h0, h0'⟩ := i32_npos h
    obtain ⟨s', h1, h2⟩ := ap_c3 (s4 := s4) (s := cs_l (cs_l (cs_l s 10 (nI c) 0) 7 (nI q) (ab_nx x (1000 * (nI n).toInt64) Lm)) 10 (nI c) (ab_nx x (1000 * (nI n).toInt64) Lm)) (due := due) (l3 := due) (l5 := l5) (l6 := nI (q % 6)) (l7 := 1000 * (nI n).toInt64) hq hc hL hL' he
    refine ⟨s', _, ?_, h2, rfl, rfl, ?_⟩
    · have e1 : (cs_l s 10 (nI c) 0).2.2 7 q = x.getD ab_no := by
        rw [cl_3 (by omega), if_neg (by omega), hx]
      simp (disch := omega) only [fc_X3_append_c2, fc_X3_append_c9, fc_X3_append_c10, nb_nI, nI_clamp, hl, if_neg h, if_neg h0', e1, ab_nx_eq h0 hn, cl_3, h1]
      simp (disch := omega) [h1, cl_3]
    · intro P k
      simp (disch := omega) only [cl_3, h]
      repeat' split
      all_goals first | rfl | omega | (exfalso; simp_all)
theorem ap_c11 {s4 s : cs_S} {q c L e n : Nat} {due l5 Lm : Int32} {x : Option Int64} {k0 : Int64} (hn : n ≤ 100000) (hq : q < 42) (hc : c < 3248) (hL : s.2.1 4 q = nI L) (hL' : L < 3248) (he : L ≠ 0 → s.2.1 3 q = nI e ∧ e < 3248) (hl : s4.2.1 3 (q % 6) = Lm) (hx : s.2.2 7 q = x.getD ab_no) : ∃ s' s'', fc_X3_append_c11 s4 s (nI q) (nI c) due l5 (nI (q % 6)) (1000 * (nI n).toInt64) k0 (nI q) = some s' ∧ ap_ints s'' s' q c L e due ∧ s''.1 = s.1 ∧ s''.2.1 = s.2.1 ∧ ∀ P k, s''.2.2 P k = if P = 9 ∧ k = c then k0 else if P = 10 ∧ k = c then (if Lm ≤ 0 then 0 else ab_nx x (1000 * (nI n).toInt64) Lm) else if P = 6 ∧ k = q then k0 else if P = 7 ∧ k = q ∧ ¬ Lm ≤ 0 then ab_nx x (1000 * (nI n).toInt64) Lm else s.2.2 P k := by
  obtain ⟨s', s'', h1, h2, h3, h4, h5⟩ := ap_c2 (s4 := s4) (s := cs_l (cs_l s 6 (nI q) k0) 9 (nI c) k0) (due := due) (l5 := l5) (x := x) hn hq hc hL hL' he hl (by rw [cl_3 (by omega), if_neg (by omega), cl_3 (by omega), if_neg (by omega), hx])
  refine ⟨s', s'', ?_, h2, h3, h4, ?_⟩
  · simp (disch := omega) [fc_X3_append_c11, fc_X3_append_c1, nb_nI, nI_clamp, cl_3, h1]
  · intro P k
    rw [h5]
    simp (disch := omega) only [cl_3]
    repeat' split
    all_goals first | rfl | omega
theorem ap_c13 {s4 s : cs_S} {q c L e n : Nat} {due l5 Wt Lm : Int32} {xp x : Option Int64} {k0 : Int64} (hn : n ≤ 100000) (hq : q < 42) (hc : c < 3248) (hL : s.2.1 4 q = nI L) (hL' : L < 3248) (he : L ≠ 0 → s.2.1 3 q = nI e ∧ e < 3248) (hw : s4.2.1 2 (q % 6) = Wt) (hw0 : ¬ Wt ≤ 0) (hl : s4.2.1 3 (q % 6) = Lm) (hp : s.2.2 6 q = xp.getD ab_no) (hx : s.2.2 7 q = x.getD ab_no) : ∃ s' s'', fc_X3_append_c13 s4 s (nI q) (nI c) due l5 (nI (q % 6)) (1000 * (nI n).toInt64) k0 (nI c) = some s' ∧ ap_ints s'' s' q c L e due ∧ s''.1 = s.1 ∧ s''.2.1 = s.2.1 ∧ ∀ P k, s''.2.2 P k = if P = 8 ∧ k = c then k0 else if P = 9 ∧ k = c then ab_nx xp (1000 * (nI n).toInt64) Wt else if P = 10 ∧ k = c then (if Lm ≤ 0 then 0 else ab_nx x (1000 * (nI n).toInt64) Lm) else if P = 6 ∧ k = q then ab_nx xp (1000 * (nI n).toInt64) Wt else if P = 7 ∧ k = q ∧ ¬ Lm ≤ 0 then ab_nx x (1000 * (nI n).toInt64) Lm else s.2.2 P k := by
  have ht : q % 6 < 6 := Nat.mod_lt _ (by decide)
  obtain ⟨h0, h0'⟩ := i32_npos hw0
  obtain ⟨s', s'', h1, h2, h3, h4, h5⟩ := ap_c11 (s4 := s4) (s := cs_l s 8 (nI c) k0) (due := due) (l5 := l5) (x := x) (k0 := ab_nx xp (1000 * (nI n).toInt64) Wt) hn hq hc hL hL' he hl (by rw [cl_3 (by omega), if_neg (by omega), hx])
  refine ⟨s', s'', ?_, h2, h3, h4, ?_⟩
  · have e1 : (cs_l s 8 (nI c) k0).2.2 6 q = xp.getD ab_no := by
      rw [cl_3 (by omega), if_neg (by omega), hp]
    simp (disch := omega) only [fc_X3_append_c13, nb_nI, nI_clamp, hw, if_neg hw0, if_neg h0', e1, ab_nx_eq h0 hn, h1]
  · intro P k
    rw [h5]
    simp (disch := omega) only [cl_3]
    repeat' split
    all_goals first | rfl | omega
/-- append, the program's class -/
theorem ap_cls {s4 s : cs_S} {q c L e n : Nat} {due R Wt Lm : Int32} {xr xp x : Option Int64} (hn : n ≤ 100000) (hq : q < 42) (hc : c < 3248) (hL : s.2.1 4 q = nI L) (hL' : L < 3248) (he : L ≠ 0 → s.2.1 3 q = nI e ∧ e < 3248) (hr : s4.2.1 1 (q % 6) = R) (hw : s4.2.1 2 (q % 6) = Wt) (hw0 : ¬ Wt ≤ 0) (hl : s4.2.1 3 (q % 6) = Lm) (h5 : s.2.2 5 q = xr.getD ab_no) (hp : s.2.2 6 q = xp.getD ab_no) (hx : s.2.2 7 q = x.getD ab_no) : ∃ s', f_X3_append s4 s (nI q) (nI c) due (nI n) = some s' ∧ ap_eff s s' q c L e due (if R ≤ 0 then none else some (ab_nx xr (1000 * (nI n).toInt64) R)) (ab_nx xp (1000 * (nI n).toInt64) Wt) (if Lm ≤ 0 then none else some (ab_nx x (1000 * (nI n).toInt64) Lm)) := by
  have ht : q % 6 < 6 := Nat.mod_lt _ (by decide)
  obtain ⟨w0, w0'⟩ := i32_npos hw0
  by_cases h : R ≤ 0
  · obtain ⟨s', s'', h1, h2, h3, h4, h6⟩ := ap_c11 (s4 := s4) (s := cs_l s 8 (nI c) ab_no) (due := due) (l5 := nI n) (x := x) (k0 := ab_nx xp (1000 * (nI n).toInt64) Wt) hn hq hc hL hL' he hl (by rw [cl_3 (by omega), if_neg (by omega), hx])
    refine ⟨s', ?_, h2.1.trans h3, ?_, ?_⟩
    · have e1 : (cs_l s 8 (nI c) (-1152921504606846976)).2.2 6 q = xp.getD ab_no := by
        rw [cl_3 (by omega), if_neg (by omega), hp]
      simp (disch := omega) only [f_X3_append, ap_t hq, nb_nI, nI_clamp, hr, hw, if_pos h, if_neg hw0, if_neg w0', e1, ab_nx_eq w0 hn]
      exact h1
    · intro P k
      rw [h2.2.2, h4]
      rfl
    · intro P k
      rw [h2.2.1, h6]
      simp (disch := omega) only [cl_3, if_pos h]
      by_cases hm : Lm ≤ 0
      · simp only [if_pos hm]
        repeat' split
        all_goals first | rfl | omega | simp_all
      · simp only [if_neg hm]
        repeat' split
        all_goals first | rfl | omega | simp_all
  · obtain ⟨r0, r0'⟩ := i32_npos h
    obtain ⟨s', s'', h1, h2, h3, h4, h6⟩ := ap_c13 (s4 := s4) (s := cs_l (cs_l s 8 (nI c) ab_no) 5 (nI q) (ab_nx xr (1000 * (nI n).toInt64) R)) (due := due) (l5 := nI n) (xp := xp) (x := x) (k0 := ab_nx xr (1000 * (nI n).toInt64) R) hn hq hc hL hL' he hw hw0 hl (by rw [cl_3 (by omega), if_neg (by omega), cl_3 (by omega), if_neg (by omega), hp]) (by rw [cl_3 (by omega), if_neg (by omega), cl_3 (by omega), if_neg (by omega), hx])
    refine ⟨s', ?_, h2.1.trans h3, ?_, ?_⟩
    · have e1 : (cs_l s 8 (nI c) (-1152921504606846976)).2.2 5 q = xr.getD ab_no := by
        rw [cl_3 (by omega), if_neg (by omega), h5]
      simp (disch := omega) only [f_X3_append, fc_X3_append_c12, ap_t hq, nb_nI, nI_clamp, hr, if_neg h, if_neg r0', e1, ab_nx_eq r0 hn]
      rw [cl_3 (by omega), if_pos ⟨rfl, rfl⟩]
      exact h1
    · intro P k
      rw [h2.2.2, h4]
      rfl
    · intro P k
      rw [h2.2.1, h6]
      simp (disch := omega) only [cl_3, if_neg h]
      by_cases hm : Lm ≤ 0
      · simp only [if_pos hm]
        repeat' split
        all_goals first | rfl | omega | simp_all
      · simp only [if_neg hm]
        repeat' split
        all_goals first | rfl | omega | simp_all
