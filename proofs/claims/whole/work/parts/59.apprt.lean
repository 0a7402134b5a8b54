/-! Append, the tags, the reference. -/
/-- all but 'now' and the tags is as it was -/
def rf_F (s s' : mo_S) : Prop := s'.1 = s.1 ∧ s'.2.1 = s.2.1 ∧ (∀ p, p ≠ 3 → s'.2.2.1 p = s.2.2.1 p) ∧ (∀ p, p ≠ 5 → s'.2.2.2 p = s.2.2.2 p)
theorem rf_F.rfl' (s : mo_S) : rf_F s s := ⟨rfl, rfl, fun _ _ => rfl, fun _ _ => rfl⟩
theorem rf_F.trans {a b c : mo_S} (h : rf_F a b) (h' : rf_F b c) : rf_F a c := ⟨h'.1.trans h.1, h'.2.1.trans h.2.1, fun p hp => (h'.2.2.1 p hp).trans (h.2.2.1 p hp), fun p hp => (h'.2.2.2 p hp).trans (h.2.2.2 p hp)⟩
theorem rf_F.us (s : mo_S) (g i w : Nat) (v : Int32) : rf_F s (us s g i w v) := ⟨rfl, rfl, fun p hp => us_3 s g i w v hp, fun _ _ => rfl⟩
theorem rf_F.ut (s : mo_S) (o w : Nat) (v : Int64) : rf_F s (ut s o w v) := ⟨rfl, rfl, fun _ _ => rfl, fun p hp => by funext k; exact (mo_l_4 s 5 p _ v k).trans (if_neg (fun h => hp h.1))⟩
theorem rf_F.uq (s : mo_S) (o w : Nat) (v : Int64) : rf_F s (uq s o w v) := ⟨rfl, rfl, fun _ _ => rfl, fun p hp => by funext k; exact (mo_l_4 s 5 p _ v k).trans (if_neg (fun h => hp h.1))⟩
theorem ab_d64 {sh : Int32} (h : 0 < sh) : 1000000 / sh.toInt64 = (1000000 / sh).toInt64 := by
  apply Int64.toInt_inj.mp
  have h1 := ab_step h
  rw [Int32.toInt_toInt64, Int64.toInt_div, Int32.toInt_toInt64, show (1000000 : Int64).toInt = 1000000 from rfl]
  have e : (1000000 / sh).toInt = (1000000 : Int).tdiv sh.toInt := by
    rw [Int32.lt_iff_toInt_lt, show (0 : Int32).toInt = 0 from rfl] at h
    rw [Int32.toInt_div, show (1000000 : Int32).toInt = 1000000 from rfl, Int.tdiv_eq_ediv_of_nonneg (by decide)]
    have a : 0 ≤ (1000000 : Int) / sh.toInt := Int.ediv_nonneg (by decide) (by omega)
    have b : (1000000 : Int) / sh.toInt ≤ 1000000 := Int.ediv_le_self _ (by decide)
    exact Int.bmod_eq_of_le (by omega) (by omega)
  rw [← e]
  exact Int.bmod_eq_of_le (by omega) (by omega)
theorem lg_le (x y : Int64) : 0 ≤ lg_cmp x y ↔ ¬ x < y := by
  unfold lg_cmp
  by_cases h : x > y
  · rw [if_pos h]
    have h' : ¬ x < y := Int64.not_lt.mpr (Int64.le_of_lt h)
    exact ⟨fun _ => h', fun _ => by decide⟩
  · rw [if_neg h]
    by_cases e : x = y
    · rw [if_pos e]
      subst e
      exact ⟨fun _ => Int64.lt_irrefl, fun _ => by decide⟩
    · rw [if_neg e]
      have h' : x < y := Int64.lt_of_le_of_ne (Int64.not_lt.mp h) e
      exact ⟨fun c => absurd c (by decide), fun c => absurd h' c⟩
theorem sh_ne0 {sh : Int32} (h : ¬ sh = 0) : ¬ sh.toInt64 = 0 := fun e => h (Int32.toInt_inj.mp (by rw [← Int32.toInt_toInt64, e]; rfl))
/-- the next tag of a queue, the reference -/
theorem rf_nx {s : mo_S} {q t w : Nat} {x : Option Int64} {n : Nat} {sh : Int32} (hq : q < 42) (ht : t < 6) (hw : w < 3) (hn : vn s 0 0 0 = nI n) (hs : s.2.2.1 0 (8 + 3 * t + w) = sh) (h0 : ¬ sh ≤ 0) (hf : vn s 2 q (3 + w) = if x.isSome = true then 1 else 0) (hx : ∀ y, x = some y → vq s q w = y) : f_X9_nextTag s (nI q) (nI t) (nI w) = some (ab_nx x (1000 * (nI n).toInt64) sh, us (uq s q w (ab_nx x (1000 * (nI n).toInt64) sh)) 2 q (3 + w) 1) := by
  obtain ⟨p0, p0'⟩ := i32_npos h0
  have e : ((6600 : Int32) + 3 * nI q) + nI w = nI (6600 + 3 * q + w) := ix_of 6600 3 q w
  have e3 : (3 : Int32) + nI w = nI (3 + w) := nI_add 3 w
  have hp : f_X9_part s (nI t) (nI w) = some ((1000000 / sh).toInt64) := by
    simp only [f_X9_part, shareOf_w s ht hw, hs, if_neg (sh_ne0 p0'), ab_d64 p0]
  have hst : f_X9_stamp s = some (1000 * (nI n).toInt64) := by
    simp only [f_X9_stamp, nb_0_18186, tc_0, vn_s0, hn]
  unfold f_X9_nextTag
  rw [e, nb_nI (by omega) (by decide), e3]
  simp only [hp, ofQueue_w s hq (show 3 + w < 6 by omega), hst]
  cases x with
  | none =>
    rw [hf]
    simp only [Option.isSome, if_pos, Bool.false_eq_true, if_false]
    rw [show mo_l s 5 (nI (6600 + 3 * q + w)) (1000 * (nI n).toInt64) = uq s q w (1000 * (nI n).toInt64) from rfl, setQueue_w _ hq (by omega)]
    rfl
  | some y =>
    have hy : s.2.2.2 5 (6600 + 3 * q + w) = y := by
      have := hx y rfl
      unfold vq at this
      rw [if_pos ⟨hq, hw⟩] at this
      exact this
    rw [hf]
    simp only [Option.isSome, if_true]
    rw [if_neg (by decide), nI_clamp (by omega), hy]
    simp only [lg_le]
    by_cases c : y + (1000000 / sh).toInt64 < 1000 * (nI n).toInt64
    · rw [if_neg (fun h => h c)]
      rw [show mo_l s 5 (nI (6600 + 3 * q + w)) (1000 * (nI n).toInt64) = uq s q w (1000 * (nI n).toInt64) from rfl, setQueue_w _ hq (by omega)]
      simp only [ab_nx, if_pos c]
    · rw [if_pos c]
      rw [show mo_l s 5 (nI (6600 + 3 * q + w)) (y + (1000000 / sh).toInt64) = uq s q w (y + (1000000 / sh).toInt64) from rfl, setQueue_w _ hq (by omega)]
      simp only [ab_nx, if_neg c]
/-- what the tags' writing does to the reference -/
def rt_eff (s s' : mo_S) (q o : Nat) (r : Option Int64) (p : Int64) (l : Option Int64) : Prop := rf_F s s' ∧
  (∀ g i w, vn s' g i w = if g = 7 ∧ i = o ∧ w = 6 then (if r.isSome = true then 1 else 0) else if g = 2 ∧ i = q ∧ w = 3 ∧ r.isSome = true then 1 else if g = 2 ∧ i = q ∧ w = 4 then 1 else if g = 2 ∧ i = q ∧ w = 5 ∧ l.isSome = true then 1 else vn s g i w) ∧
  (∀ i w, vt s' i w = if i = o ∧ w = 0 then r.getD 0 else if i = o ∧ w = 1 then p else if i = o ∧ w = 2 then l.getD 0 else vt s i w) ∧
  (∀ i w, vq s' i w = if i = q ∧ w = 0 ∧ r.isSome = true then r.getD 0 else if i = q ∧ w = 1 then p else if i = q ∧ w = 2 ∧ l.isSome = true then l.getD 0 else vq s i w)
theorem eb_2 {q w : Nat} (h : q < 42) (hw : w < 6) : eb 2 q w = true := decide_eq_true ⟨h, hw⟩
theorem eb_7 {o w : Nat} (h : o < 2200) (hw : w < 7) : eb 7 o w = true := decide_eq_true ⟨h, hw⟩
theorem ix_3 (o w : Nat) : nI 3 * nI o + nI w = nI (3 * o + w) := by
  rw [nI_mul, nI_add]
theorem rf_nx' {s : mo_S} {q t w : Nat} {x : Option Int64} {n : Nat} {sh : Int32} (hq : q < 42) (ht : t < 6) (hw : w < 3) (hn : vn s 0 0 0 = nI n) (hs : s.2.2.1 0 (8 + 3 * t + w) = sh) (h0 : ¬ sh ≤ 0) (hf : vn s 2 q (3 + w) = if x.isSome = true then 1 else 0) (hx : ∀ y, x = some y → vq s q w = y) : ∃ s', f_X9_nextTag s (nI q) (nI t) (nI w) = some (ab_nx x (1000 * (nI n).toInt64) sh, s') ∧ rf_F s s' ∧ (∀ g i w', vn s' g i w' = if g = 2 ∧ i = q ∧ w' = 3 + w then 1 else vn s g i w') ∧ (∀ i w', vt s' i w' = vt s i w') ∧ (∀ i w', vq s' i w' = if i = q ∧ w' = w then ab_nx x (1000 * (nI n).toInt64) sh else vq s i w') :=
  ⟨_, rf_nx hq ht hw hn hs h0 hf hx, (rf_F.uq _ _ _ _).trans (rf_F.us _ _ _ _ _), fun g i w' => by rw [vn_us (eb_2 hq (by omega)), vn_uq], fun i w' => by rw [vt_us, vt_uq hq hw], fun i w' => by rw [vq_us, vq_uq hq hw]⟩
theorem rf_st {s : mo_S} {o w : Nat} {v : Int64} (ho : o < 2200) (hw : w < 3) : ∃ s', mo_l s 5 (nI (3 * o + w)) v = s' ∧ rf_F s s' ∧ (∀ g i w', vn s' g i w' = vn s g i w') ∧ (∀ i w', vt s' i w' = if i = o ∧ w' = w then v else vt s i w') ∧ (∀ i w', vq s' i w' = vq s i w') :=
  ⟨ut s o w v, rfl, rf_F.ut _ _ _ _, fun g i w' => rfl, fun i w' => vt_ut ho hw i w', fun i w' => vq_ut ho hw i w'⟩
theorem rf_set {s : mo_S} {o w : Nat} {v : Int32} (ho : o < 2200) (hw : w < 7) : ∃ s', f_X9_set s (nI o) (nI w) v = some s' ∧ rf_F s s' ∧ (∀ g i w', vn s' g i w' = if g = 7 ∧ i = o ∧ w' = w then v else vn s g i w') ∧ (∀ i w', vt s' i w' = vt s i w') ∧ (∀ i w', vq s' i w' = vq s i w') :=
  ⟨us s 7 o w v, set_w s ho hw, rf_F.us _ _ _ _ _, fun g i w' => vn_us (eb_7 ho hw) g i w', fun i w' => rfl, fun i w' => rfl⟩
set_option maxHeartbeats 2000000 in
theorem rf_tags {s : mo_S} {q t o n : Nat} {xr xp xl : Option Int64} {R Wt Lm : Int32} (hq : q < 42) (ht : t < 6) (ho : o < 2200) (hn : vn s 0 0 0 = nI n) (hr : s.2.2.1 0 (8 + 3 * t) = R) (hw : s.2.2.1 0 (8 + 3 * t + 1) = Wt) (hl : s.2.2.1 0 (8 + 3 * t + 2) = Lm) (hw0 : ¬ Wt ≤ 0)
    (fr : vn s 2 q 3 = if xr.isSome = true then 1 else 0) (gr : ∀ y, xr = some y → vq s q 0 = y) (fp : vn s 2 q 4 = if xp.isSome = true then 1 else 0) (gp : ∀ y, xp = some y → vq s q 1 = y) (fl : vn s 2 q 5 = if xl.isSome = true then 1 else 0) (gl : ∀ y, xl = some y → vq s q 2 = y) :
    ∃ s', f_X9_setTags s (nI o) (nI q) (nI t) = some s' ∧ rt_eff s s' q o (if R ≤ 0 then none else some (ab_nx xr (1000 * (nI n).toInt64) R)) (ab_nx xp (1000 * (nI n).toInt64) Wt) (if Lm ≤ 0 then none else some (ab_nx xl (1000 * (nI n).toInt64) Lm)) := by
  have i0 : ((3 : Int32) * nI o) + 0 = nI (3 * o + 0) := ix_3 o 0
  have i1 : ((3 : Int32) * nI o) + 1 = nI (3 * o + 1) := ix_3 o 1
  have i2 : ((3 : Int32) * nI o) + 2 = nI (3 * o + 2) := ix_3 o 2
  have b0 : pm_inb (nI (3 * o + 0)) 6726 = true := nb_nI (by omega) (by decide)
  have b1 : pm_inb (nI (3 * o + 1)) 6726 = true := nb_nI (by omega) (by decide)
  have b2 : pm_inb (nI (3 * o + 2)) 6726 = true := nb_nI (by omega) (by decide)
  by_cases h : R ≤ 0
  · obtain ⟨s1, c1, F1, n1, t1, q1⟩ := rf_set (s := s) (o := o) (w := 6) (v := 0) ho (by decide)
    have c1' : f_X9_set s (nI o) 6 0 = some s1 := c1
    have h00 : f_X9_shareOf s (nI t) 0 = some R := by rw [shareOf_0 s ht, Nat.add_zero, hr]
    obtain ⟨s3, c2, F3, n3, t3, q3⟩ := rf_st (s := s1) (o := o) (w := 0) (v := 0) ho (by decide)
    have F03 := F1.trans F3
    obtain ⟨s4, a3, F4, n4, t4, q4⟩ := rf_nx' (s := s3) (q := q) (t := t) (w := 1) (x := xp) (n := n) (sh := Wt) hq ht (by decide) (by rw [n3, n1, if_neg (by omega)]; exact hn) (by rw [F03.2.2.1 0 (by decide)]; exact hw) hw0 (by rw [n3, n1, if_neg (by omega)]; exact fp) (fun y hy => by rw [q3, q1]; exact gp y hy)
    have a3' : f_X9_nextTag s3 (nI q) (nI t) 1 = some (ab_nx xp (1000 * (nI n).toInt64) Wt, s4) := a3
    obtain ⟨s5, c4, F5, n5, t5, q5⟩ := rf_st (s := s4) (o := o) (w := 1) (v := ab_nx xp (1000 * (nI n).toInt64) Wt) ho (by decide)
    have F05 := (F03.trans F4).trans F5
    have h04 : f_X9_shareOf s5 (nI t) 2 = some Lm := by rw [shareOf_2 s5 ht, F05.2.2.1 0 (by decide), hl]
    by_cases hm : Lm ≤ 0
    · obtain ⟨s8, c8, F8, n8, t8, q8⟩ := rf_st (s := s5) (o := o) (w := 2) (v := 0) ho (by decide)
      refine ⟨s8, ?_, F05.trans F8, ?_, ?_, ?_⟩
      · unfold f_X9_setTags
        rw [h00]
        simp only [if_pos h, c1', i0, i1, i2, b0, b1, b2, c2, a3', c4, h04, if_pos hm, fc_X9_setTags_c1, fc_X9_setTags_c2, b2, c8]
      · intro g i w
        rw [n8, n5, n4, n3, n1]
        simp only [if_pos h, if_pos hm, Option.isSome_none, Option.isSome_some, Option.getD_none, Option.getD_some, Bool.false_eq_true, and_false, and_true, if_false, if_true]
        repeat' split
        all_goals first | rfl | omega
      · intro i w
        rw [t8, t5, t4, t3, t1]
        simp only [if_pos h, if_pos hm, Option.isSome_none, Option.isSome_some, Option.getD_none, Option.getD_some, Bool.false_eq_true, and_false, and_true, if_false, if_true]
        repeat' split
        all_goals first | rfl | omega
      · intro i w
        rw [q8, q5, q4, q3, q1]
        simp only [if_pos h, if_pos hm, Option.isSome_none, Option.isSome_some, Option.getD_none, Option.getD_some, Bool.false_eq_true, and_false, and_true, if_false, if_true]
        repeat' split
        all_goals first | rfl | omega
    · obtain ⟨s6, a6, F6, n6, t6, q6⟩ := rf_nx' (s := s5) (q := q) (t := t) (w := 2) (x := xl) (n := n) (sh := Lm) hq ht (by decide) (by rw [n5, n4, if_neg (by omega), n3, n1, if_neg (by omega)]; exact hn) (by rw [F05.2.2.1 0 (by decide)]; exact hl) hm (by rw [n5, n4, if_neg (by omega), n3, n1, if_neg (by omega)]; exact fl) (fun y hy => by rw [q5, q4, if_neg (by omega), q3, q1]; exact gl y hy)
      have a6' : f_X9_nextTag s5 (nI q) (nI t) 2 = some (ab_nx xl (1000 * (nI n).toInt64) Lm, s6) := a6
      obtain ⟨s8, c8, F8, n8, t8, q8⟩ := rf_st (s := s6) (o := o) (w := 2) (v := ab_nx xl (1000 * (nI n).toInt64) Lm) ho (by decide)
      refine ⟨s8, ?_, (F05.trans F6).trans F8, ?_, ?_, ?_⟩
      · unfold f_X9_setTags
        rw [h00]
        simp only [if_pos h, c1', i0, i1, i2, b0, b1, b2, c2, a3', c4, h04, if_neg hm, a6', b2, c8]
      · intro g i w
        rw [n8, n6, n5, n4, n3, n1]
        simp only [if_pos h, if_neg hm, Option.isSome_none, Option.isSome_some, Option.getD_none, Option.getD_some, Bool.false_eq_true, and_false, and_true, if_false, if_true]
        repeat' split
        all_goals first | rfl | omega
      · intro i w
        rw [t8, t6, t5, t4, t3, t1]
        simp only [if_pos h, if_neg hm, Option.isSome_none, Option.isSome_some, Option.getD_none, Option.getD_some, Bool.false_eq_true, and_false, and_true, if_false, if_true]
        repeat' split
        all_goals first | rfl | omega
      · intro i w
        rw [q8, q6, q5, q4, q3, q1]
        simp only [if_pos h, if_neg hm, Option.isSome_none, Option.isSome_some, Option.getD_none, Option.getD_some, Bool.false_eq_true, and_false, and_true, if_false, if_true]
        repeat' split
        all_goals first | rfl | omega
  · obtain ⟨s1, c1, F1, n1, t1, q1⟩ := rf_set (s := s) (o := o) (w := 6) (v := 1) ho (by decide)
    have c1' : f_X9_set s (nI o) 6 1 = some s1 := c1
    have h00 : f_X9_shareOf s (nI t) 0 = some R := by rw [shareOf_0 s ht, Nat.add_zero, hr]
    obtain ⟨s2, a2, F2, n2, t2, q2⟩ := rf_nx' (s := s1) (q := q) (t := t) (w := 0) (x := xr) (n := n) (sh := R) hq ht (by decide) (by rw [n1, if_neg (by omega), hn]) (by rw [F1.2.2.1 0 (by decide)]; exact hr) h (by rw [n1, if_neg (by omega)]; exact fr) (fun y hy => by rw [q1]; exact gr y hy)
    have a2' : f_X9_nextTag s1 (nI q) (nI t) 0 = some (ab_nx xr (1000 * (nI n).toInt64) R, s2) := a2
    obtain ⟨s3, c2, F3, n3, t3, q3⟩ := rf_st (s := s2) (o := o) (w := 0) (v := ab_nx xr (1000 * (nI n).toInt64) R) ho (by decide)
    have F03 := (F1.trans F2).trans F3
    obtain ⟨s4, a3, F4, n4, t4, q4⟩ := rf_nx' (s := s3) (q := q) (t := t) (w := 1) (x := xp) (n := n) (sh := Wt) hq ht (by decide) (by rw [n3, n2, if_neg (by omega), n1, if_neg (by omega)]; exact hn) (by rw [F03.2.2.1 0 (by decide)]; exact hw) hw0 (by rw [n3, n2, if_neg (by omega), n1, if_neg (by omega)]; exact fp) (fun y hy => by rw [q3, q2, if_neg (by omega), q1]; exact gp y hy)
    have a3' : f_X9_nextTag s3 (nI q) (nI t) 1 = some (ab_nx xp (1000 * (nI n).toInt64) Wt, s4) := a3
    obtain ⟨s5, c4, F5, n5, t5, q5⟩ := rf_st (s := s4) (o := o) (w := 1) (v := ab_nx xp (1000 * (nI n).toInt64) Wt) ho (by decide)
    have F05 := (F03.trans F4).trans F5
    have h04 : f_X9_shareOf s5 (nI t) 2 = some Lm := by rw [shareOf_2 s5 ht, F05.2.2.1 0 (by decide), hl]
    by_cases hm : Lm ≤ 0
    · obtain ⟨s8, c8, F8, n8, t8, q8⟩ := rf_st (s := s5) (o := o) (w := 2) (v := 0) ho (by decide)
      refine ⟨s8, ?_, F05.trans F8, ?_, ?_, ?_⟩
      · unfold f_X9_setTags
        rw [h00]
        simp only [if_neg h, c1', a2', i0, i1, i2, b0, b1, b2, c2, a3', c4, h04, if_pos hm, fc_X9_setTags_c1, fc_X9_setTags_c2, b2, c8]
      · intro g i w
        rw [n8, n5, n4, n3, n2, n1]
        simp only [if_neg h, if_pos hm, Option.isSome_none, Option.isSome_some, Option.getD_none, Option.getD_some, Bool.false_eq_true, and_false, and_true, if_false, if_true]
        repeat' split
        all_goals first | rfl | omega
      · intro i w
        rw [t8, t5, t4, t3, t2, t1]
        simp only [if_neg h, if_pos hm, Option.isSome_none, Option.isSome_some, Option.getD_none, Option.getD_some, Bool.false_eq_true, and_false, and_true, if_false, if_true]
        repeat' split
        all_goals first | rfl | omega
      · intro i w
        rw [q8, q5, q4, q3, q2, q1]
        simp only [if_neg h, if_pos hm, Option.isSome_none, Option.isSome_some, Option.getD_none, Option.getD_some, Bool.false_eq_true, and_false, and_true, if_false, if_true]
        repeat' split
        all_goals first | rfl | omega
    · obtain ⟨s6, a6, F6, n6, t6, q6⟩ := rf_nx' (s := s5) (q := q) (t := t) (w := 2) (x := xl) (n := n) (sh := Lm) hq ht (by decide) (by rw [n5, n4, if_neg (by omega), n3, n2, if_neg (by omega), n1, if_neg (by omega)]; exact hn) (by rw [F05.2.2.1 0 (by decide)]; exact hl) hm (by rw [n5, n4, if_neg (by omega), n3, n2, if_neg (by omega), n1, if_neg (by omega)]; exact fl) (fun y hy => by rw [q5, q4, if_neg (by omega), q3, q2, if_neg (by omega), q1]; exact gl y hy)
      have a6' : f_X9_nextTag s5 (nI q) (nI t) 2 = some (ab_nx xl (1000 * (nI n).toInt64) Lm, s6) := a6
      obtain ⟨s8, c8, F8, n8, t8, q8⟩ := rf_st (s := s6) (o := o) (w := 2) (v := ab_nx xl (1000 * (nI n).toInt64) Lm) ho (by decide)
      refine ⟨s8, ?_, (F05.trans F6).trans F8, ?_, ?_, ?_⟩
      · unfold f_X9_setTags
        rw [h00]
        simp only [if_neg h, c1', a2', i0, i1, i2, b0, b1, b2, c2, a3', c4, h04, if_neg hm, a6', b2, c8]
      · intro g i w
        rw [n8, n6, n5, n4, n3, n2, n1]
        simp only [if_neg h, if_neg hm, Option.isSome_none, Option.isSome_some, Option.getD_none, Option.getD_some, Bool.false_eq_true, and_false, and_true, if_false, if_true]
        repeat' split
        all_goals first | rfl | omega
      · intro i w
        rw [t8, t6, t5, t4, t3, t2, t1]
        simp only [if_neg h, if_neg hm, Option.isSome_none, Option.isSome_some, Option.getD_none, Option.getD_some, Bool.false_eq_true, and_false, and_true, if_false, if_true]
        repeat' split
        all_goals first | rfl | omega
      · intro i w
        rw [q8, q6, q5, q4, q3, q2, q1]
        simp only [if_neg h, if_neg hm, Option.isSome_none, Option.isSome_some, Option.getD_none, Option.getD_some, Bool.false_eq_true, and_false, and_true, if_false, if_true]
        repeat' split
        all_goals first | rfl | omega
