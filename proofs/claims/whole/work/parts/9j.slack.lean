/-! The word that stands next; the slack; the tenants. -/
theorem j_sees {x : Nat → Nat} {len : Nat} {s0 : cs_S} {s : mo_S} (J : jt x len s0 s) :
    ∃ s' r, f_X9_seesWord s = some (r, s') ∧ rq rqA s s' ∧
      ((r = 1 ∧ jt x len s0 s' ∧ s0.1 1 3 = 3 ∧ s'.1 12 = s0.1 1 4 ∧ s'.1 9 = s0.1 1 4 ∧ ∀ w W, tk_tab w W → W < 2 ^ 40 → (f_X6_sees s0 w = some 1 ∧ lg_cmp s'.2.1 (lN W) = 0) ∨ (f_X6_sees s0 w = some 0 ∧ ¬ lg_cmp s'.2.1 (lN W) = 0)) ∨
       (r = 0 ∧ s0.1 1 3 ≠ 3 ∧ (∀ w, f_X6_sees s0 w = some 0) ∧ s'.1 14 = 1 ∧ s'.1 15 = s0.1 1 4)) := by
  obtain ⟨p, t, u, c, C, R, h9, T, z6, z14, z7, z15⟩ := J
  have hc := T.c5
  obtain ⟨s1, F1, g9, g12, g⟩ := rp_sees R h9 T
  have h3 := C.2.1
  have h4 := C.2.2.1
  rcases g with ⟨c3, g1, g2, g14, g15⟩ | ⟨c3, g1, g14, g15⟩
  · refine ⟨s1, 1, g1, F1.mono (by decide), .inl ⟨rfl, ⟨t, t, u, c, C, R.F F1 (by decide), g9, by rw [F1.2 11 (by decide)]; exact T.at, z6, by rw [g14]; exact z14, z7, by rw [g15]; exact z15⟩, by rw [h3, c3]; rfl, by rw [g12, h4], by rw [g9, h4], ?_⟩⟩
    intro w W tb hW
    rw [lg_0, g2]
    rcases cl_sees tb C T with ⟨e1, _, e2⟩ | ⟨e1, e2⟩
    · exact .inl ⟨e1, by rw [e2]⟩
    · refine .inr ⟨e1, fun h => e2 c3 ?_⟩
      obtain ⟨r1, r2, r3, r4, _⟩ := T.r3 (.inl c3)
      rw [c3] at r3
      have := (tk_w_lt (u - t) (fun k h1 h2 => r3 k h1 (by omega))).2
      exact lN_inj (by omega) hW h
  · have n3 : s0.1 1 3 ≠ 3 := by
      rw [h3]
      exact fun h => c3 ((nI_eq (b := 3) (by omega) (by omega)).mp h)
    refine ⟨s1, 0, g1, F1.mono (by decide), .inr ⟨rfl, n3, fun w => ?_, g14, by rw [g15, h4]⟩⟩
    unfold f_X6_sees
    rw [if_neg n3]
theorem j_pass {x : Nat → Nat} {len w : Nat} {s0 : cs_S} {s : mo_S} (J : jt x len s0 s) (h3 : s0.1 1 3 = 3) (hp : s.1 9 = s0.1 1 4) (hs : f_X6_sees s0 w = some 1) :
    ∃ s0' s', f_X6_passWord s0 w = some s0' ∧ f_X9_passWord s = some s' ∧ jt x len s0' s' ∧ tf s0 s0' ∧ rq rqA s s' := by
  obtain ⟨p, t, u, c, C, R, h9, T, z6, z14, z7, z15⟩ := J
  have hc := T.c5
  have c3 : c = 3 := by
    have := C.2.1
    rw [h3] at this
    exact ((nI_eq (a := 3) (by omega) (by omega)).mp this).symm
  obtain ⟨r1, r2, r3, r4, _⟩ := T.r3 (.inl c3)
  rw [c3] at r3 r4
  obtain ⟨s2, f1, F2, f9, f11⟩ := rp_pass R (hp.trans C.2.2.1) (by omega) r2 r3 r4
  obtain ⟨s0', d1, d2, d6, d7, t', u', c', C', T'⟩ := j_adv C T
  rw [if_pos (.inl c3)] at T'
  refine ⟨s0', s2, ?_, f1, ⟨u, t', u', c', C', R.F F2 (by decide), f9, by rw [f11]; exact T', by rw [d6]; exact z6, by rw [F2.2 14 (by decide)]; exact z14, by rw [d7]; exact z7, by rw [F2.2 15 (by decide)]; exact z15⟩, d2, F2.mono (by decide)⟩
  unfold f_X6_passWord
  simp only [hs, i32_10, if_false, d1]
theorem jt.z {x : Nat → Nat} {len : Nat} {s0 : cs_S} {s : mo_S} (J : jt x len s0 s) : s0.1 1 6 = 0 ∧ s.1 14 = 0 ∧ s0.1 1 7 = -1 ∧ s.1 15 = -1 := by
  obtain ⟨p, t, u, c, C, R, h9, T, z⟩ := J
  exact z
/-- what must be so when an array's text was read -/
def jG (s0' s3' : cs_S) (s' : mo_S) (r : Int32) : Prop := (r = 1 ∧ (s0'.1 1 6 = 0 ∧ s'.1 14 = 0 ∧ s0'.1 1 7 = -1 ∧ s'.1 15 = -1) ∧ ∃ D S T, ab_P (s'.2.2.1 1) s3' ∧ ab_pl (s'.2.2.1 1) D S T) ∨ (r = 0 ∧ je s0' s')
/-- what comes behind the tenants -/
def tn_t (s0 s3 : cs_S) : Option (cs_S × cs_S) :=
  match f_X6_sees s0 10 with
  | none => none
  | some r => if r = 0 then (match f_X6_passEnd s0 with | none => none | some a => some (a, s3)) else
    (match f_X6_passWord s0 10 with
    | none => none
    | some a => (match f_X6_takeNumber a 0 500 with
      | none => none
      | some (v, b) => (match f_X6_passSign b with
        | none => none
        | some c => (match f_X6_passEnd c with | none => none | some d => some (d, cs_i s3 0 6 v)))))
theorem er.tail {s0 : cs_S} (h : er s0) (s3 : cs_S) : tn_t s0 s3 = some (s0, s3) := by
  unfold tn_t
  simp only [h.sees, if_true, h.fin]
theorem er.loop {s0 : cs_S} (h : er s0) (s3 : cs_S) (fu : Nat) : pm_loop (fu + 1) lb_X2_readTenants_5 (s0, s3) = some (s0, s3) := by
  refine lp_inr ?_
  unfold lb_X2_readTenants_5
  simp only [h.sees, if_true, ite_self]
theorem er.ten {s0 : cs_S} (h : er s0) (s3 : cs_S) : ∃ s3', f_X2_readTenants s0 s3 = some (s0, s3') := ⟨_, h.loop _ 999999⟩
theorem c4_eq (s0 s3 : cs_S) (k0 : Int32) : fc_X2_readFrom_c4 s0 s3 k0 = (match f_X6_passSign s0 with | none => none | some a => (match f_X2_readTenants a (cs_i s3 0 5 k0) with | none => none | some (b, c) => tn_t b c)) := rfl
theorem er.c4 {s0 : cs_S} (h : er s0) (s3 : cs_S) (k0 : Int32) : ∃ s3', fc_X2_readFrom_c4 s0 s3 k0 = some (s0, s3') := by
  obtain ⟨s3', e⟩ := h.ten (cs_i s3 0 5 k0)
  refine ⟨s3', ?_⟩
  rw [c4_eq]
  simp only [h.sign, e, h.tail]
theorem er.c3 {s0 : cs_S} (h : er s0) (s3 : cs_S) (k0 : Int32) : ∃ s3', fc_X2_readFrom_c3 s0 s3 k0 = some (s0, s3') := by
  obtain ⟨a, e, _⟩ := h.share (T := 0) (by decide) (cs_i s3 0 3 k0)
  have e' : f_X2_readShare s0 (cs_i s3 0 3 k0) 0 = some (s0, a) := e
  obtain ⟨s3', e2⟩ := h.c4 (cs_i a 0 4 0) 0
  refine ⟨s3', ?_⟩
  unfold fc_X2_readFrom_c3
  simp only [h.sign, h.word, e', h.num, e2]
theorem er.c2 {s0 : cs_S} (h : er s0) (s3 : cs_S) (k0 : Int32) : ∃ s3', fc_X2_readFrom_c2 s0 s3 k0 = some (s0, s3') := by
  unfold fc_X2_readFrom_c2
  simp only [h.word, h.num]
  exact h.c3 _ _
theorem er.c1 {s0 : cs_S} (h : er s0) (s3 : cs_S) (k0 : Int32) : ∃ s3', fc_X2_readFrom_c1 s0 s3 k0 = some (s0, s3') := by
  unfold fc_X2_readFrom_c1
  simp only [h.word, h.num]
  exact h.c2 _ _
/-- the end of an array's text -/
theorem j_fin {x : Nat → Nat} {len : Nat} {s0 : cs_S} {s : mo_S} (J : jt x len s0 s) :
    ∃ s0' s' b, f_X6_passEnd s0 = some s0' ∧ f_X9_peek s = some (b, s') ∧ tf s0 s0' ∧ rq rqA s s' ∧
      ((b = -1 ∧ s0' = s0 ∧ (s0'.1 1 6 = 0 ∧ s'.1 14 = 0 ∧ s0'.1 1 7 = -1 ∧ s'.1 15 = -1)) ∨ (b ≠ -1 ∧ je s0' (mo_i (mo_i s' 14 1) 15 (s'.1 12)))) := by
  obtain ⟨s', b, e1, J', F, h12, hb, _⟩ := j_peek J
  have z := J'.z
  rcases j_end z.1 with ⟨k0, e⟩ | ⟨k0, s0', e, tF, r3, r6, r7⟩
  · exact ⟨s0, s', b, e, e1, tf.rfl' s0, F.mono (by decide), .inl ⟨hb.mpr k0, rfl, z⟩⟩
  · refine ⟨s0', s', b, e, e1, tF, F.mono (by decide), .inr ⟨fun h => k0 (hb.mp h), r3, by rw [r6]; decide, ?_, ?_⟩⟩
    · rw [r6, mo_i_1, if_neg (by decide), mo_i_1, if_pos rfl]
    · rw [r7, mo_i_1, if_pos rfl, h12]
/-- the slack, and the end -/
theorem j_slack {x : Nat → Nat} {len D S T : Nat} {s0 s3 : cs_S} {s : mo_S} (J : jt x len s0 s) (h3 : s0.1 1 3 = 3) (hP : ab_P (s.2.2.1 1) s3) (hp : ab_pl (s.2.2.1 1) D S T) (hs : f_X6_sees s0 10 = some 1 ∨ f_X6_sees s0 10 = some 0) :
    ∃ s0' s3' s' r, tn_t s0 s3 = some (s0', s3') ∧ lb_X9_readArray_56 (s, 0) = some (.inr (r, s')) ∧ tf s0 s0' ∧ rqF s s' ∧ jG s0' s3' s' r := by
  obtain ⟨s1, v, a, b, r, e1, e2, e3, f1, f2, h⟩ := j_set (i := 7) (W' := 20317291) 0 500 tb_slack (by decide) rfl (by decide) J
  have e3' : f_X9_readSetting s 20317291 7 0 500 = some (r, b) := e3
  rcases hs with hs | hs
  · rcases h with ⟨rfl, J1, lo, hi, fr⟩ | ⟨rfl, J1⟩
    · obtain ⟨a2, b2, r2, g1, g2, g3, g4, g⟩ := j_semi J1
      rcases g with ⟨rfl, J2⟩ | ⟨rfl, J2⟩
      · obtain ⟨a3, b3, bb, k1, k2, k3, k4, k⟩ := j_fin J2
        have cl : tn_t s0 s3 = some (a3, cs_i s3 0 6 v) := by
          unfold tn_t
          simp only [hs, i32_10, if_false, e1, e2, g1, k1]
        rcases k with ⟨rfl, rfl, z⟩ | ⟨hb, kje⟩
        · refine ⟨_, _, b3, 1, cl, ?_, (f1.trans g3).trans k3, (f2.trans (rqF.of g4)).trans (rqF.of k4), .inl ⟨rfl, z, D, S, T, ?_, ?_⟩⟩
          · unfold lb_X9_readArray_56
            simp only [if_true, e3', i32_10, if_false, g2, k2]
          · have e : b3.2.2.1 1 = b.2.2.1 1 := by rw [k4.1, g4.1]
            rw [e]
            obtain ⟨p0, p1, p2, p3, p4, p5, p7, p6, pt⟩ := hP
            refine ⟨?_, ?_, ?_, ?_, ?_, ?_, ?_, ?_, fun t ht => ?_⟩
            · rw [ci_1, if_neg (by omega), fr, if_neg (by omega)]; exact p0
            · rw [ci_1, if_neg (by omega), fr, if_neg (by omega)]; exact p1
            · rw [ci_1, if_neg (by omega), fr, if_neg (by omega)]; exact p2
            · rw [ci_1, if_neg (by omega), fr, if_neg (by omega)]; exact p3
            · rw [ci_1, if_neg (by omega), fr, if_neg (by omega)]; exact p4
            · rw [ci_1, if_neg (by omega), fr, if_neg (by omega)]; exact p5
            · rw [ci_1, if_neg (by omega), fr, if_neg (by omega)]; exact p7
            · rw [ci_1, if_pos ⟨rfl, rfl⟩, fr, if_pos rfl]
            · rw [fr, if_neg (by omega), fr, if_neg (by omega), fr, if_neg (by omega)]; exact pt t ht
          · have e : b3.2.2.1 1 = b.2.2.1 1 := by rw [k4.1, g4.1]
            rw [e]
            obtain ⟨p0, p1, p6, q1, q2, q3, q4, q5, q6, p2, p3, p4, p5, p7, pt⟩ := hp
            obtain ⟨n, _, hn, rfl⟩ := i32_nI (lo := 0) (hi := 500) lo hi (by decide) (by decide)
            refine ⟨?_, ?_, ?_, q1, q2, q3, q4, q5, q6, ?_, ?_, ?_, ?_, ⟨n, hn, ?_⟩, fun t ht => ?_⟩
            · rw [fr, if_neg (by omega)]; exact p0
            · rw [fr, if_neg (by omega)]; exact p1
            · rw [fr, if_neg (by omega)]; exact p6
            · rw [fr, if_neg (by omega)]; exact p2
            · rw [fr, if_neg (by omega)]; exact p3
            · rw [fr, if_neg (by omega)]; exact p4
            · rw [fr, if_neg (by omega)]; exact p5
            · rw [fr, if_pos rfl]
            · rw [fr, if_neg (by omega), fr, if_neg (by omega), fr, if_neg (by omega)]; exact pt t ht
        · refine ⟨_, _, _, 0, cl, ?_, (f1.trans g3).trans k3, ((f2.trans (rqF.of g4)).trans (rqF.of k4)).trans (rqF.of ((rq.i b3 1 (by decide)).trans (rq.i _ (b3.1 12) (by decide)))), .inr ⟨rfl, kje⟩⟩
          unfold lb_X9_readArray_56
          simp only [if_true, e3', i32_10, if_false, g2, k2, if_neg hb, fails_v]
      · refine ⟨a2, cs_i s3 0 6 v, b2, 0, ?_, ?_, f1.trans g3, f2.trans (rqF.of g4), .inr ⟨rfl, J2⟩⟩
        · unfold tn_t
          simp only [hs, i32_10, if_false, e1, e2, g1, J2.er.fin]
        · unfold lb_X9_readArray_56
          simp only [if_true, e3', i32_10, if_false, g2]
    · refine ⟨a, cs_i s3 0 6 v, b, 0, ?_, ?_, f1, f2, .inr ⟨rfl, J1⟩⟩
      · unfold tn_t
        simp only [hs, i32_10, if_false, e1, e2, J1.er.sign, J1.er.fin]
      · unfold lb_X9_readArray_56
        simp only [if_true, e3']
  · obtain ⟨s0', r1, r3, r6, r7, rF⟩ := rep_0 (a := 1) J.z.1
    have es : s1 = s0' := by
      have : f_X6_passWord s0 10 = some s0' := by
        unfold f_X6_passWord
        simp only [hs, if_true, r1]
      rw [e1] at this
      exact Option.some.inj this
    subst es
    have ee : er s1 := ⟨r3, by rw [r6]; decide⟩
    have ea : a = s1 := by
      rw [ee.num] at e2
      exact (Prod.mk.inj (Option.some.inj e2)).2.symm
    subst ea
    rcases h with ⟨rfl, J1, _⟩ | ⟨rfl, J1⟩
    · exact absurd J1.z.1 ee.2
    · refine ⟨_, s3, b, 0, ?_, ?_, f1, f2, .inr ⟨rfl, J1⟩⟩
      · unfold tn_t f_X6_passEnd
        simp only [hs, if_true, h3]
        rw [if_neg (by decide), r1]
      · unfold lb_X9_readArray_56
        simp only [if_true, e3']
