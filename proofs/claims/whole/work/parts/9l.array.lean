/-! An array's text as a whole, read by both programs. -/
def rd_l (s : mo_S) : Option (Int32 × mo_S) := match f_X9_readSemicolon s with
  | none => none
  | some (r, s1) => if r = 0 then some (0, s1) else pm_loop pm_fu lb_X9_readArray_56 (s1, 1)
theorem j_c4 {x : Nat → Nat} {len D S : Nat} {s0 s3 : cs_S} {k0 : Int32} {s : mo_S} (J : jt x len s0 s) (hP : ab_P (s.2.2.1 1) (cs_i (cs_i s3 0 5 k0) 0 7 1)) (hp : ab_pl (s.2.2.1 1) D S 1) :
    ∃ s0' s3' s' r, fc_X2_readFrom_c4 s0 s3 k0 = some (s0', s3') ∧ rd_l s = some (r, s') ∧ tf s0 s0' ∧ rqF s s' ∧ jG s0' s3' s' r := by
  obtain ⟨a, b, r, g1, g2, g3, g4, h⟩ := j_semi J
  have fr : b.2.2.1 = s.2.2.1 := by rw [g4.1]
  rw [c4_eq]
  unfold rd_l
  rcases h with ⟨rfl, J1⟩ | ⟨rfl, J1⟩
  · obtain ⟨s0', s3', s', r, i1, i2, i3, i4, i5⟩ := j_ten 6 1 999999 999999 a (cs_i (cs_i s3 0 5 k0) 0 7 1) b rfl (by decide) (by decide) J1 (by rw [fr]; exact hP) (by rw [fr]; exact hp)
    have e : f_X2_readTenants a (cs_i s3 0 5 k0) = pm_loop (999999 + 1) lb_X2_readTenants_5 (a, cs_i (cs_i s3 0 5 k0) 0 7 1) := rfl
    refine ⟨s0', s3', s', r, ?_, ?_, g3.trans i3, (rqF.of g4).trans i4, i5⟩
    · simp only [g1, e]
      exact i1
    · simp only [g2, i32_10, if_false]
      exact i2
  · obtain ⟨s3', e⟩ := J1.er.ten (cs_i s3 0 5 k0)
    refine ⟨a, s3', b, 0, ?_, ?_, g3, rqF.of g4, .inr ⟨rfl, J1⟩⟩
    · simp only [g1, e, J1.er.tail]
    · simp only [g2, if_true]
def rd_r (s : mo_S) : Option (Int32 × mo_S) := match f_X9_readRebuild s with
  | none => none
  | some (r, s1) => if r = 0 then some (0, s1) else pm_loop pm_fu lb_X9_readArray_56 (s1, 1)
/-- the program from the word rebuild on -/
def rd_c (s0 s3 : cs_S) : Option (cs_S × cs_S) :=
  match f_X6_passWord s0 6 with
  | none => none
  | some s0_23 => (match f_X2_readShare s0_23 s3 0 with
    | none => none
    | some (s0_25, s3_26) => (match f_X6_passWord s0_25 7 with
      | none => none
      | some s0_28 => (match f_X6_takeNumber s0_28 1 8 with
        | none => none
        | some (r30, s0_31) => (match f_X6_passWord s0_31 8 with
          | none => none
          | some s0_33 => (match f_X6_takeNumber s0_33 0 64 with
            | none => none
            | some (r35, s0_36) => fc_X2_readFrom_c4 s0_36 (cs_i s3_26 0 4 r30) r35)))))
theorem c3_eq (s0 s3 : cs_S) (k0 : Int32) : fc_X2_readFrom_c3 s0 s3 k0 = (match f_X6_passSign s0 with | none => none | some a => rd_c a (cs_i s3 0 3 k0)) := rfl
theorem er.rc {s0 : cs_S} (h : er s0) (s3 : cs_S) : ∃ s3', rd_c s0 s3 = some (s0, s3') := by
  obtain ⟨a, e, _⟩ := h.share (T := 0) (by decide) s3
  have e' : f_X2_readShare s0 s3 0 = some (s0, a) := e
  obtain ⟨s3', e2⟩ := h.c4 (cs_i a 0 4 0) 0
  refine ⟨s3', ?_⟩
  unfold rd_c
  simp only [h.word, e', h.num, e2]
theorem j_reb {x : Nat → Nat} {len D S B Q : Nat} {s0 s3 : cs_S} {s : mo_S} (J : jt x len s0 s) (hD : 3 ≤ D ∧ D ≤ 6) (hS : 1 ≤ S ∧ S ≤ 64) (hB : 1 ≤ B ∧ B ≤ 50) (hQ : Q ≤ 99)
    (hf : ∀ k, k < 26 → s.2.2.1 1 k = if k = 0 then nI D else if k = 1 then nI S else if k = 2 then nI B else if k = 3 then nI Q else if k = 6 then 1 else if k = 7 then 20 else 0)
    (h0 : s3.1 0 0 = nI D) (h1 : s3.1 0 1 = nI S) (h2 : s3.1 0 2 = nI B) (h3 : s3.1 0 3 = nI Q) (h6 : s3.1 0 6 = 20) (ha : ∀ p k, s3.2.1 p k = 0) :
    ∃ s0' s3' s' r, rd_c s0 s3 = some (s0', s3') ∧ rd_r s = some (r, s') ∧ tf s0 s0' ∧ rqF s s' ∧ jG s0' s3' s' r := by
  unfold rd_c rd_r f_X9_readRebuild
  obtain ⟨a1, b1, r, e1, e2, t1, F1, h⟩ := j_word (W' := 19497919876) tb_rebuild (by decide) rfl J
  rcases h with ⟨rfl, J1⟩ | ⟨rfl, J1⟩
  · obtain ⟨a2, c2, b2, r, e3, e4, t2, F2, c21, h⟩ := j_share (T := 0) (by decide) s3 J1
    have e3' : f_X2_readShare a1 s3 0 = some (a2, c2) := e3
    have e4' : f_X9_readShare b1 0 = some (r, b2) := e4
    rcases h with ⟨rfl, J2, va, vb, vc, hva, hvb, hvb', hvc, hc2, fr2⟩ | ⟨rfl, J2⟩
    · obtain ⟨d3, v3, a3, b3, r, e5, e6, e7, t3, F3, h⟩ := j_set (i := 4) (W' := 781652471) 1 8 tb_window (by decide) rfl (by decide) J2
      have e7' : f_X9_readSetting b2 781652471 4 1 8 = some (r, b3) := e7
      rcases h with ⟨rfl, J3, lo3, hi3, fr3⟩ | ⟨rfl, J3⟩
      · obtain ⟨w, hw1, hw2, rfl⟩ := i32_nI (lo := 1) (hi := 8) lo3 hi3 (by decide) (by decide)
        obtain ⟨d4, v4, a4, b4, r, e8, e9, e10, t4, F4, h⟩ := j_set (i := 5) (W' := 3181829) 0 64 tb_cache (by decide) rfl (by decide) J3
        have e10' : f_X9_readSetting b3 3181829 5 0 64 = some (r, b4) := e10
        rcases h with ⟨rfl, J4, lo4, hi4, fr4⟩ | ⟨rfl, J4⟩
        · obtain ⟨c, hc1, hc2', rfl⟩ := i32_nI (lo := 0) (hi := 64) lo4 hi4 (by decide) (by decide)
          have fb : ∀ k, k < 26 → b4.2.2.1 1 k = if k = 5 then nI c else if k = 4 then nI w else if k = 8 + 3 * 0 + 2 then nI vc else if k = 8 + 3 * 0 + 1 then nI vb else if k = 8 + 3 * 0 then nI va else if k = 0 then nI D else if k = 1 then nI S else if k = 2 then nI B else if k = 3 then nI Q else if k = 6 then 1 else if k = 7 then 20 else 0 := by
            intro k hk
            rw [fr4, fr3, fr2, F1.1, hf k hk]
          have g0 : (nI 0) = 0 := rfl
          have HP : ab_P (b4.2.2.1 1) (cs_i (cs_i (cs_i c2 0 4 (nI w)) 0 5 (nI c)) 0 7 1) := by
            refine ⟨?_, ?_, ?_, ?_, ?_, ?_, ?_, ?_, fun t ht => ?_⟩
            · rw [fb _ (by decide), ci_1, if_neg (by decide), ci_1, if_neg (by decide), ci_1, if_neg (by decide), c21]; exact h0
            · rw [fb _ (by decide), ci_1, if_neg (by decide), ci_1, if_neg (by decide), ci_1, if_neg (by decide), c21]; exact h1
            · rw [fb _ (by decide), ci_1, if_neg (by decide), ci_1, if_neg (by decide), ci_1, if_neg (by decide), c21]; exact h2
            · rw [fb _ (by decide), ci_1, if_neg (by decide), ci_1, if_neg (by decide), ci_1, if_neg (by decide), c21]; exact h3
            · rw [fb _ (by decide), ci_1, if_neg (by decide), ci_1, if_neg (by decide), ci_1, if_pos ⟨rfl, rfl⟩]; rfl
            · rw [fb _ (by decide), ci_1, if_neg (by decide), ci_1, if_pos ⟨rfl, rfl⟩]; rfl
            · rw [fb _ (by decide), ci_1, if_pos ⟨rfl, rfl⟩]; rfl
            · rw [fb _ (by decide), ci_1, if_neg (by decide), ci_1, if_neg (by decide), ci_1, if_neg (by decide), c21]; exact h6
            · rw [hc2]
              show (cs_a (cs_a (cs_a s3 1 (nI 0) (nI va)) 2 (nI 0) (nI vb)) 3 (nI 0) (nI vc)).2.1 1 t = _ ∧ (cs_a (cs_a (cs_a s3 1 (nI 0) (nI va)) 2 (nI 0) (nI vb)) 3 (nI 0) (nI vc)).2.1 2 t = _ ∧ (cs_a (cs_a (cs_a s3 1 (nI 0) (nI va)) 2 (nI 0) (nI vb)) 3 (nI 0) (nI vc)).2.1 3 t = _
              have hti : 0 < 2 ^ 31 := by decide
              rw [fb _ (by omega), fb _ (by omega), fb _ (by omega)]
              simp only [ca_2 hti, ha]
              by_cases z : t = 0
              · subst z
                refine ⟨?_, ?_, ?_⟩ <;> rfl
              · refine ⟨?_, ?_, ?_⟩
                · rw [if_neg (by omega), if_neg (by omega), if_neg (by omega), if_neg (by omega), if_neg (by omega), if_neg (by omega), if_neg (by omega), if_neg (by omega), if_neg (by omega), if_neg (by omega), if_neg (by omega), if_neg (by omega), if_neg (by omega), if_neg (by omega)]
                · rw [if_neg (by omega), if_neg (by omega), if_neg (by omega), if_neg (by omega), if_neg (by omega), if_neg (by omega), if_neg (by omega), if_neg (by omega), if_neg (by omega), if_neg (by omega), if_neg (by omega), if_neg (by omega), if_neg (by omega), if_neg (by omega)]
                · rw [if_neg (by omega), if_neg (by omega), if_neg (by omega), if_neg (by omega), if_neg (by omega), if_neg (by omega), if_neg (by omega), if_neg (by omega), if_neg (by omega), if_neg (by omega), if_neg (by omega), if_neg (by omega), if_neg (by omega), if_neg (by omega)]
          have HB : ab_pl (b4.2.2.1 1) D S 1 := by
            refine ⟨fb 0 (by decide), fb 1 (by decide), fb 6 (by decide), hD.1, hD.2, hS.1, hS.2, by omega, by omega, ⟨B, hB.1, hB.2, fb 2 (by decide)⟩, ⟨Q, hQ, fb 3 (by decide)⟩, ⟨w, hw1, hw2, fb 4 (by decide)⟩, ⟨c, hc2', fb 5 (by decide)⟩, ⟨20, by omega, fb 7 (by decide)⟩, fun t ht => ?_⟩
            have z : t = 0 := by omega
            subst z
            exact ⟨⟨va, hva, fb 8 (by decide)⟩, ⟨vb, hvb, hvb', fb 9 (by decide)⟩, ⟨vc, hvc, fb 10 (by decide)⟩⟩
          obtain ⟨s0', s3', s', r, i1, i2, i3, i4, i5⟩ := j_c4 J4 HP HB
          refine ⟨s0', s3', s', r, ?_, ?_, ((t1.trans t2).trans (t3.trans t4)).trans i3, (((rqF.of F1).trans F2).trans (F3.trans F4)).trans i4, i5⟩
          · simp only [e1, e3', e5, e6, e8, e9, i1]
          · unfold rd_l at i2
            simp only [e2, i32_10, if_false, e4', e7', e10']
            rw [← i2]
            cases hs : f_X9_readSemicolon b4 with
            | none => rfl
            | some y =>
              obtain ⟨y1, y2⟩ := y
              by_cases z : y1 = 0
              · simp only [if_pos z, if_true]
              · simp only [if_neg z, i32_10, if_false]
        · obtain ⟨s3', e⟩ := J4.er.c4 (cs_i c2 0 4 (nI w)) v4
          refine ⟨a4, s3', b4, 0, ?_, ?_, (t1.trans t2).trans (t3.trans t4), ((rqF.of F1).trans F2).trans (F3.trans F4), .inr ⟨rfl, J4⟩⟩
          · simp only [e1, e3', e5, e6, e8, e9, e]
          · simp only [e2, i32_10, if_false, e4', e7', e10', if_true]
      · obtain ⟨s3', e⟩ := J3.er.c4 (cs_i c2 0 4 v3) 0
        refine ⟨a3, s3', b3, 0, ?_, ?_, (t1.trans t2).trans t3, ((rqF.of F1).trans F2).trans F3, .inr ⟨rfl, J3⟩⟩
        · simp only [e1, e3', e5, e6, J3.er.word, J3.er.num, e]
        · simp only [e2, i32_10, if_false, e4', e7', if_true]
    · obtain ⟨s3', e⟩ := J2.er.c4 (cs_i c2 0 4 0) 0
      refine ⟨a2, s3', b2, 0, ?_, ?_, t1.trans t2, (rqF.of F1).trans F2, .inr ⟨rfl, J2⟩⟩
      · simp only [e1, e3', J2.er.word, J2.er.num, e]
      · simp only [e2, i32_10, if_false, e4', if_true]
  · obtain ⟨s3', e⟩ := J1.er.rc s3
    refine ⟨a1, s3', b1, 0, ?_, ?_, t1, rqF.of F1, .inr ⟨rfl, J1⟩⟩
    · unfold rd_c at e
      simp only [J1.er.word] at e
      simp only [e1, J1.er.word, e]
    · simp only [e2, if_true]
