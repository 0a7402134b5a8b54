/-! An array's text from its first word on; a text begins. -/
def rd_a (s : mo_S) : Option (Int32 × mo_S) := match f_X9_readDisks s with
  | none => none
  | some (r, s1) => if r = 0 then some (0, s1) else rd_r s1
theorem rd_26 {s s' : mo_S} {r : Int32} (h : rd_a (mo_a (mo_a s 1 7 20) 1 6 1) = some (r, s')) : lb_X9_readArray_2 (s, 26) = some (.inr (r, s')) := by
  have b7 : pm_inb 7 26 = true := by decide
  have b6 : pm_inb 6 26 = true := by decide
  unfold lb_X9_readArray_2
  simp only [b7, b6]
  rw [if_pos (by decide)]
  unfold rd_a at h
  cases h1 : f_X9_readDisks (mo_a (mo_a s 1 7 20) 1 6 1) with
  | none => rw [h1] at h; cases h
  | some y =>
    obtain ⟨y1, y2⟩ := y
    rw [h1] at h
    simp only at h ⊢
    by_cases z : y1 = 0
    · rw [if_pos z] at h ⊢
      rw [Option.some.inj h]
    · rw [if_neg z] at h ⊢
      unfold rd_r at h
      cases h2 : f_X9_readRebuild y2 with
      | none => rw [h2] at h; cases h
      | some w =>
        obtain ⟨w1, w2⟩ := w
        rw [h2] at h
        simp only at h ⊢
        by_cases z' : w1 = 0
        · rw [if_pos z'] at h ⊢
          rw [Option.some.inj h]
        · rw [if_neg z'] at h ⊢
          rw [h]
theorem j_dsk {x : Nat → Nat} {len : Nat} {s0 : cs_S} {s : mo_S} (J : jt x len s0 s) (hf : ∀ k, k < 26 → s.2.2.1 1 k = if k = 6 then 1 else if k = 7 then 20 else 0) :
    ∃ s0' s3' s' r, f_X2_readFrom s0 cs_p0 = some (s0', s3') ∧ rd_a s = some (r, s') ∧ tf s0 s0' ∧ rqF s s' ∧ jG s0' s3' s' r := by
  unfold f_X2_readFrom fc_X2_readFrom_c1 fc_X2_readFrom_c2 rd_a f_X9_readDisks
  simp only [c3_eq]
  obtain ⟨d1, v1, a1, b1, r, e1, e2, e3, t1, F1, h⟩ := j_set (i := 0) (W' := 4509043) 3 6 tb_disks (by decide) rfl (by decide) J
  have e3' : f_X9_readSetting s 4509043 0 3 6 = some (r, b1) := e3
  rcases h with ⟨rfl, J1, lo1, hi1, fr1⟩ | ⟨rfl, J1⟩
  · obtain ⟨D, hD1, hD2, rfl⟩ := i32_nI (lo := 3) (hi := 6) lo1 hi1 (by decide) (by decide)
    obtain ⟨d2, v2, a2, b2, r, e4, e5, e6, t2, F2, h⟩ := j_set (i := 1) (W' := 21091369139) 1 64 tb_stripes (by decide) rfl (by decide) J1
    have e6' : f_X9_readSetting b1 21091369139 1 1 64 = some (r, b2) := e6
    rcases h with ⟨rfl, J2, lo2, hi2, fr2⟩ | ⟨rfl, J2⟩
    · obtain ⟨S, hS1, hS2, rfl⟩ := i32_nI (lo := 1) (hi := 64) lo2 hi2 (by decide) (by decide)
      obtain ⟨d3, v3, a3, b3, r, e7, e8, e9, t3, F3, h⟩ := j_set (i := 2) (W' := 67173) 1 50 tb_base (by decide) rfl (by decide) J2
      have e9' : f_X9_readSetting b2 67173 2 1 50 = some (r, b3) := e9
      rcases h with ⟨rfl, J3, lo3, hi3, fr3⟩ | ⟨rfl, J3⟩
      · obtain ⟨B, hB1, hB2, rfl⟩ := i32_nI (lo := 1) (hi := 50) lo3 hi3 (by decide) (by decide)
        obtain ⟨d4, v4, a4, b4, r, e10, e11, e12, t4, F4, h⟩ := j_set (i := 3) (W' := 627883) 0 99 tb_seek (by decide) rfl (by decide) J3
        have e12' : f_X9_readSetting b3 627883 3 0 99 = some (r, b4) := e12
        rcases h with ⟨rfl, J4, lo4, hi4, fr4⟩ | ⟨rfl, J4⟩
        · obtain ⟨Q, _, hQ, rfl⟩ := i32_nI (lo := 0) (hi := 99) lo4 hi4 (by decide) (by decide)
          obtain ⟨a5, b5, r, e13, e14, t5, F5, h⟩ := j_semi J4
          rcases h with ⟨rfl, J5⟩ | ⟨rfl, J5⟩
          · have HF : ∀ k, k < 26 → b5.2.2.1 1 k = if k = 0 then nI D else if k = 1 then nI S else if k = 2 then nI B else if k = 3 then nI Q else if k = 6 then 1 else if k = 7 then 20 else 0 := by
              intro k hk
              rw [F5.1, fr4, fr3, fr2, fr1, hf k hk]
              by_cases z0 : k = 0
              · subst z0; rfl
              · by_cases z1 : k = 1
                · subst z1; rfl
                · by_cases z2 : k = 2
                  · subst z2; rfl
                  · rw [if_neg z0, if_neg z1, if_neg z2, if_neg z0, if_neg z1, if_neg z2]
            obtain ⟨s0', s3', s', r, i1, i2, i3, i4, i5⟩ := j_reb (s3 := cs_i (cs_i (cs_i (cs_i cs_p0 0 0 (nI D)) 0 1 (nI S)) 0 2 (nI B)) 0 3 (nI Q)) J5 ⟨hD1, hD2⟩ ⟨hS1, hS2⟩ ⟨hB1, hB2⟩ hQ HF rfl rfl rfl rfl rfl (fun _ _ => rfl)
            refine ⟨s0', s3', s', r, ?_, ?_, (((t1.trans t2).trans (t3.trans t4)).trans t5).trans i3, (((F1.trans F2).trans (F3.trans F4)).trans (rqF.of F5)).trans i4, i5⟩
            · simp only [e1, e2, e4, e5, e7, e8, e10, e11, e13, i1]
            · simp only [e3', i32_10, if_false, e6', e9', e12', e14, i2]
          · obtain ⟨s3', e⟩ := J5.er.rc (cs_i (cs_i (cs_i (cs_i cs_p0 0 0 (nI D)) 0 1 (nI S)) 0 2 (nI B)) 0 3 (nI Q))
            refine ⟨a5, s3', b5, 0, ?_, ?_, ((t1.trans t2).trans (t3.trans t4)).trans t5, ((F1.trans F2).trans (F3.trans F4)).trans (rqF.of F5), .inr ⟨rfl, J5⟩⟩
            · simp only [e1, e2, e4, e5, e7, e8, e10, e11, e13, e]
            · simp only [e3', i32_10, if_false, e6', e9', e12', e14, if_true]
        · obtain ⟨s3', e⟩ := J4.er.rc (cs_i (cs_i (cs_i (cs_i cs_p0 0 0 (nI D)) 0 1 (nI S)) 0 2 (nI B)) 0 3 v4)
          refine ⟨a4, s3', b4, 0, ?_, ?_, (t1.trans t2).trans (t3.trans t4), (F1.trans F2).trans (F3.trans F4), .inr ⟨rfl, J4⟩⟩
          · simp only [e1, e2, e4, e5, e7, e8, e10, e11, J4.er.sign, e]
          · simp only [e3', i32_10, if_false, e6', e9', e12', if_true]
      · obtain ⟨s3', e⟩ := J3.er.rc (cs_i (cs_i (cs_i (cs_i cs_p0 0 0 (nI D)) 0 1 (nI S)) 0 2 v3) 0 3 0)
        refine ⟨a3, s3', b3, 0, ?_, ?_, (t1.trans t2).trans t3, (F1.trans F2).trans F3, .inr ⟨rfl, J3⟩⟩
        · simp only [e1, e2, e4, e5, e7, e8, J3.er.word, J3.er.num, J3.er.sign, e]
        · simp only [e3', i32_10, if_false, e6', e9', if_true]
    · obtain ⟨s3', e⟩ := J2.er.rc (cs_i (cs_i (cs_i (cs_i cs_p0 0 0 (nI D)) 0 1 v2) 0 2 0) 0 3 0)
      refine ⟨a2, s3', b2, 0, ?_, ?_, t1.trans t2, F1.trans F2, .inr ⟨rfl, J2⟩⟩
      · simp only [e1, e2, e4, e5, J2.er.word, J2.er.num, J2.er.sign, e]
      · simp only [e3', i32_10, if_false, e6', if_true]
  · obtain ⟨s3', e⟩ := J1.er.rc (cs_i (cs_i (cs_i (cs_i cs_p0 0 0 v1) 0 1 0) 0 2 0) 0 3 0)
    refine ⟨a1, s3', b1, 0, ?_, ?_, t1, F1, .inr ⟨rfl, J1⟩⟩
    · simp only [e1, e2, J1.er.word, J1.er.num, J1.er.sign, e]
    · simp only [e3', if_true]
/-- an array's text -/
theorem j_arr {x : Nat → Nat} {len : Nat} {s0 : cs_S} {s : mo_S} (J : jt x len s0 s) :
    ∃ s0' s3' s' r, f_X2_readFrom s0 cs_p0 = some (s0', s3') ∧ f_X9_readArray s = some (r, s') ∧ tf s0 s0' ∧ rqF s s' ∧ jG s0' s3' s' r := by
  obtain ⟨⟨r, s'⟩, l1, s0', s3', l2, l3, l4, l5⟩ : ∃ e : Int32 × mo_S, pm_loop pm_fu lb_X9_readArray_2 (s, 0) = some e ∧ ∃ s0' s3', f_X2_readFrom s0 cs_p0 = some (s0', s3') ∧ tf s0 s0' ∧ rqF s e.2 ∧ jG s0' s3' e.2 e.1 := by
    refine lp_for 26 (fun i y => y.2 = nI i ∧ jt x len s0 y.1 ∧ rqF s y.1 ∧ ∀ k, k < i → y.1.2.2.1 1 k = 0) (by decide) ?_ ?_ ⟨rfl, J, rqF.rfl' s, fun k hk => absurd hk (by omega)⟩
    · rintro i ⟨y, l⟩ hi ⟨y1, y2, y3, y4⟩
      have y1' : l = nI i := y1
      subst y1'
      refine ⟨(mo_a y 1 (nI i) 0, nI i + 1), ?_, nI_1 i, y2.a (by decide), y3.trans (rqF.a _ _ _), fun k hk => ?_⟩
      · unfold lb_X9_readArray_2
        simp only [nb_nI hi (by decide)]
        rw [if_neg (show ¬ 26 ≤ nI i from fun h => absurd ((nI_leI (a := 26) (by omega) (by omega)).mp h) (by omega))]
      · show (mo_a y 1 (nI i) 0).2.2.1 1 k = 0
        rw [mo_a_3, nI_clamp (by omega)]
        by_cases z : k = i
        · rw [if_pos ⟨rfl, z⟩]
        · rw [if_neg (fun h => z h.2)]
          exact y4 k (by omega)
    · rintro ⟨y, l⟩ ⟨y1, y2, y3, y4⟩
      have y1' : l = 26 := y1
      subst y1'
      obtain ⟨s0', s3', s', r, i1, i2, i3, i4, i5⟩ := j_dsk (s := mo_a (mo_a y 1 7 20) 1 6 1) ((jt.a (by decide) (jt.a (by decide) y2))) (by
        intro k hk
        have c6 : (Int32.toNatClampNeg 6) = 6 := by decide
        have c7 : (Int32.toNatClampNeg 7) = 7 := by decide
        rw [mo_a_3, c6, mo_a_3, c7]
        by_cases z : k = 6
        · rw [if_pos ⟨rfl, z⟩, if_pos z]
        · rw [if_neg (fun h => z h.2), if_neg z]
          by_cases z' : k = 7
          · rw [if_pos ⟨rfl, z'⟩, if_pos z']
          · rw [if_neg (fun h => z' h.2), if_neg z']
            exact y4 k hk)
      exact ⟨_, rd_26 i2, s0', s3', i1, i3, (y3.trans ((rqF.a _ _ _).trans (rqF.a _ _ _))).trans i4, i5⟩
  exact ⟨s0', s3', s', r, l2, l1, l3, l4, l5⟩
/-- a text begins -/
theorem j_beg {s0 : cs_S} {s : mo_S} {m k : Nat} (hm : m ≤ 800) (hk : k ≤ m) (h1 : s0.1 1 1 = nI m) (hb : ∀ k, k < m → ∃ x : Nat, x < 256 ∧ s.2.2.1 7 k = nI x ∧ s0.2.1 2 k = (nI x).toInt8.toInt32) :
    ∃ x s0' s', f_X6_begin s0 (nI k) = some s0' ∧ f_X9_startText s (nI k) = some s' ∧ jt x k s0' s' ∧ s'.2 = s.2 ∧ (∀ j, j ∉ [9, 10, 11, 14, 15] → s'.1 j = s.1 j) ∧ s0'.2 = s0.2 := by
  have B : ∀ z : cs_S, z.2 = s0.2 → z.1 1 2 = nI k → tk_B (fun i => (s.2.2.1 7 i).toNatClampNeg) k z := by
    intro z z1 z2
    refine ⟨by omega, z2, fun i hi => ?_⟩
    obtain ⟨v, v1, v2, v3⟩ := hb i (by omega)
    rw [z1]
    simp only [v2, nI_clamp (show v < 2 ^ 31 by omega)]
    exact ⟨v1, v3⟩
  have mi : (if s0.1 1 1 < nI k then s0.1 1 1 else nI k) = nI k := by
    rw [h1, if_neg (fun h => absurd ((nI_ltI (by omega) (by omega)).mp h) (by omega))]
  have key : ∀ z : cs_S, z = cs_i (cs_i (cs_i (cs_i (cs_i s0 1 2 (nI k)) 1 3 0) 1 5 0) 1 6 0) 1 7 (-1) → z.2 = s0.2 ∧ z.1 1 2 = nI k ∧ z.1 1 3 = 0 ∧ z.1 1 5 = nI 0 ∧ z.1 1 6 = 0 ∧ z.1 1 7 = -1 := by
    rintro z rfl
    exact ⟨rfl, rfl, rfl, rfl, rfl, rfl⟩
  obtain ⟨z, hz⟩ : ∃ z, z = cs_i (cs_i (cs_i (cs_i (cs_i s0 1 2 (nI k)) 1 3 0) 1 5 0) 1 6 0) 1 7 (-1) := ⟨_, rfl⟩
  obtain ⟨z1, z2, z3, z5, z6, z7⟩ := key z hz
  obtain ⟨s0', e1, t', u', c', T', g3, g4, g5, gF⟩ := tk_step (B z z1 z2) z5 (by omega)
  rw [if_neg (by rw [z3]; decide)] at T'
  refine ⟨_, s0', mo_i (mo_i (mo_i (mo_i (mo_i s 10 (nI k)) 9 0) 11 (-1)) 14 0) 15 (-1), ?_, rfl, ⟨0, t', u', c', ⟨(B z z1 z2).F gF, g3, g4, g5⟩, ⟨by omega, rfl, fun i hi => ?_⟩, rfl, T', ?_, rfl, ?_, rfl⟩, rfl, fun j hj => ?_, ?_⟩
  · unfold f_X6_begin fc_X6_begin_c1 fc_X6_begin_c2 fc_X6_begin_c3 fc_X6_begin_c4
    rw [mi, ← hz, e1]
  · obtain ⟨v, v1, v2, v3⟩ := hb i (by omega)
    show (s.2.2.1 7 i).toNatClampNeg < 256 ∧ s.2.2.1 7 i = nI (s.2.2.1 7 i).toNatClampNeg
    rw [v2, nI_clamp (by omega)]
    exact ⟨v1, rfl⟩
  · rw [gF.2 1 6 (by omega)]; exact z6
  · rw [gF.2 1 7 (by omega)]; exact z7
  · simp only [List.mem_cons, List.not_mem_nil, or_false, not_or] at hj
    simp only [mo_i_1]
    rw [if_neg hj.2.2.2.2, if_neg hj.2.2.2.1, if_neg hj.2.2.1, if_neg hj.1, if_neg hj.2.1]
  · rw [gF.1]; exact z1
