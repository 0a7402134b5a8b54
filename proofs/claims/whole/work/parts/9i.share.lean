/-! A share, read by both programs. -/
theorem er.share {s0 : cs_S} {T : Nat} (h : er s0) (hT : T < 6) (s3 : cs_S) : ∃ s3', f_X2_readShare s0 s3 (nI T) = some (s0, s3') ∧ s3'.1 = s3.1 := by
  have ib : pm_inb (nI T) 6 = true := nb_nI hT (by decide)
  refine ⟨cs_a (cs_a (cs_a s3 1 (nI T) 0) 2 (nI T) 0) 3 (nI T) 0, ?_, rfl⟩
  unfold f_X2_readShare fc_X2_readShare_c1 fc_X2_readShare_c2
  simp only [h.num, h.num0, ib]
theorem j_share {x : Nat → Nat} {len T : Nat} {s0 : cs_S} {s : mo_S} (hT : T < 6) (s3 : cs_S) (J : jt x len s0 s) :
    ∃ s0' s3' s' r, f_X2_readShare s0 s3 (nI T) = some (s0', s3') ∧ f_X9_readShare s (nI T) = some (r, s') ∧ tf s0 s0' ∧ rqF s s' ∧ s3'.1 = s3.1 ∧
      ((r = 1 ∧ jt x len s0' s' ∧ ∃ a b c : Nat, a ≤ 1000 ∧ 1 ≤ b ∧ b ≤ 100 ∧ c ≤ 1000 ∧ s3' = cs_a (cs_a (cs_a s3 1 (nI T) (nI a)) 2 (nI T) (nI b)) 3 (nI T) (nI c) ∧ ∀ k, s'.2.2.1 1 k = if k = 8 + 3 * T + 2 then nI c else if k = 8 + 3 * T + 1 then nI b else if k = 8 + 3 * T then nI a else s.2.2.1 1 k) ∨
       (r = 0 ∧ je s0' s')) := by
  have ib : pm_inb (nI T) 6 = true := nb_nI hT (by decide)
  have i0 : ((8 + (3 * nI T)) + 0 : Int32) = nI (8 + 3 * T) := by
    show nI 8 + nI 3 * nI T + nI 0 = _
    rw [nI_mul, nI_add, nI_add, Nat.add_zero]
  have i1 : ((8 + (3 * nI T)) + 1 : Int32) = nI (8 + 3 * T + 1) := by
    show nI 8 + nI 3 * nI T + nI 1 = _
    rw [nI_mul, nI_add, nI_add]
  have i2 : ((8 + (3 * nI T)) + 2 : Int32) = nI (8 + 3 * T + 2) := by
    show nI 8 + nI 3 * nI T + nI 2 = _
    rw [nI_mul, nI_add, nI_add]
  have ib0 : pm_inb (nI (8 + 3 * T)) 26 = true := nb_nI (by omega) (by decide)
  unfold f_X2_readShare fc_X2_readShare_c1 fc_X2_readShare_c2 f_X9_readShare
  simp only [i0, i1, i2, ib, ib0, nI_clamp (show T < 2 ^ 31 by omega), nI_clamp (show 8 + 3 * T < 2 ^ 31 by omega)]
  obtain ⟨v1, a1, b1, r1, e1, e2, f1, f2, h⟩ := j_to 0 1000 (show 8 + 3 * T < 26 by omega) J
  rcases h with ⟨rfl, J1, lo1, hi1, _, fr1⟩ | ⟨rfl, J1⟩
  · obtain ⟨a, _, ha, rfl⟩ := i32_nI (lo := 0) (hi := 1000) lo1 hi1 (by decide) (by decide)
    obtain ⟨v2, a2, b2, r2, e3, e4, f3, f4, h⟩ := j_to 1 100 (show 8 + 3 * T + 1 < 26 by omega) J1
    rcases h with ⟨rfl, J2, lo2, hi2, _, fr2⟩ | ⟨rfl, J2⟩
    · obtain ⟨b, hb1, hb, rfl⟩ := i32_nI (lo := 1) (hi := 100) lo2 hi2 (by decide) (by decide)
      obtain ⟨v3, a3, b3, r3, e5, e6, f5, f6, h⟩ := j_lim (q := a) ha (show 8 + 3 * T + 2 < 26 by omega) J2
      have rs : ∀ v, (cs_a (cs_a s3 1 (nI T) (nI a)) 2 (nI T) v).2.1 1 T = nI a := fun v => by rw [ca_2 (by omega), if_neg (by omega), ca_2 (by omega), if_pos ⟨rfl, rfl⟩]
      rcases h with ⟨rfl, J3, lm, vv, fr3⟩ | ⟨rfl, lm, er3, er6, er7, fr3⟩ | ⟨rfl, J3⟩
      · have fra : b3.2.2.1 1 (8 + 3 * T) = nI a := by rw [fr3, if_neg (by omega), fr2, if_neg (by omega), fr1, if_pos rfl]
        obtain ⟨c, hc, rfl⟩ : ∃ c, c ≤ 1000 ∧ v3 = nI c := by
          rcases vv with rfl | ⟨u1, u2⟩
          · exact ⟨0, by omega, rfl⟩
          · obtain ⟨c, _, hc, e⟩ := i32_nI (lo := a) (hi := 1000) u1 u2 (by omega) (by decide)
            exact ⟨c, hc, e⟩
        refine ⟨a3, cs_a (cs_a (cs_a s3 1 (nI T) (nI a)) 2 (nI T) (nI b)) 3 (nI T) (nI c), b3, 1, ?_, ?_, (f1.trans f3).trans f5, (f2.trans f4).trans f6, ?_, .inl ⟨rfl, J3, a, b, c, ha, hb1, hb, hc, rfl, fun k => ?_⟩⟩
        · simp only [e1, e3, rs, e5]
        · simp only [e2, e4, e6, i32_10, if_false, fra, lm]
        · rfl
        · rw [fr3, fr2, fr1]
      · have fra : b3.2.2.1 1 (8 + 3 * T) = nI a := by rw [fr3 _ (by omega), fr2, if_neg (by omega), fr1, if_pos rfl]
        refine ⟨a3, cs_a (cs_a (cs_a s3 1 (nI T) (nI a)) 2 (nI T) (nI b)) 3 (nI T) v3, mo_i (mo_i b3 14 2) 15 (b3.1 12), 0, ?_, ?_, (f1.trans f3).trans f5, ((f2.trans f4).trans f6).trans (rqF.of ((rq.i b3 _ (by decide)).trans (rq.i _ _ (by decide)))), ?_, .inr ⟨rfl, er3, by rw [er6]; decide, ?_, ?_⟩⟩
        · simp only [e1, e3, rs, e5]
        · simp only [e2, e4, e6, i32_10, if_false, fra, lm, if_true, fails_v]
        · rfl
        · rw [er6, mo_i_1, if_neg (by decide), mo_i_1, if_pos rfl]
        · rw [er7, mo_i_1, if_pos rfl]
      · refine ⟨a3, cs_a (cs_a (cs_a s3 1 (nI T) (nI a)) 2 (nI T) (nI b)) 3 (nI T) v3, b3, 0, ?_, ?_, (f1.trans f3).trans f5, (f2.trans f4).trans f6, ?_, .inr ⟨rfl, J3⟩⟩
        · simp only [e1, e3, rs, e5]
        · simp only [e2, e4, e6, i32_10, if_false, if_true]
        · rfl
    · refine ⟨a2, cs_a (cs_a (cs_a s3 1 (nI T) (nI a)) 2 (nI T) v2) 3 (nI T) 0, b2, 0, ?_, ?_, f1.trans f3, f2.trans f4, ?_, .inr ⟨rfl, J2⟩⟩
      · simp only [e1, e3, J2.er.num0]
      · simp only [e2, e4, i32_10, if_false, if_true]
      · rfl
  · refine ⟨a1, cs_a (cs_a (cs_a s3 1 (nI T) v1) 2 (nI T) 0) 3 (nI T) 0, b1, 0, ?_, ?_, f1, f2, ?_, .inr ⟨rfl, J1⟩⟩
    · simp only [e1, J1.er.num, J1.er.num0]
    · simp only [e2, if_true]
    · rfl
