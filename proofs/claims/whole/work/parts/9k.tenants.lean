/-! The tenants of an array's text, and the whole of it. -/
theorem tn_x {s0 : cs_S} (h : f_X6_sees s0 9 = some 0) (s3 : cs_S) (fu : Nat) : pm_loop (fu + 1) lb_X2_readTenants_5 (s0, s3) = some (s0, s3) := by
  refine lp_inr ?_
  unfold lb_X2_readTenants_5
  simp only [h, if_true, ite_self]
/-- the program's loop and what comes behind it -/
def tn_l (fu : Nat) (s0 s3 : cs_S) : Option (cs_S × cs_S) := match pm_loop fu lb_X2_readTenants_5 (s0, s3) with | none => none | some (b, c) => tn_t b c
theorem tn_l_x {s0 : cs_S} (h : f_X6_sees s0 9 = some 0) (s3 : cs_S) (fu : Nat) : tn_l (fu + 1) s0 s3 = tn_t s0 s3 := by
  unfold tn_l
  rw [tn_x h]
theorem er.tl {s0 : cs_S} (h : er s0) (s3 : cs_S) (fu : Nat) : tn_l (fu + 1) s0 s3 = some (s0, s3) := by
  rw [tn_l_x (h.sees 9), h.tail]
theorem tn_l_i {s0 s3 a b : cs_S} (h : lb_X2_readTenants_5 (s0, s3) = some (.inl (a, b))) (fu : Nat) : tn_l (fu + 1) s0 s3 = tn_l fu a b := by
  unfold tn_l
  rw [lp_inl h]
/-- a tenant of the program -/
theorem tn_c {s0 s3 a b b' c : cs_S} {T : Nat} (hT : T < 6) (h7 : s3.1 0 7 = nI T) (h : f_X6_sees s0 9 = some 1) (h1 : f_X6_passWord s0 9 = some a) (h2 : f_X2_readShare a s3 (nI T) = some (b, b')) (h3 : f_X6_passSign b = some c) : lb_X2_readTenants_5 (s0, s3) = some (.inl (c, cs_i b' 0 7 (b'.1 0 7 + 1))) := by
  unfold lb_X2_readTenants_5
  simp only [h7, h, h1, h2, h3, i32_10, if_false]
  rw [if_neg (show ¬ 6 ≤ nI T from fun h => absurd ((nI_leI (a := 6) (by omega) (by omega)).mp h) (by omega))]
theorem j_ten {x : Nat → Nat} {len D S : Nat} : ∀ k T fc fr (s0 s3 : cs_S) (s : mo_S), T + k = 7 → k < fc → k < fr → jt x len s0 s → ab_P (s.2.2.1 1) s3 → ab_pl (s.2.2.1 1) D S T →
    ∃ s0' s3' s' r, tn_l (fc + 1) s0 s3 = some (s0', s3') ∧ pm_loop (fr + 1) lb_X9_readArray_56 (s, 1) = some (r, s') ∧ tf s0 s0' ∧ rqF s s' ∧ jG s0' s3' s' r
  | 0, T, fc, fr, s0, s3, s, hk, _, _, J, hP, hp => absurd hp.2.2.2.2.2.2.2.2.1 (by omega)
  | k + 1, T, fc, fr, s0, s3, s, hk, hc, hr, J, hP, hp => by
    have hT6 : T ≤ 6 := hp.2.2.2.2.2.2.2.2.1
    have p6 : s.2.2.1 1 6 = nI T := hp.2.2.1
    have h7 : s3.1 0 7 = nI T := hP.2.2.2.2.2.2.1.trans p6
    obtain ⟨s1, b, e1, J1, F1, h12, hb, _⟩ := j_peek J
    have fr1 : s1.2.2.1 = s.2.2.1 := by rw [F1.1]
    by_cases hb0 : b = -1
    · have k0 := hb.mp hb0
      have ns : ∀ w, f_X6_sees s0 w = some 0 := fun w => by
        unfold f_X6_sees
        rw [if_neg (by rw [k0]; decide)]
      refine ⟨s0, s3, s1, 1, ?_, lp_inr ?_, tf.rfl' s0, rqF.of (F1.mono (by decide)), .inl ⟨rfl, J1.z, D, S, T, by rw [fr1]; exact hP, by rw [fr1]; exact hp⟩⟩
      · rw [tn_l_x (ns 9)]
        unfold tn_t f_X6_passEnd
        simp only [ns, if_true, k0]
      · unfold lb_X9_readArray_56
        simp only [i32_10, if_false, e1, if_pos hb0]
    · obtain ⟨s2, r2, e2, F2, h⟩ := j_sees J1
      have fr2 : s2.2.2.1 = s.2.2.1 := by rw [F2.1, F1.1]
      have F12 : rq rqA s s2 := (F1.mono (by decide)).trans F2
      rcases h with ⟨rfl, J2, k3, q12, q9, hw⟩ | ⟨rfl, k3, ns, q14, q15⟩
      · have hs10 : f_X6_sees s0 10 = some 1 ∨ f_X6_sees s0 10 = some 0 := by
          rcases hw 10 _ tb_slack (by decide) with h | h
          · exact .inl h.1
          · exact .inr h.1
        rcases hw 9 _ tb_tenant (by decide) with ⟨hs, hg⟩ | ⟨hs, hg⟩
        · have hg' : lg_cmp s2.2.1 676791764 = 0 := hg
          have q6 : s2.2.2.1 1 6 = nI T := by rw [fr2]; exact p6
          have c6 : (Int32.toNatClampNeg 6) = 6 := by decide
          have b6 : pm_inb 6 26 = true := by decide
          by_cases hT : T = 6
          · obtain ⟨s0', r1, r3, r6, r7, rF⟩ := rep_0 (a := 3) J.z.1
            have ee : er s0' := ⟨r3, by rw [r6]; decide⟩
            refine ⟨s0', s3, mo_i (mo_i s2 14 3) 15 (s2.1 12), 0, ?_, lp_inr ?_, rF, (rqF.of F12).trans (rqF.of ((rq.i s2 _ (by decide)).trans (rq.i _ _ (by decide)))), .inr ⟨rfl, r3, ee.2, ?_, ?_⟩⟩
            · unfold tn_l
              rw [lp_inr (e := (s0', s3))]
              · exact ee.tail s3
              · unfold lb_X2_readTenants_5
                simp only [h7, hs, r1, i32_10, if_false]
                rw [if_pos (show (6 : Int32) ≤ nI T by rw [hT]; decide)]
            · unfold lb_X9_readArray_56 f_X9_readTenant
              simp only [i32_10, if_false, e1, if_neg hb0, e2, if_pos hg', b6, c6, q6, hT]
              rfl
            · rw [r6, mo_i_1, if_neg (by decide), mo_i_1, if_pos rfl]
            · rw [r7, mo_i_1, if_pos rfl]; exact q12.symm
          · obtain ⟨a, sa, g1, g2, Ja, ta, Fa⟩ := j_pass J2 k3 q9 hs
            have fra : sa.2.2.1 = s.2.2.1 := by rw [Fa.1]; exact fr2
            obtain ⟨b0, b3, sb, rb, g3, g4, tb, Fb, b31, h⟩ := j_share (T := T) (by omega) s3 Ja
            have n6 : ¬ nI T = 6 := fun h => hT ((nI_eq (b := 6) (by omega) (by omega)).mp h)
            have q6a : sa.2.2.1 1 6 = nI T := by rw [fra]; exact p6
            rcases h with ⟨rfl, Jb, va, vb, vc, ha, hb1, hb2, hvc, e3, frb⟩ | ⟨rfl, Jb⟩
            · have q6b : sb.2.2.1 1 6 = nI T := by rw [frb, if_neg (by omega), if_neg (by omega), if_neg (by omega)]; exact q6a
              obtain ⟨c0, sc, rc, g5, g6, tc, Fc, h⟩ := j_semi (Jb.a (k := 1) (i := 6) (v := nI (T + 1)) (by decide))
              have FF : rqF s sc := (((rqF.of F12).trans (rqF.of Fa)).trans Fb).trans ((rqF.a sb 6 (nI (T + 1))).trans (rqF.of Fc))
              have cl := tn_c (by omega) h7 hs g1 g3 g5
              rcases h with ⟨rfl, Jc⟩ | ⟨rfl, Jc⟩
              · have fc1 : ∀ k, sc.2.2.1 1 k = if k = 6 then nI (T + 1) else if k = 8 + 3 * T + 2 then nI vc else if k = 8 + 3 * T + 1 then nI vb else if k = 8 + 3 * T then nI va else s.2.2.1 1 k := by
                  intro k
                  rw [Fc.1, mo_a_3, c6, frb, fra]
                  by_cases z : k = 6
                  · rw [if_pos ⟨rfl, z⟩, if_pos z]
                  · rw [if_neg (fun h => z h.2), if_neg z]
                have b7 : b3.1 0 7 + 1 = nI (T + 1) := by rw [b31, h7, nI_1]
                have HP : ab_P (sc.2.2.1 1) (cs_i b3 0 7 (b3.1 0 7 + 1)) := by
                  obtain ⟨p0, p1, p2, p3, p4, p5, p7, p6', pt⟩ := hP
                  rw [b7, e3]
                  refine ⟨?_, ?_, ?_, ?_, ?_, ?_, ?_, ?_, fun t ht => ?_⟩
                  · rw [fc1, if_neg (by omega), if_neg (by omega), if_neg (by omega), if_neg (by omega), ci_1, if_neg (by omega)]; exact p0
                  · rw [fc1, if_neg (by omega), if_neg (by omega), if_neg (by omega), if_neg (by omega), ci_1, if_neg (by omega)]; exact p1
                  · rw [fc1, if_neg (by omega), if_neg (by omega), if_neg (by omega), if_neg (by omega), ci_1, if_neg (by omega)]; exact p2
                  · rw [fc1, if_neg (by omega), if_neg (by omega), if_neg (by omega), if_neg (by omega), ci_1, if_neg (by omega)]; exact p3
                  · rw [fc1, if_neg (by omega), if_neg (by omega), if_neg (by omega), if_neg (by omega), ci_1, if_neg (by omega)]; exact p4
                  · rw [fc1, if_neg (by omega), if_neg (by omega), if_neg (by omega), if_neg (by omega), ci_1, if_neg (by omega)]; exact p5
                  · rw [fc1, if_pos rfl, ci_1, if_pos ⟨rfl, rfl⟩]
                  · rw [fc1, if_neg (by omega), if_neg (by omega), if_neg (by omega), if_neg (by omega), ci_1, if_neg (by omega)]; exact p6'
                  · have hti : T < 2 ^ 31 := by omega
                    show (cs_a (cs_a (cs_a s3 1 (nI T) (nI va)) 2 (nI T) (nI vb)) 3 (nI T) (nI vc)).2.1 1 t = _ ∧ (cs_a (cs_a (cs_a s3 1 (nI T) (nI va)) 2 (nI T) (nI vb)) 3 (nI T) (nI vc)).2.1 2 t = _ ∧ (cs_a (cs_a (cs_a s3 1 (nI T) (nI va)) 2 (nI T) (nI vb)) 3 (nI T) (nI vc)).2.1 3 t = _
                    have pt' := pt t ht
                    simp only [ca_2 hti, fc1]
                    by_cases z : t = T
                    · subst z
                      refine ⟨?_, ?_, ?_⟩
                      · rw [if_neg (by omega), if_neg (by omega), if_pos ⟨trivial, rfl⟩, if_neg (by omega), if_neg (by omega), if_neg (by omega), if_pos rfl]
                      · rw [if_neg (by omega), if_pos ⟨trivial, rfl⟩, if_neg (by omega), if_neg (by omega), if_pos rfl]
                      · rw [if_pos ⟨trivial, rfl⟩, if_neg (by omega), if_pos rfl]
                    · refine ⟨?_, ?_, ?_⟩
                      · rw [if_neg (by omega), if_neg (by omega), if_neg (by omega), if_neg (by omega), if_neg (by omega), if_neg (by omega), if_neg (by omega)]; exact pt'.1
                      · rw [if_neg (by omega), if_neg (by omega), if_neg (by omega), if_neg (by omega), if_neg (by omega), if_neg (by omega), if_neg (by omega)]; exact pt'.2.1
                      · rw [if_neg (by omega), if_neg (by omega), if_neg (by omega), if_neg (by omega), if_neg (by omega), if_neg (by omega), if_neg (by omega)]; exact pt'.2.2
                have HB : ab_pl (sc.2.2.1 1) D S (T + 1) := by
                  obtain ⟨p0, p1, p6', q1, q2, q3, q4, q5, q6', p2, p3, p4, p5, p7, pt⟩ := hp
                  refine ⟨?_, ?_, ?_, q1, q2, q3, q4, by omega, by omega, ?_, ?_, ?_, ?_, ?_, fun t ht => ?_⟩
                  · rw [fc1, if_neg (by omega), if_neg (by omega), if_neg (by omega), if_neg (by omega)]; exact p0
                  · rw [fc1, if_neg (by omega), if_neg (by omega), if_neg (by omega), if_neg (by omega)]; exact p1
                  · rw [fc1, if_pos rfl]
                  · rw [fc1, if_neg (by omega), if_neg (by omega), if_neg (by omega), if_neg (by omega)]; exact p2
                  · rw [fc1, if_neg (by omega), if_neg (by omega), if_neg (by omega), if_neg (by omega)]; exact p3
                  · rw [fc1, if_neg (by omega), if_neg (by omega), if_neg (by omega), if_neg (by omega)]; exact p4
                  · rw [fc1, if_neg (by omega), if_neg (by omega), if_neg (by omega), if_neg (by omega)]; exact p5
                  · rw [fc1, if_neg (by omega), if_neg (by omega), if_neg (by omega), if_neg (by omega)]; exact p7
                  · simp only [fc1]
                    by_cases z : t = T
                    · subst z
                      refine ⟨⟨va, ha, ?_⟩, ⟨vb, hb1, hb2, ?_⟩, vc, hvc, ?_⟩
                      · rw [if_neg (by omega), if_neg (by omega), if_neg (by omega), if_pos rfl]
                      · rw [if_neg (by omega), if_neg (by omega), if_pos rfl]
                      · rw [if_neg (by omega), if_pos rfl]
                    · have pt' := pt t (by omega)
                      refine ⟨?_, ?_, ?_⟩
                      · rw [if_neg (by omega), if_neg (by omega), if_neg (by omega), if_neg (by omega)]; exact pt'.1
                      · rw [if_neg (by omega), if_neg (by omega), if_neg (by omega), if_neg (by omega)]; exact pt'.2.1
                      · rw [if_neg (by omega), if_neg (by omega), if_neg (by omega), if_neg (by omega)]; exact pt'.2.2
                obtain ⟨s0', s3', s', r, i1, i2, i3, i4, i5⟩ := j_ten k (T + 1) (fc - 1) (fr - 1) c0 (cs_i b3 0 7 (b3.1 0 7 + 1)) sc (by omega) (by omega) (by omega) Jc HP HB
                rw [show fc - 1 + 1 = fc by omega] at i1
                rw [show fr - 1 + 1 = fr by omega] at i2
                refine ⟨s0', s3', s', r, ?_, ?_, ((ta.trans tb).trans tc).trans i3, FF.trans i4, i5⟩
                · rw [tn_l_i cl]; exact i1
                · rw [lp_inl (x' := (sc, 1))]
                  · exact i2
                  · unfold lb_X9_readArray_56 f_X9_readTenant
                    simp only [i32_10, if_false, e1, if_neg hb0, e2, if_pos hg', b6, c6, q6, if_neg n6, g2, q6a, g4, q6b, nI_1, g6]
                    rfl
              · refine ⟨c0, cs_i b3 0 7 (b3.1 0 7 + 1), sc, 0, ?_, lp_inr ?_, (ta.trans tb).trans tc, FF, .inr ⟨rfl, Jc⟩⟩
                · rw [tn_l_i cl, show fc = fc - 1 + 1 by omega]
                  exact Jc.er.tl _ _
                · unfold lb_X9_readArray_56 f_X9_readTenant
                  simp only [i32_10, if_false, e1, if_neg hb0, e2, if_pos hg', b6, c6, q6, if_neg n6, g2, q6a, g4, q6b, nI_1, g6]
                  rfl
            · have cl := tn_c (by omega) h7 hs g1 g3 Jb.er.sign
              refine ⟨b0, cs_i b3 0 7 (b3.1 0 7 + 1), sb, 0, ?_, lp_inr ?_, ta.trans tb, ((rqF.of F12).trans (rqF.of Fa)).trans Fb, .inr ⟨rfl, Jb⟩⟩
              · rw [tn_l_i cl, show fc = fc - 1 + 1 by omega]
                exact Jb.er.tl _ _
              · unfold lb_X9_readArray_56 f_X9_readTenant
                simp only [i32_10, if_false, e1, if_neg hb0, e2, if_pos hg', b6, c6, q6, if_neg n6, g2, q6a, g4, if_true]
        · have hg' : ¬ lg_cmp s2.2.1 676791764 = 0 := hg
          obtain ⟨s0', s3', s', r, i1, i2, i3, i4, i5⟩ := j_slack (s3 := s3) J2 k3 (by rw [fr2]; exact hP) (by rw [fr2]; exact hp) hs10
          refine ⟨s0', s3', s', r, ?_, ?_, i3, (rqF.of F12).trans i4, i5⟩
          · rw [tn_l_x hs]; exact i1
          · rw [lp_inl (x' := (s2, 0)), show fr = fr - 1 + 1 by omega]
            · exact lp_inr i2
            · unfold lb_X9_readArray_56
              simp only [i32_10, if_false, e1, if_neg hb0, e2, if_neg hg']
      · rcases j_end J.z.1 with ⟨k0, _⟩ | ⟨k0, s0', e, tF, r3, r6, r7⟩
        · exact absurd (hb.mpr k0) hb0
        · refine ⟨s0', s3, s2, 0, ?_, lp_inr ?_, tF, rqF.of F12, .inr ⟨rfl, r3, by rw [r6]; decide, by rw [r6, q14], by rw [r7, q15]⟩⟩
          · rw [tn_l_x (ns 9)]
            unfold tn_t
            simp only [ns, if_true, e]
          · unfold lb_X9_readArray_56
            simp only [i32_10, if_false, e1, if_neg hb0, e2, if_true]
