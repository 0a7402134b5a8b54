/-! The lines of a trace's text. -/
theorem tl_1.cg {D S T v j : Nat} {s8 s8' : cs_S} {a a' : Nat → Int32} (h8 : ∀ p, s8'.2.1 p j = s8.2.1 p j) (ha : ∀ k, 5 * j ≤ k → k < 5 * j + 5 → a' k = a k) (h : tl_1 D S T v j s8 a) : tl_1 D S T v j s8' a' := by
  unfold tl_1 at h ⊢
  rw [h8 1, h8 2, h8 3, h8 4, h8 5, ha (5 * j) (by omega) (by omega), ha (5 * j + 1) (by omega) (by omega), ha (5 * j + 2) (by omega) (by omega), ha (5 * j + 3) (by omega) (by omega), ha (5 * j + 4) (by omega) (by omega)]
  exact h
theorem tr_x {s0 a : cs_S} (h : f_X6_sees s0 13 = some 0) (he : f_X6_passEnd s0 = some a) (s4 s8 : cs_S) (l3 l4 : Int32) (fu : Nat) : pm_loop (fu + 1) (lb_X7_readFrom_10 s4) (s0, s8, l3, l4) = some (a, s8) := by
  refine lp_inr ?_
  unfold lb_X7_readFrom_10
  simp only [h, he, if_true, ite_self]
theorem er.tr {s0 : cs_S} (h : er s0) (s4 s8 : cs_S) (l3 l4 : Int32) (fu : Nat) : pm_loop (fu + 1) (lb_X7_readFrom_10 s4) (s0, s8, l3, l4) = some (s0, s8) := tr_x (h.sees 13) h.fin s4 s8 l3 l4 fu
/-- i lines were read by both -/
def tl_i (D S T n i w : Nat) (s8 : cs_S) (s : mo_S) : Prop := s8.1 0 0 = nI i ∧ s.1 20 = nI i ∧ ∃ tk : Nat → Nat, (∀ j j', j ≤ j' → j' < i → tk j ≤ tk j') ∧ ∀ j, j < i → n < tk j ∧ tk j ≤ w ∧ tl_1 D S T (tk j) j s8 (s.2.2.1 18)
theorem tr_all {x : Nat → Nat} {len D S T n : Nat} {p : Nat → Int32} {s4 : cs_S} (l3 : Int32) (hP : ab_P p s4) (hp : ab_pl p D S T) : ∀ k i w fc fr (s0 s8 : cs_S) (s : mo_S), i + k = 101 → k < fc → k < fr → i ≤ 100 → w < 200000 → n < w → jt x len s0 s → s.2.2.1 0 = p → s.2.2.1 3 0 = nI n → ((i = 0 ∧ w = n + 1) ∨ (0 < i ∧ s.2.2.1 18 (5 * i - 5) = nI w)) → tl_i D S T n i w s8 s →
    ∃ s0' s8' s' r, pm_loop (fc + 1) (lb_X7_readFrom_10 s4) (s0, s8, l3, nI w) = some (s0', s8') ∧ pm_loop (fr + 1) lb_X9_readTrace_5 s = some (r, s') ∧ tf s0 s0' ∧ rqL s s' ∧
      ((r = 1 ∧ (s0'.1 1 6 = 0 ∧ s'.1 14 = 0 ∧ s0'.1 1 7 = -1 ∧ s'.1 15 = -1) ∧ ∃ cnt w, cnt ≤ 100 ∧ tl_i D S T n cnt w s8' s') ∨ (r = 0 ∧ je s0' s'))
  | 0, i, w, fc, fr, s0, s8, s, hk, _, _, hi, _, _, _, _, _, _, _ => absurd hi (by omega)
  | k + 1, i, w, fc, fr, s0, s8, s, hk, hc, hr, hi, hw, hnw, J, hs, hn, hl, H => by
    obtain ⟨h8, h20, tk, mono, lines⟩ := H
    obtain ⟨s1, b, e1, J1, F1, h12, hb, _⟩ := j_peek J
    have F1' : rq rqA s s1 := F1.mono (by decide)
    by_cases hb0 : b = -1
    · have k0 := hb.mp hb0
      have ns : f_X6_sees s0 13 = some 0 := by
        unfold f_X6_sees
        rw [if_neg (by rw [k0]; decide)]
      have pe : f_X6_passEnd s0 = some s0 := by
        unfold f_X6_passEnd
        rw [if_pos k0]
      refine ⟨s0, s8, s1, 1, tr_x ns pe s4 s8 l3 (nI w) fc, lp_inr ?_, tf.rfl' s0, rqL.of F1', .inl ⟨rfl, J1.z, i, w, hi, h8, by rw [F1.2 20 (by decide)]; exact h20, tk, mono, by rw [F1.1]; exact lines⟩⟩
      unfold lb_X9_readTrace_5
      simp only [e1, if_pos hb0]
    · obtain ⟨s2, r2, e2, F2, h⟩ := j_sees J1
      have F12 : rq rqA s s2 := F1'.trans F2
      have k0 : s0.1 1 3 ≠ 0 := fun h => hb0 (hb.mpr h)
      rcases h with ⟨rfl, J2, k3, q12, q9, hw'⟩ | ⟨rfl, k3, ns, q14, q15⟩
      · rcases hw' 13 _ tb_at (by decide) with ⟨hs13, hg⟩ | ⟨hs13, hg⟩
        · have hg' : lg_cmp s2.2.1 52 = 0 := hg
          have f20 : s2.1 20 = nI i := by rw [F12.2 20 (by decide)]; exact h20
          by_cases hi1 : i = 100
          · obtain ⟨s0', r1, r3, r6, r7, rF⟩ := rep_0 (a := 3) J.z.1
            have ee : er s0' := ⟨r3, by rw [r6]; decide⟩
            refine ⟨s0', s8, mo_i (mo_i s2 14 3) 15 (s2.1 12), 0, lp_inr ?_, lp_inr ?_, rF, (rqL.of F12).trans (rqL.of ((rq.i s2 _ (by decide)).trans (rq.i _ _ (by decide)))), .inr ⟨rfl, r3, ee.2, ?_, ?_⟩⟩
            · unfold lb_X7_readFrom_10
              simp only [h8, hs13, r1, i32_10, if_false, ee.fin]
              rw [if_pos (show (100 : Int32) ≤ nI i by rw [hi1]; decide)]
            · unfold lb_X9_readTrace_5
              simp only [e1, if_neg hb0, e2, i32_10, if_false, if_pos hg']
              rw [rl_eq, if_pos (by rw [f20, hi1]; rfl)]
              simp only [fails_v]
              rfl
            · rw [r6, mo_i_1, if_neg (by decide), mo_i_1, if_pos rfl]
            · rw [r7, mo_i_1, if_pos rfl]; exact q12.symm
          · obtain ⟨a, a8, s', r, i1, i2, i3, i4, i5, i6⟩ := l_line (s8 := s8) (w := w) (n := n) hP hp (by rw [F12.1]; exact hs) J2 k3 q9 hs13 (by omega) hw f20 h8 (by rw [F12.1]; exact hn) (by rw [F12.1]; exact hl)
            have a80 : a8.1 0 0 = nI i := by rw [i5]; exact h8
            have n100 : ¬ 100 ≤ nI i := fun h => absurd ((nI_leI (a := 100) (by omega) (by omega)).mp h) (by omega)
            have ib : pm_inb (nI i) 100 = true := nb_nI (by omega) (by decide)
            have cl : lb_X7_readFrom_10 s4 (s0, s8, l3, nI w) = some (.inl (a, cs_i a8 0 0 (nI (i + 1)), l3, a8.2.1 1 i)) := by
              unfold lb_X7_readFrom_10
              simp only [h8, if_neg n100, hs13, i32_10, if_false, i1, a80, ib, nI_1, nI_clamp (show i < 2 ^ 31 by omega)]
            have FF : rqL s s' := (rqL.of F12).trans i4
            rcases i6 with ⟨rfl, J3, g20, g8, g18, v, hv, L⟩ | ⟨rfl, J3⟩
            · have L' := id L
              obtain ⟨v1, v2, v3, _⟩ := L'
              have rc : lb_X9_readTrace_5 s = some (.inl s') := by
                unfold lb_X9_readTrace_5
                simp only [e1, if_neg hb0, e2, i32_10, if_false, if_pos hg', i2]
              have HM : ∀ j j', j ≤ j' → j' < i + 1 → (if j = i then v else tk j) ≤ (if j' = i then v else tk j') := by
                intro j j' h1 h2
                by_cases z' : j' = i
                · rw [if_pos z']
                  by_cases z : j = i
                  · rw [if_pos z]
                    exact Nat.le_refl v
                  · rw [if_neg z]
                    exact Nat.le_trans (lines j (by omega)).2.1 hv
                · rw [if_neg z', if_neg (by omega)]
                  exact mono j j' h1 (by omega)
              have HL : ∀ j, j < i + 1 → n < (if j = i then v else tk j) ∧ (if j = i then v else tk j) ≤ v ∧ tl_1 D S T (if j = i then v else tk j) j (cs_i a8 0 0 (nI (i + 1))) (s'.2.2.1 18) := by
                intro j hj
                by_cases z : j = i
                · subst z
                  rw [if_pos rfl]
                  exact ⟨by omega, Nat.le_refl v, L⟩
                · have lj := lines j (by omega)
                  rw [if_neg z]
                  refine ⟨lj.1, Nat.le_trans lj.2.1 hv, lj.2.2.cg (fun p => ?_) (fun k h1 h2 => ?_)⟩
                  · show a8.2.1 p j = _
                    exact g8 p j z
                  · rw [g18 k (by omega), F12.1]
              obtain ⟨s0', s8', s'', r, m1, m2, m3, m4, m5⟩ := tr_all l3 hP hp k (i + 1) v (fc - 1) (fr - 1) a (cs_i a8 0 0 (nI (i + 1))) s' (by omega) (by omega) (by omega) (by omega) (by omega) (by omega) J3 (by rw [FF.2.1 0 (by decide)]; exact hs) (by rw [FF.2.1 3 (by decide)]; exact hn) (.inr ⟨by omega, by rw [show 5 * (i + 1) - 5 = 5 * i by omega]; exact v3⟩) ⟨by rw [ci_1, if_pos ⟨rfl, rfl⟩], g20, fun j => if j = i then v else tk j, HM, HL⟩
              rw [show fc - 1 + 1 = fc by omega] at m1
              rw [show fr - 1 + 1 = fr by omega] at m2
              refine ⟨s0', s8', s'', r, ?_, ?_, i3.trans m3, FF.trans m4, m5⟩
              · rw [lp_inl cl, v2]; exact m1
              · rw [lp_inl rc]; exact m2
            · refine ⟨a, cs_i a8 0 0 (nI (i + 1)), s', 0, ?_, lp_inr ?_, i3, FF, .inr ⟨rfl, J3⟩⟩
              · rw [lp_inl cl, show fc = fc - 1 + 1 by omega]
                exact J3.er.tr _ _ _ _ _
              · unfold lb_X9_readTrace_5
                simp only [e1, if_neg hb0, e2, i32_10, if_false, if_pos hg', i2, if_true]
        · have hg' : ¬ lg_cmp s2.2.1 52 = 0 := hg
          rcases j_end J.z.1 with ⟨h, _⟩ | ⟨_, s0', e, tF, r3, r6, r7⟩
          · exact absurd h k0
          · refine ⟨s0', s8, mo_i (mo_i s2 14 1) 15 (s2.1 12), 0, tr_x hs13 e s4 s8 l3 (nI w) fc, lp_inr ?_, tF, (rqL.of F12).trans (rqL.of ((rq.i s2 _ (by decide)).trans (rq.i _ _ (by decide)))), .inr ⟨rfl, r3, by rw [r6]; decide, ?_, ?_⟩⟩
            · unfold lb_X9_readTrace_5
              simp only [e1, if_neg hb0, e2, i32_10, if_false, if_neg hg', fails_v]
              rfl
            · rw [r6, mo_i_1, if_neg (by decide), mo_i_1, if_pos rfl]
            · rw [r7, mo_i_1, if_pos rfl]; exact q12.symm
      · rcases j_end J.z.1 with ⟨h, _⟩ | ⟨_, s0', e, tF, r3, r6, r7⟩
        · exact absurd h k0
        · refine ⟨s0', s8, s2, 0, tr_x (ns 13) e s4 s8 l3 (nI w) fc, lp_inr ?_, tF, rqL.of F12, .inr ⟨rfl, r3, by rw [r6]; decide, by rw [r6, q14], by rw [r7, q15]⟩⟩
          unfold lb_X9_readTrace_5
          simp only [e1, if_neg hb0, e2, if_true]
