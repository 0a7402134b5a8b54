/-! A trace's line from its first word on; the lines. -/
theorem er.l1 {s0 s8 : cs_S} {i : Nat} (h : er s0) (hi : i < 100) (h8 : s8.1 0 0 = nI i) (s4 : cs_S) (l3 k0 : Int32) : ∃ s8', fc_X7_readLine_c1 s0 s4 s8 l3 k0 (nI i) = some (s0, s8') ∧ s8'.1 = s8.1 := by
  have ib : pm_inb (nI i) 100 = true := nb_nI hi (by decide)
  have h82 : (cs_a s8 2 (nI i) k0).1 0 0 = nI i := h8
  obtain ⟨s8', i1, i2⟩ := h.lu (s8 := cs_a (cs_a s8 2 (nI i) k0) 5 (nI i) 0) hi h8 s4 l3
  refine ⟨s8', ?_, i2.trans rfl⟩
  unfold fc_X7_readLine_c1
  simp only [ib, h.sees, h82]
  rw [c2_eq hi h82 (.inl rfl), if_pos rfl, h.word]
  exact i1
/-- the numbers of a line, and what follows -/
def cl_n (s0 s4 s8 : cs_S) (a2 : Int32) : Option (cs_S × cs_S) :=
  match f_X6_takeNumber s0 a2 99999 with
  | none => none
  | some (r3, s0_4) => (match pm_inb (s8.1 0 0) 100 with
    | false => none
    | true => (match f_X6_takeNumber s0_4 1 ((s4.1 0 7) - 1) with
      | none => none
      | some (r7, s0_8) => fc_X7_readLine_c1 s0_8 s4 (cs_a s8 1 (s8.1 0 0) r3) a2 r7 ((cs_a s8 1 (s8.1 0 0) r3).1 0 0)))
theorem cl_eq (s0 s4 s8 : cs_S) (a2 : Int32) : f_X7_readLine s0 s4 s8 a2 = (match f_X6_passWord s0 13 with | none => none | some a => cl_n a s4 s8 a2) := rfl
theorem l_num {x : Nat → Nat} {len i w D S T : Nat} {p : Nat → Int32} {s0 s8 s4 : cs_S} {s : mo_S} (hP : ab_P p s4) (hp : ab_pl p D S T) (hs : s.2.2.1 0 = p) (J : jt x len s0 s) (hi : i < 100) (hw : w < 200000) (h20 : s.1 20 = nI i) (h8 : s8.1 0 0 = nI i) :
    ∃ s0' s8' s' r, cl_n s0 s4 s8 (nI w) = some (s0', s8') ∧ rl_f s (nI (5 * i)) (nI w) = some (r, s') ∧ tf s0 s0' ∧ rqL s s' ∧ s8'.1 = s8.1 ∧
      ((r = 1 ∧ jt x len s0' s' ∧ s'.1 20 = nI (i + 1) ∧ (∀ p k, k ≠ i → s8'.2.1 p k = s8.2.1 p k) ∧ (∀ k, k < 5 * i → s'.2.2.1 18 k = s.2.2.1 18 k) ∧ ∃ v, w ≤ v ∧ tl_1 D S T v i s8' (s'.2.2.1 18)) ∨ (r = 0 ∧ je s0' s')) := by
  have ib : pm_inb (nI i) 100 = true := nb_nI hi (by decide)
  have ib0 : pm_inb (nI (5 * i)) 500 = true := nb_nI (by omega) (by decide)
  have ib1 : pm_inb (nI (5 * i + 1)) 500 = true := nb_nI (by omega) (by decide)
  have ib6 : pm_inb 6 26 = true := by decide
  have c6 : (Int32.toNatClampNeg 6) = 6 := by decide
  have a1 : nI (5 * i) + 1 = nI (5 * i + 1) := nI_1 _
  have hT1 : 1 ≤ T := hp.2.2.2.2.2.2.2.1
  have hT6 : T ≤ 6 := hp.2.2.2.2.2.2.2.2.1
  have t7 : s4.1 0 7 - 1 = nI (T - 1) := by
    rw [hP.2.2.2.2.2.2.1, hp.2.2.1]
    exact nI_sub (b := 1) hT1
  unfold cl_n rl_f
  simp only [h8, ib, t7]
  obtain ⟨v', a, s1, r, e1, e2, t1, F1, h⟩ := j_num (nI w) 99999 J
  rcases h with ⟨rfl, J1, h13, lo, hi'⟩ | ⟨rfl, J1⟩
  · obtain ⟨v, hv1, hv2, rfl⟩ := i32_nI (hi := 99999) lo hi' (by omega) (by decide)
    have h81 : (cs_a s8 1 (nI i) (nI v)).1 0 0 = nI i := h8
    have m0 : ∀ k, (mo_a s1 18 (nI (5 * i)) (s1.1 13)).2.2.1 18 k = if k = 5 * i then nI v else s.2.2.1 18 k := by
      intro k
      rw [mo_a_3, nI_clamp (by omega), h13, F1.1]
      by_cases z : k = 5 * i
      · rw [if_pos ⟨rfl, z⟩, if_pos z]
      · rw [if_neg (fun h => z h.2), if_neg z]
    have p1 : (mo_a s1 18 (nI (5 * i)) (s1.1 13)).2.2.1 0 = p := by rw [(rqL.a s1 _ _).2.1 0 (by decide), F1.1]; exact hs
    have t7' : (mo_a s1 18 (nI (5 * i)) (s1.1 13)).2.2.1 0 6 - 1 = nI (T - 1) := by
      rw [p1, hp.2.2.1]
      exact nI_sub (b := 1) hT1
    obtain ⟨t', b, s2, r, e3, e4, t2, F2, h⟩ := j_num (s := mo_a s1 18 (nI (5 * i)) (s1.1 13)) 1 (nI (T - 1)) (jt.a (by decide) J1)
    have FA : rqL s s2 := ((rqL.of F1).trans (rqL.a _ _ _)).trans (rqL.of F2)
    rcases h with ⟨rfl, J2, h13', lo', hi''⟩ | ⟨rfl, J2⟩
    · obtain ⟨t, ht1, ht2, rfl⟩ := i32_nI (lo := 1) lo' hi'' (by decide) (by omega)
      have m1 : ∀ k, (mo_a s2 18 (nI (5 * i + 1)) (s2.1 13)).2.2.1 18 k = if k = 5 * i + 1 then nI t else if k = 5 * i then nI v else s.2.2.1 18 k := by
        intro k
        rw [mo_a_3, nI_clamp (by omega), h13', F2.1]
        by_cases z : k = 5 * i + 1
        · rw [if_pos ⟨rfl, z⟩, if_pos z]
        · rw [if_neg (fun h => z h.2), if_neg z, m0]
      have c1 : ∀ p k, (cs_a s8 1 (nI i) (nI v)).2.1 p k = if p = 1 ∧ k = i then nI v else s8.2.1 p k := fun p k => ca_2 (by omega) p k
      have p2 : (mo_a s2 18 (nI (5 * i + 1)) (s2.1 13)).2.2.1 0 = p := by rw [(rqL.a s2 _ _).2.1 0 (by decide), F2.1]; exact p1
      obtain ⟨s0', s8', s', r, i1, i2, i3, i4, i5, i6⟩ := l_word (s8 := cs_a s8 1 (nI i) (nI v)) (s := mo_a s2 18 (nI (5 * i + 1)) (s2.1 13)) (v := v) (nI w) (nI w) (nI t) hP hp p2 (jt.a (by decide) J2) hi (by show s2.1 20 = _; rw [F2.2 20 (by decide)]; show s1.1 20 = _; rw [F1.2 20 (by decide)]; exact h20) h81 (by rw [c1, if_pos ⟨rfl, rfl⟩]) (by rw [m1, if_neg (by omega), if_pos rfl])
      refine ⟨s0', s8', s', r, ?_, ?_, (t1.trans t2).trans i3, (FA.trans (rqL.a _ _ _)).trans i4, i5.trans rfl, ?_⟩
      · simp only [e1, e3, h81, i1]
      · unfold rl_n
        simp only [e2, i32_10, if_false, ib0, ib6, c6, t7', e4, a1, ib1, i2]
      · rcases i6 with ⟨h1, h2, h3, u, d, bb, hu, hb, h4, h5⟩ | h
        · refine .inl ⟨h1, h2, h3, fun p k hk => ?_, fun k hk => ?_, v, hv1, hv2, ?_, ?_, ⟨t, ht1, by omega, ?_, ?_⟩, ⟨bb, hb, ?_, ?_⟩, ⟨u, hu, ?_, ?_⟩, ?_⟩
          · rw [h4, if_neg (fun h => hk h.2), if_neg (fun h => hk h.2), if_neg (fun h => hk h.2), if_neg (fun h => hk h.2), c1, if_neg (fun h => hk h.2)]
          · rw [h5, if_neg (by omega), if_neg (by omega), if_neg (by omega), m1, if_neg (by omega), if_neg (by omega)]
          · rw [h4, if_neg (by omega), if_neg (by omega), if_neg (by omega), if_neg (by omega), c1, if_pos ⟨rfl, rfl⟩]
          · rw [h5, if_neg (by omega), if_neg (by omega), if_neg (by omega), m1, if_neg (by omega), if_pos rfl]
          · rw [h4, if_neg (by omega), if_neg (by omega), if_neg (by omega), if_pos ⟨rfl, rfl⟩]
          · rw [h5, if_neg (by omega), if_neg (by omega), if_neg (by omega), m1, if_pos rfl]
          · rw [h4, if_neg (by omega), if_neg (by omega), if_pos ⟨rfl, rfl⟩]
          · rw [h5, if_neg (by omega), if_neg (by omega), if_pos rfl]
          · rw [h4, if_neg (by omega), if_pos ⟨rfl, rfl⟩]
          · rw [h5, if_neg (by omega), if_pos rfl]
          · rw [h4, if_pos ⟨rfl, rfl⟩, h5, if_pos rfl]
        · exact .inr h
    · obtain ⟨s8', i1, i2⟩ := J2.er.l1 (s8 := cs_a s8 1 (nI i) (nI v)) hi h81 s4 (nI w) t'
      refine ⟨b, s8', s2, 0, ?_, ?_, t1.trans t2, FA, i2.trans rfl, .inr ⟨rfl, J2⟩⟩
      · simp only [e1, e3, h81, i1]
      · unfold rl_n
        simp only [e2, i32_10, if_false, ib0, ib6, c6, t7', e4, if_true]
  · have h81 : (cs_a s8 1 (nI i) v').1 0 0 = nI i := h8
    obtain ⟨s8', i1, i2⟩ := J1.er.l1 (s8 := cs_a s8 1 (nI i) v') hi h81 s4 (nI w) 0
    refine ⟨a, s8', s1, 0, ?_, ?_, t1, rqL.of F1, i2.trans rfl, .inr ⟨rfl, J1⟩⟩
    · simp only [e1, J1.er.num, h81, i1]
    · simp only [e2, if_true]
/-- a line -/
theorem l_line {x : Nat → Nat} {len i w D S T n : Nat} {p : Nat → Int32} {s0 s8 s4 : cs_S} {s : mo_S} (hP : ab_P p s4) (hp : ab_pl p D S T) (hs : s.2.2.1 0 = p) (J : jt x len s0 s) (k3 : s0.1 1 3 = 3) (q9 : s.1 9 = s0.1 1 4) (sw : f_X6_sees s0 13 = some 1) (hi : i < 100) (hw : w < 200000) (h20 : s.1 20 = nI i) (h8 : s8.1 0 0 = nI i) (hn : s.2.2.1 3 0 = nI n) (hl : (i = 0 ∧ w = n + 1) ∨ (0 < i ∧ s.2.2.1 18 (5 * i - 5) = nI w)) :
    ∃ s0' s8' s' r, f_X7_readLine s0 s4 s8 (nI w) = some (s0', s8') ∧ f_X9_readLine s = some (r, s') ∧ tf s0 s0' ∧ rqL s s' ∧ s8'.1 = s8.1 ∧
      ((r = 1 ∧ jt x len s0' s' ∧ s'.1 20 = nI (i + 1) ∧ (∀ p k, k ≠ i → s8'.2.1 p k = s8.2.1 p k) ∧ (∀ k, k < 5 * i → s'.2.2.1 18 k = s.2.2.1 18 k) ∧ ∃ v, w ≤ v ∧ tl_1 D S T v i s8' (s'.2.2.1 18)) ∨ (r = 0 ∧ je s0' s')) := by
  obtain ⟨a, s2, g1, g2, J2, t2, F2⟩ := j_pass J k3 q9 sw
  have f20 : s2.1 20 = nI i := by rw [F2.2 20 (by decide)]; exact h20
  obtain ⟨s0', s8', s', r, i1, i2, i3, i4, i5, i6⟩ := l_num (s8 := s8) (w := w) hP hp (by rw [F2.1]; exact hs) J2 hi hw f20 h8
  refine ⟨s0', s8', s', r, ?_, ?_, t2.trans i3, (rqL.of F2).trans i4, i5, ?_⟩
  · rw [cl_eq, g1]
    exact i1
  · have n100 : ¬ s.1 20 = 100 := by
      rw [h20]
      exact fun h => absurd ((nI_eq (b := 100) (by omega) (by omega)).mp h) (by omega)
    have m5 : 5 * nI i = nI (5 * i) := nI_mul 5 i
    rw [rl_eq, if_neg n100]
    simp only [g2, f20, m5]
    rcases hl with ⟨hi0, hw0⟩ | ⟨hi0, hw0⟩
    · have e0 : (s2.2.2.1 3 (Int32.toNatClampNeg 0)) + 1 = nI w := by
        rw [F2.1, show Int32.toNatClampNeg 0 = 0 by decide, hn, hw0, nI_1]
      have b0 : pm_inb 0 18186 = true := by decide
      rw [if_pos (by rw [hi0]; rfl), e0]
      simp only [b0]
      exact i2
    · have e5 : nI (5 * i) - 5 = nI (5 * i - 5) := nI_sub (b := 5) (by omega)
      have b5 : pm_inb (nI (5 * i - 5)) 500 = true := nb_nI (by omega) (by decide)
      have e0 : s2.2.2.1 18 (Int32.toNatClampNeg (nI (5 * i - 5))) = nI w := by rw [nI_clamp (by omega), F2.1]; exact hw0
      rw [if_neg (show ¬ nI i = 0 from nI_ne0 hi0 (by omega))]
      simp only [e5, b5, e0]
      exact i2
  · rcases i6 with ⟨h1, h2, h3, h4, h5, h6⟩ | h
    · refine .inl ⟨h1, h2, h3, h4, fun k hk => ?_, h6⟩
      rw [h5 k hk, F2.1]
    · exact .inr h
