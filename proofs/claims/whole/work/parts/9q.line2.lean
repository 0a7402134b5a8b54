/-! A trace's line in both programs. -/
/-- one line that both have read -/
def tl_1 (D S T v j : Nat) (s8 : cs_S) (a : Nat → Int32) : Prop := v ≤ 99999 ∧ s8.2.1 1 j = nI v ∧ a (5 * j) = nI v ∧ (∃ t, 1 ≤ t ∧ t < T ∧ s8.2.1 2 j = nI t ∧ a (5 * j + 1) = nI t) ∧ (∃ x : Int32, (x = 0 ∨ x = 1) ∧ s8.2.1 5 j = x ∧ a (5 * j + 2) = x) ∧ (∃ u, u < S * (D - 1) ∧ s8.2.1 3 j = nI u ∧ a (5 * j + 3) = nI u) ∧ s8.2.1 4 j = a (5 * j + 4)
theorem un_2 {p : Nat → Int32} {D S T : Nat} {s : mo_S} {s4 : cs_S} (hs : s.2.2.1 0 = p) (hP : ab_P p s4) (hp : ab_pl p D S T) : f_X9_units s = some (nI (S * (D - 1))) ∧ f_X2_units s4 = some (nI (S * (D - 1))) := by
  have hD : 1 ≤ D := by
    have := hp.2.2.2.1
    omega
  constructor
  · have b1 : pm_inb 1 26 = true := by decide
    have c1 : (Int32.toNatClampNeg 1) = 1 := by decide
    unfold f_X9_units
    simp only [disks_w hs, b1, c1, hs, hp.1, hp.2.1]
    rw [show (1 : Int32) = nI 1 from rfl, nI_sub hD, nI_mul, Nat.mul_comm]
  · unfold f_X2_units
    rw [hP.1, hP.2.1, hp.1, hp.2.1, show (1 : Int32) = nI 1 from rfl, nI_sub hD, nI_mul]
def cl_u (s0 s4 s8 : cs_S) (l3 k1 : Int32) : Option (cs_S × cs_S) :=
  match f_X2_units s4 with
  | none => none
  | some r => (match f_X6_takeNumber s0 0 (r - 1) with
    | none => none
    | some (r20, s0_21) => fc_X7_readLine_c3 s0_21 s4 s8 l3 r20 k1)
theorem er.lu {s0 s8 : cs_S} {i : Nat} (h : er s0) (hi : i < 100) (h8 : s8.1 0 0 = nI i) (s4 : cs_S) (l3 : Int32) : ∃ s8', cl_u s0 s4 s8 l3 (nI i) = some (s0, s8') ∧ s8'.1 = s8.1 := by
  unfold cl_u f_X2_units
  simp only [h.num]
  exact h.l3 hi h8 s4 l3 0
theorem l_unit {x : Nat → Nat} {len i v D S T : Nat} {p : Nat → Int32} {s0 s8 s4 : cs_S} {s : mo_S} (l2 l3 : Int32) (hP : ab_P p s4) (hp : ab_pl p D S T) (hs : s.2.2.1 0 = p) (J : jt x len s0 s) (hi : i < 100) (h20 : s.1 20 = nI i) (h8 : s8.1 0 0 = nI i) (hv : s8.2.1 1 i = nI v) (hv' : s.2.2.1 18 (5 * i) = nI v) :
    ∃ s0' s8' s' r, cl_u s0 s4 s8 l3 (nI i) = some (s0', s8') ∧ rl_u s (nI (5 * i)) l2 = some (r, s') ∧ tf s0 s0' ∧ rqL s s' ∧ s8'.1 = s8.1 ∧
      ((r = 1 ∧ jt x len s0' s' ∧ s'.1 20 = nI (i + 1) ∧ ∃ u d, u < S * (D - 1) ∧ (∀ p k, s8'.2.1 p k = if p = 4 ∧ k = i then d else if p = 3 ∧ k = i then nI u else s8.2.1 p k) ∧ ∀ k, s'.2.2.1 18 k = if k = 5 * i + 4 then d else if k = 5 * i + 3 then nI u else s.2.2.1 18 k) ∨ (r = 0 ∧ je s0' s')) := by
  have ib : pm_inb (nI i) 100 = true := nb_nI hi (by decide)
  have ib3 : pm_inb (nI (5 * i + 3)) 500 = true := nb_nI (by omega) (by decide)
  have a3 : nI (5 * i) + 3 = nI (5 * i + 3) := nI_add (5 * i) 3
  have a4 : nI (5 * i) + 4 = nI (5 * i + 4) := nI_add (5 * i) 4
  have hU : 1 ≤ S * (D - 1) := Nat.mul_pos hp.2.2.2.2.2.1 (by have := hp.2.2.2.1; omega)
  have hU2 : S * (D - 1) ≤ 64 * 5 := Nat.mul_le_mul hp.2.2.2.2.2.2.1 (by have := hp.2.2.2.2.1; omega)
  have a1 : nI (S * (D - 1)) - 1 = nI (S * (D - 1) - 1) := nI_sub (b := 1) hU
  obtain ⟨u1, u2⟩ := un_2 hs hP hp
  unfold cl_u rl_u
  simp only [u1, u2, a1, a3, a4, ib3]
  obtain ⟨w, a, s1, r, e1, e2, t1, F1, h⟩ := j_num 0 (nI (S * (D - 1) - 1)) J
  rcases h with ⟨rfl, J1, h13, lo, hi'⟩ | ⟨rfl, J1⟩
  · obtain ⟨u, _, hu, rfl⟩ := i32_nI (lo := 0) lo hi' (by decide) (by omega)
    have c3 : ∀ p k, (cs_a s8 3 (nI i) (nI u)).2.1 p k = if p = 3 ∧ k = i then nI u else s8.2.1 p k := fun p k => ca_2 (by omega) p k
    have m3 : ∀ k, (mo_a s1 18 (nI (5 * i + 3)) (s1.1 13)).2.2.1 18 k = if k = 5 * i + 3 then nI u else s.2.2.1 18 k := by
      intro k
      rw [mo_a_3, nI_clamp (by omega), h13, F1.1]
      by_cases z : k = 5 * i + 3
      · rw [if_pos ⟨rfl, z⟩, if_pos z]
      · rw [if_neg (fun h => z h.2), if_neg z]
    obtain ⟨s0', s8', s', r, i1, i2, i3, i4, i5, i6⟩ := l_tail (s8 := cs_a s8 3 (nI i) (nI u)) (s := mo_a s1 18 (nI (5 * i + 3)) (s1.1 13)) (v := v) s4 l2 l3 (jt.a (by decide) J1) hi (by show s1.1 20 = _; rw [F1.2 20 (by decide)]; exact h20) h8 (by rw [c3, if_neg (by omega)]; exact hv) (by rw [m3, if_neg (by omega)]; exact hv')
    have h8' : (cs_a s8 3 (nI i) (nI u)).1 0 0 = nI i := h8
    refine ⟨s0', s8', s', r, ?_, ?_, t1.trans i3, ((rqL.of F1).trans (rqL.a _ _ _)).trans i4, i5.trans rfl, ?_⟩
    · unfold fc_X7_readLine_c3
      simp only [e1, ib, h8', i1]
    · simp only [e2, i32_10, if_false, i2]
    · rcases i6 with ⟨h1, h2, h3, d, h4, h5⟩ | h
      · refine .inl ⟨h1, h2, h3, u, d, by omega, fun p k => ?_, fun k => ?_⟩
        · rw [h4, c3]
        · rw [h5, m3]
      · exact .inr h
  · obtain ⟨s8', i1, i2⟩ := J1.er.l3 hi h8 s4 l3 w
    refine ⟨a, s8', s1, 0, ?_, ?_, t1, rqL.of F1, i2, .inr ⟨rfl, J1⟩⟩
    · simp only [e1, i1]
    · simp only [e2, if_true]
/-- the program from the word on -/
theorem c2_eq {s0 s4 s8 : cs_S} {i : Nat} {l3 b : Int32} (hi : i < 100) (h8 : s8.1 0 0 = nI i) (hb : b = 0 ∨ b = 1) : fc_X7_readLine_c2 s0 s4 s8 l3 b (nI i) = (match f_X6_passWord s0 (if b = 0 then 15 else 14) with | none => none | some a => cl_u a s4 (cs_a s8 5 (nI i) b) l3 (nI i)) := by
  have ib : pm_inb (nI i) 100 = true := nb_nI hi (by decide)
  have nb : vp_nar .boolean b = b := by
    rcases hb with rfl | rfl <;> decide
  have h8' : (cs_a s8 5 (nI i) b).1 0 0 = nI i := h8
  have e5 : (cs_a s8 5 (nI i) b).2.1 5 (Int32.toNatClampNeg (nI i)) = b := by rw [nI_clamp (by omega), ca_2 (by omega), if_pos ⟨rfl, rfl⟩]
  unfold fc_X7_readLine_c2
  simp only [nb, h8', ib, e5]
  by_cases z : b = 0
  · rw [if_pos z, if_pos z]; rfl
  · rw [if_neg z, if_neg z]; rfl
theorem l_word {x : Nat → Nat} {len i v D S T : Nat} {p : Nat → Int32} {s0 s8 s4 : cs_S} {s : mo_S} (l2 l3 k0 : Int32) (hP : ab_P p s4) (hp : ab_pl p D S T) (hs : s.2.2.1 0 = p) (J : jt x len s0 s) (hi : i < 100) (h20 : s.1 20 = nI i) (h8 : s8.1 0 0 = nI i) (hv : s8.2.1 1 i = nI v) (hv' : s.2.2.1 18 (5 * i) = nI v) :
    ∃ s0' s8' s' r, fc_X7_readLine_c1 s0 s4 s8 l3 k0 (nI i) = some (s0', s8') ∧ rl_s s (nI (5 * i)) l2 = some (r, s') ∧ tf s0 s0' ∧ rqL s s' ∧ s8'.1 = s8.1 ∧
      ((r = 1 ∧ jt x len s0' s' ∧ s'.1 20 = nI (i + 1) ∧ ∃ u d b, u < S * (D - 1) ∧ (b = 0 ∨ b = 1) ∧ (∀ p k, s8'.2.1 p k = if p = 4 ∧ k = i then d else if p = 3 ∧ k = i then nI u else if p = 5 ∧ k = i then b else if p = 2 ∧ k = i then k0 else s8.2.1 p k) ∧ ∀ k, s'.2.2.1 18 k = if k = 5 * i + 4 then d else if k = 5 * i + 3 then nI u else if k = 5 * i + 2 then b else s.2.2.1 18 k) ∨ (r = 0 ∧ je s0' s')) := by
  have ib : pm_inb (nI i) 100 = true := nb_nI hi (by decide)
  have ib2 : pm_inb (nI (5 * i + 2)) 500 = true := nb_nI (by omega) (by decide)
  have a2 : nI (5 * i) + 2 = nI (5 * i + 2) := nI_add (5 * i) 2
  have c2 : ∀ p k, (cs_a s8 2 (nI i) k0).2.1 p k = if p = 2 ∧ k = i then k0 else s8.2.1 p k := fun p k => ca_2 (by omega) p k
  have h82 : (cs_a s8 2 (nI i) k0).1 0 0 = nI i := h8
  obtain ⟨s1, r, e1, F1, h⟩ := j_sees J
  have go : ∀ (b : Int32) (w : Nat), (b = 0 ∨ b = 1) → w = (if b = 0 then 15 else 14) → f_X6_sees s0 14 = some b → f_X6_sees s0 w = some 1 → jt x len s0 s1 → s0.1 1 3 = 3 → s1.1 9 = s0.1 1 4 → rl_s s (nI (5 * i)) l2 = rl_w s1 (nI (5 * i)) l2 b →
      ∃ s0' s8' s' r, fc_X7_readLine_c1 s0 s4 s8 l3 k0 (nI i) = some (s0', s8') ∧ rl_s s (nI (5 * i)) l2 = some (r, s') ∧ tf s0 s0' ∧ rqL s s' ∧ s8'.1 = s8.1 ∧
      ((r = 1 ∧ jt x len s0' s' ∧ s'.1 20 = nI (i + 1) ∧ ∃ u d b, u < S * (D - 1) ∧ (b = 0 ∨ b = 1) ∧ (∀ p k, s8'.2.1 p k = if p = 4 ∧ k = i then d else if p = 3 ∧ k = i then nI u else if p = 5 ∧ k = i then b else if p = 2 ∧ k = i then k0 else s8.2.1 p k) ∧ ∀ k, s'.2.2.1 18 k = if k = 5 * i + 4 then d else if k = 5 * i + 3 then nI u else if k = 5 * i + 2 then b else s.2.2.1 18 k) ∨ (r = 0 ∧ je s0' s')) := by
    intro b w hb hw s14 sw J1 k3 q9 er
    obtain ⟨a, s2, g1, g2, J2, t2, F2⟩ := j_pass (s := mo_a s1 18 (nI (5 * i + 2)) b) (jt.a (by decide) J1) k3 q9 sw
    have m2 : ∀ k, s2.2.2.1 18 k = if k = 5 * i + 2 then b else s.2.2.1 18 k := by
      intro k
      rw [F2.1, mo_a_3, nI_clamp (by omega), F1.1]
      by_cases z : k = 5 * i + 2
      · rw [if_pos ⟨rfl, z⟩, if_pos z]
      · rw [if_neg (fun h => z h.2), if_neg z]
    have c5 : ∀ p k, (cs_a (cs_a s8 2 (nI i) k0) 5 (nI i) b).2.1 p k = if p = 5 ∧ k = i then b else if p = 2 ∧ k = i then k0 else s8.2.1 p k := fun p k => by rw [ca_2 (by omega), c2]
    have fp : s2.2.2.1 0 = p := by
      rw [F2.1, (rqL.a s1 _ _).2.1 0 (by decide), F1.1]; exact hs
    obtain ⟨s0', s8', s', r, i1, i2, i3, i4, i5, i6⟩ := l_unit (s8 := cs_a (cs_a s8 2 (nI i) k0) 5 (nI i) b) (v := v) l2 l3 hP hp fp J2 hi (by rw [F2.2 20 (by decide)]; show s1.1 20 = _; rw [F1.2 20 (by decide)]; exact h20) h8 (by rw [c5, if_neg (by omega), if_neg (by omega)]; exact hv) (by rw [m2, if_neg (by omega)]; exact hv')
    refine ⟨s0', s8', s', r, ?_, ?_, t2.trans i3, ((rqL.of F1).trans ((rqL.a _ _ _).trans (rqL.of F2))).trans i4, i5.trans rfl, ?_⟩
    · unfold fc_X7_readLine_c1
      simp only [ib, s14, h82]
      rw [c2_eq hi h82 hb, ← hw, g1]
      exact i1
    · rw [er]
      unfold rl_w
      simp only [a2, ib2, g2]
      exact i2
    · rcases i6 with ⟨h1, h2, h3, u, d, h0, h4, h5⟩ | h
      · refine .inl ⟨h1, h2, h3, u, d, b, h0, hb, fun p k => ?_, fun k => ?_⟩
        · rw [h4, c5]
        · rw [h5, m2]
      · exact .inr h
  have no : f_X6_sees s0 14 = some 0 → f_X6_sees s0 15 = some 0 → ∃ s0' s8', fc_X7_readLine_c1 s0 s4 s8 l3 k0 (nI i) = some (s0', s8') ∧ tf s0 s0' ∧ s8'.1 = s8.1 ∧ s0'.1 1 3 = 1 ∧ s0'.1 1 6 = 1 ∧ s0'.1 1 7 = s0.1 1 4 := by
    intro s14 s15
    obtain ⟨s0', g1, g3, g6, g7, gF⟩ := rep_0 (a := 1) J.z.1
    have ee : er s0' := ⟨g3, by rw [g6]; decide⟩
    have pw : f_X6_passWord s0 15 = some s0' := by
      unfold f_X6_passWord
      simp only [s15, if_true, g1]
    obtain ⟨s8', i1, i2⟩ := ee.lu (s8 := cs_a (cs_a s8 2 (nI i) k0) 5 (nI i) 0) hi h8 s4 l3
    refine ⟨s0', s8', ?_, gF, i2.trans rfl, g3, g6, g7⟩
    unfold fc_X7_readLine_c1
    simp only [ib, s14, h82]
    rw [c2_eq hi h82 (.inl rfl), if_pos rfl, pw]
    exact i1
  rcases h with ⟨rfl, J1, k3, q12, q9, hw⟩ | ⟨rfl, k3, ns, q14, q15⟩
  · rcases hw 14 _ tb_writes (by decide) with ⟨s14, g14⟩ | ⟨s14, g14⟩
    · have g14' : lg_cmp s1.2.1 790941875 = 0 := g14
      refine go 1 14 (.inr rfl) rfl s14 s14 J1 k3 q9 ?_
      unfold rl_s
      simp only [e1, i32_10, if_false, if_pos g14', ite_self]
    · have g14' : ¬ lg_cmp s1.2.1 790941875 = 0 := g14
      rcases hw 15 _ tb_reads (by decide) with ⟨s15, g15⟩ | ⟨s15, g15⟩
      · have g15' : lg_cmp s1.2.1 19039379 = 0 := g15
        refine go 0 15 (.inl rfl) rfl s14 s15 J1 k3 q9 ?_
        unfold rl_s
        simp only [e1, i32_10, if_false, if_neg g14', if_pos g15']
      · have g15' : ¬ lg_cmp s1.2.1 19039379 = 0 := g15
        obtain ⟨s0', s8', i1, i2, i3, i4, i5, i6⟩ := no s14 s15
        refine ⟨s0', s8', mo_i (mo_i s1 14 1) 15 (s1.1 12), 0, i1, ?_, i2, (rqL.of F1).trans (rqL.of ((rq.i s1 _ (by decide)).trans (rq.i _ _ (by decide)))), i3, .inr ⟨rfl, i4, by rw [i5]; decide, ?_, ?_⟩⟩
        · unfold rl_s
          simp only [e1, i32_10, if_false, if_neg g14', if_neg g15', fails_v]
          rfl
        · rw [i5, mo_i_1, if_neg (by decide), mo_i_1, if_pos rfl]
        · rw [i6, mo_i_1, if_pos rfl]; exact q12.symm
  · obtain ⟨s0', s8', i1, i2, i3, i4, i5, i6⟩ := no (ns 14) (ns 15)
    refine ⟨s0', s8', s1, 0, i1, ?_, i2, rqL.of F1, i3, .inr ⟨rfl, i4, by rw [i5]; decide, by rw [i5, q14], by rw [i6, q15]⟩⟩
    unfold rl_s
    simp only [e1, if_true]
