/-! The end of a trace's line in both programs. -/
/-- the reference's frame while a trace is read -/
def rqL (s s' : mo_S) : Prop := (∀ k, k ∉ [9, 11, 12, 13, 14, 15, 20] → s'.1 k = s.1 k) ∧ (∀ p, p ≠ 18 → s'.2.2.1 p = s.2.2.1 p) ∧ s'.2.2.2 = s.2.2.2
theorem rqL.rfl' (s : mo_S) : rqL s s := ⟨fun _ _ => rfl, fun _ _ => rfl, rfl⟩
theorem rqL.trans {a b c : mo_S} (h : rqL a b) (h' : rqL b c) : rqL a c := ⟨fun k hk => (h'.1 k hk).trans (h.1 k hk), fun p hp => (h'.2.1 p hp).trans (h.2.1 p hp), h'.2.2.trans h.2.2⟩
theorem rqL.of {a b : mo_S} (h : rq rqA a b) : rqL a b := ⟨(h.mono (l' := [9, 11, 12, 13, 14, 15, 20]) (by decide)).2, fun p _ => by rw [h.1], by rw [h.1]⟩
theorem rqL.a (s : mo_S) (i v : Int32) : rqL s (mo_a s 18 i v) := ⟨fun _ _ => rfl, fun p hp => funext fun k => by rw [mo_a_3, if_neg (fun h => hp h.1)], rfl⟩
theorem rqL.i (s : mo_S) (v : Int32) : rqL s (mo_i s 20 v) := ⟨(rq.i (l := [9, 11, 12, 13, 14, 15, 20]) s v (by decide)).2, fun _ _ => rfl, rfl⟩
theorem j_peek2 {x : Nat → Nat} {len : Nat} {s0 : cs_S} {s : mo_S} (J : jt x len s0 s) :
    ∃ s' b, f_X9_peek s = some (b, s') ∧ jt x len s0 s' ∧ rq rqA s s' ∧ ((f_X9_isLetter s' b = some 1 ∧ s0.1 1 3 ≠ 5) ∨ (f_X9_isLetter s' b = some 0 ∧ s0.1 1 3 ≠ 3)) := by
  obtain ⟨p, t, u, c, C, R, h9, T, z6, z14, z7, z15⟩ := J
  have hc := T.c5
  obtain ⟨s1, e1, q9, q12, qw, qF⟩ := rp_peek R h9 T
  have R1 := R.F qF (by decide)
  have h3 := C.2.1
  refine ⟨s1, _, e1, ⟨t, t, u, c, C, R1, q9, ?_, z6, ?_, z7, ?_⟩, qF.mono (by decide), ?_⟩
  · rw [qF.2 11 (by decide)]; exact T.at
  · rw [qF.2 14 (by decide)]; exact z14
  · rw [qF.2 15 (by decide)]; exact z15
  · rw [tk_let (s := s1) (k := t) R1, h3]
    by_cases a : t < len ∧ tk_k (x t) = 3
    · rw [if_pos a]
      refine .inl ⟨rfl, fun h => ?_⟩
      have hc5 := (nI_eq (a := c) (b := 5) (by omega) (by omega)).mp h
      rcases T.2 with h | ⟨h0, h | h | h⟩
      · omega
      · omega
      · omega
      · rcases h.2.2.2 with h' | h' <;> omega
    · rw [if_neg a]
      refine .inr ⟨rfl, fun h => ?_⟩
      have hc3 := (nI_eq (a := c) (b := 3) (by omega) (by omega)).mp h
      have := T.r3 (.inl hc3)
      exact a ⟨by omega, by rw [this.2.2.1 t (by omega) (by omega)]; exact hc3⟩
theorem er.l5 {s0 : cs_S} {i : Nat} (h : er s0) (hi : i < 100) (s4 s8 : cs_S) (l3 k0 : Int32) : ∃ s8', fc_X7_readLine_c5 s0 s4 s8 l3 k0 (nI i) = some (s0, s8') ∧ s8'.1 = s8.1 := by
  have ib : pm_inb (nI i) 100 = true := nb_nI hi (by decide)
  unfold fc_X7_readLine_c5
  simp only [ib, h.sign]
  exact ⟨_, rfl, rfl⟩
theorem er.l4 {s0 : cs_S} {i : Nat} (h : er s0) (hi : i < 100) (s4 s8 : cs_S) (l3 k0 : Int32) : ∃ s8', fc_X7_readLine_c4 s0 s4 s8 l3 k0 (nI i) = some (s0, s8') ∧ s8'.1 = s8.1 := by
  have ib : pm_inb (nI i) 100 = true := nb_nI hi (by decide)
  unfold fc_X7_readLine_c4
  simp only [ib, h.sees, if_true, h.sign]
  exact ⟨_, rfl, rfl⟩
theorem er.l3 {s0 s8 : cs_S} {i : Nat} (h : er s0) (hi : i < 100) (h8 : s8.1 0 0 = nI i) (s4 : cs_S) (l3 k0 : Int32) : ∃ s8', fc_X7_readLine_c3 s0 s4 s8 l3 k0 (nI i) = some (s0, s8') ∧ s8'.1 = s8.1 := by
  have ib : pm_inb (nI i) 100 = true := nb_nI hi (by decide)
  have h8' : (cs_a s8 3 (nI i) k0).1 0 0 = nI i := h8
  unfold fc_X7_readLine_c3
  simp only [ib, h8']
  obtain ⟨s8', e1, e2⟩ := h.l4 hi s4 (cs_a s8 3 (nI i) k0) l3 (-1)
  exact ⟨s8', e1, e2.trans rfl⟩
theorem l_tail {x : Nat → Nat} {len i v : Nat} {s0 s8 : cs_S} {s : mo_S} (s4 : cs_S) (l2 l3 : Int32) (J : jt x len s0 s) (hi : i < 100) (h20 : s.1 20 = nI i) (h8 : s8.1 0 0 = nI i) (hv : s8.2.1 1 i = nI v) (hv' : s.2.2.1 18 (5 * i) = nI v) :
    ∃ s0' s8' s' r, fc_X7_readLine_c4 s0 s4 s8 l3 (-1) (nI i) = some (s0', s8') ∧ fc_X9_readLine_c1 s (nI (5 * i)) l2 (-1) (nI (5 * i + 4)) = some (r, s') ∧ tf s0 s0' ∧ rqL s s' ∧ s8'.1 = s8.1 ∧
      ((r = 1 ∧ jt x len s0' s' ∧ s'.1 20 = nI (i + 1) ∧ ∃ d, (∀ p k, s8'.2.1 p k = if p = 4 ∧ k = i then d else s8.2.1 p k) ∧ ∀ k, s'.2.2.1 18 k = if k = 5 * i + 4 then d else s.2.2.1 18 k) ∨ (r = 0 ∧ je s0' s')) := by
  have ib : pm_inb (nI i) 100 = true := nb_nI hi (by decide)
  have ib0 : pm_inb (nI (5 * i)) 500 = true := nb_nI (by omega) (by decide)
  have ib4 : pm_inb (nI (5 * i + 4)) 500 = true := nb_nI (by omega) (by decide)
  have a4 : nI (5 * i) + 4 = nI (5 * i + 4) := nI_add (5 * i) 4
  have h8' : ∀ w, (cs_a s8 4 (nI i) w).1 0 0 = nI i := fun _ => h8
  have r1 : (1 : Int32) &&& 1 = 1 := by decide
  have r0 : (0 : Int32) &&& 1 = 0 := by decide
  unfold fc_X7_readLine_c4 fc_X9_readLine_c1 fc_X9_readLine_c2 fc_X7_readLine_c5
  simp only [ib, ib0, ib4, a4, h8']
  obtain ⟨s1, b, e1, J1, F1, hl⟩ := j_peek2 (s := mo_a s 18 (nI (5 * i + 4)) (-1)) (jt.a (by decide) J)
  have f1 : ∀ k, s1.2.2.1 18 k = if k = 5 * i + 4 then -1 else s.2.2.1 18 k := by
    intro k
    rw [F1.1, mo_a_3, nI_clamp (by omega)]
    by_cases z : k = 5 * i + 4
    · rw [if_pos ⟨rfl, z⟩, if_pos z]
    · rw [if_neg (fun h => z h.2), if_neg z]
  have FA : rqL s s1 := (rqL.a s _ _).trans (rqL.of F1)
  have s120 : s1.1 20 = nI i := by rw [F1.2 20 (by decide)]; exact h20
  have c1 : ∀ w p k, (cs_a s8 4 (nI i) w).2.1 p k = if p = 4 ∧ k = i then w else s8.2.1 p k := fun w p k => ca_2 (by omega) p k
  rcases hl with ⟨hl, k5⟩ | ⟨hl, k3⟩
  · obtain ⟨a2, s2, r2, e2, e3, t2, F2, h⟩ := j_word (W' := 89) tb_by (by decide) rfl J1
    have sv : f_X6_sees s0 16 = some 1 ∨ f_X6_sees s0 16 = some 0 := by
      obtain ⟨p, t, u, c, C, R, h9, T, z⟩ := J
      rcases cl_sees tb_by C T with h | h
      · exact .inl h.1
      · exact .inr h.1
    rcases sv with sv | sv
    · rcases h with ⟨rfl, J2⟩ | ⟨rfl, J2⟩
      · have tk : (cs_a s8 4 (nI i) (-1)).2.1 1 (Int32.toNatClampNeg (nI i)) = nI v := by rw [nI_clamp (by omega), c1, if_neg (by omega)]; exact hv
        have rk : s2.2.2.1 18 (Int32.toNatClampNeg (nI (5 * i))) = nI v := by rw [nI_clamp (by omega), F2.1, f1, if_neg (by omega)]; exact hv'
        obtain ⟨d, a3, s3, r3, e4, e5, t3, F3, h⟩ := j_num (nI v) 99999 J2
        rcases h with ⟨rfl, J3, h13, _, _⟩ | ⟨rfl, J3⟩
        · obtain ⟨a4', s4', r4, e6, e7, t4, F4, h⟩ := j_semi (s := mo_i (mo_a s3 18 (nI (5 * i + 4)) (s3.1 13)) 20 (nI i + 1)) (jt.i (by decide) (jt.a (by decide) J3))
          have s320 : s3.1 20 = nI i := by rw [F3.2 20 (by decide), F2.2 20 (by decide)]; exact s120
          have s320' : (mo_a s3 18 (nI (5 * i + 4)) (s3.1 13)).1 20 = nI i := s320
          refine ⟨a4', cs_a (cs_a s8 4 (nI i) (-1)) 4 (nI i) d, s4', r4, ?_, ?_, (t2.trans t3).trans t4, ((FA.trans (rqL.of F2)).trans (rqL.of F3)).trans (((rqL.a _ _ _).trans (rqL.i _ _)).trans (rqL.of F4)), rfl, ?_⟩
          · simp only [sv, i32_10, if_false, e2, tk, e4, e6]
          · simp only [e1, hl, i32_10, if_false, e3, rk, e5, s320', e7]
            rcases h with ⟨rfl, _⟩ | ⟨rfl, _⟩
            · rw [if_pos r1]
            · rw [if_pos r0]
          · rcases h with ⟨rfl, J4⟩ | ⟨rfl, J4⟩
            · refine .inl ⟨rfl, J4, ?_, d, fun p k => ?_, fun k => ?_⟩
              · rw [F4.2 20 (by decide), mo_i_1, if_pos rfl, nI_1]
              · rw [ca_2 (by omega), c1]
                by_cases z : p = 4 ∧ k = i
                · rw [if_pos z, if_pos z]
                · rw [if_neg z, if_neg z, if_neg z]
              · rw [F4.1]
                show (mo_a s3 18 (nI (5 * i + 4)) (s3.1 13)).2.2.1 18 k = _
                rw [mo_a_3, nI_clamp (by omega), h13, F3.1, F2.1, f1]
                by_cases z : k = 5 * i + 4
                · rw [if_pos ⟨rfl, z⟩, if_pos z]
                · rw [if_neg (fun h => z h.2), if_neg z, if_neg z]
            · exact .inr ⟨rfl, J4⟩
        · refine ⟨a3, cs_a (cs_a s8 4 (nI i) (-1)) 4 (nI i) d, s3, 0, ?_, ?_, t2.trans t3, (FA.trans (rqL.of F2)).trans (rqL.of F3), rfl, .inr ⟨rfl, J3⟩⟩
          · simp only [sv, i32_10, if_false, e2, tk, e4, J3.er.sign]
          · simp only [e1, hl, i32_10, if_false, e3, rk, e5, if_true]
      · refine ⟨a2, cs_a (cs_a s8 4 (nI i) (-1)) 4 (nI i) 0, s2, 0, ?_, ?_, t2, FA.trans (rqL.of F2), rfl, .inr ⟨rfl, J2⟩⟩
        · simp only [sv, i32_10, if_false, e2, J2.er.num, J2.er.sign]
        · simp only [e1, hl, i32_10, if_false, e3, if_true]
    · obtain ⟨s0', g1, g3, g6, g7, gF⟩ := rep_0 (a := 1) J.z.1
      have es : a2 = s0' := by
        have : f_X6_passWord s0 16 = some s0' := by
          unfold f_X6_passWord
          simp only [sv, if_true, g1]
        rw [e2] at this
        exact Option.some.inj this
      subst es
      rcases h with ⟨rfl, J2⟩ | ⟨rfl, J2⟩
      · exact absurd J2.z.1 (by rw [g6]; decide)
      · refine ⟨a2, cs_a s8 4 (nI i) (-1), s2, 0, ?_, ?_, t2, FA.trans (rqL.of F2), rfl, .inr ⟨rfl, J2⟩⟩
        · have ps : f_X6_passSign s0 = some a2 := by
            unfold f_X6_passSign
            rw [if_neg k5, g1]
          simp only [sv, if_true, ps]
        · simp only [e1, hl, i32_10, if_false, e3, if_true]
  · have sv : f_X6_sees s0 16 = some 0 := by
      unfold f_X6_sees
      rw [if_neg k3]
    obtain ⟨a2, s2, r2, e2, e3, t2, F2, h⟩ := j_semi (s := mo_i s1 20 (nI i + 1)) (jt.i (by decide) J1)
    refine ⟨a2, cs_a s8 4 (nI i) (-1), s2, r2, ?_, ?_, t2, FA.trans ((rqL.i _ _).trans (rqL.of F2)), rfl, ?_⟩
    · simp only [sv, if_true, e2]
    · simp only [e1, hl, if_true, s120, e3]
      rcases h with ⟨rfl, _⟩ | ⟨rfl, _⟩
      · rw [if_pos r1]
      · rw [if_pos r0]
    · rcases h with ⟨rfl, J2⟩ | ⟨rfl, J2⟩
      · refine .inl ⟨rfl, J2, ?_, -1, fun p k => c1 _ p k, fun k => ?_⟩
        · rw [F2.2 20 (by decide), mo_i_1, if_pos rfl, nI_1]
        · rw [F2.1]
          exact f1 k
      · exact .inr ⟨rfl, J2⟩
