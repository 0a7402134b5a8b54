/-! Numbers and shares, read by both programs. -/
theorem jt.c4 {x : Nat → Nat} {len p t u c : Nat} {L : Int32} (T : tk_T x len L p t u c) (hc : c = 4) : tk_v x t (u - t) < 100000 := by
  obtain ⟨r1, r2, r3, r4, r5⟩ := T.r3 (.inr hc)
  exact tk_v_5 (r5 hc) (fun k h1 h2 => (r3 k h1 (by omega)).trans hc)
/-- a number -/
theorem j_num {x : Nat → Nat} {len : Nat} {s0 : cs_S} {s : mo_S} (lo hi : Int32) (J : jt x len s0 s) :
    ∃ v s0' s' r, f_X6_takeNumber s0 lo hi = some (v, s0') ∧ f_X9_readNumber s lo hi = some (r, s') ∧ tf s0 s0' ∧ rq rqA s s' ∧ ((r = 1 ∧ jt x len s0' s' ∧ s'.1 13 = v ∧ ¬ v < lo ∧ ¬ hi < v) ∨ (r = 0 ∧ je s0' s')) := by
  obtain ⟨p, t, u, c, C, R, h9, T, z6, z14, z7, z15⟩ := J
  have cf := cl_fit lo hi 0 C T
  have tn : ∀ e, f_X6_takeFitting s0 lo hi 0 = some e → f_X6_takeNumber s0 lo hi = some e := by
    intro e h
    unfold f_X6_takeNumber
    rw [h]
  obtain ⟨s1, F1, g12, g⟩ := rp_num lo hi R h9 T
  have F1' : rq rqA s s1 := F1
  rcases g with ⟨c4, gr, g1, g14, g15⟩ | ⟨c4, gl, gh, g1, g13, g9, g11, g14, g15⟩ | ⟨c4, g1, g14, g15⟩
  · obtain ⟨s0', r1, r3, r6, r7, rF⟩ := rep_0 (a := 2) z6
    rw [if_pos c4, if_neg (fun h => h.elim (fun h => gr.elim h.1 h.2) (fun h => h.1 rfl)), r1] at cf
    exact ⟨0, s0', s1, 0, tn _ cf, g1, rF, F1', .inr ⟨rfl, r3, by rw [r6]; decide, by rw [r6, g14], by rw [r7, g15]; exact C.2.2.1⟩⟩
  · obtain ⟨s0', d1, d2, d6, d7, t', u', c', C', T'⟩ := j_adv C T
    rw [if_pos (.inr c4)] at T'
    rw [if_pos c4, if_pos (.inl ⟨gl, gh⟩), d1] at cf
    exact ⟨_, s0', s1, 1, tn _ cf, g1, d2, F1', .inl ⟨rfl, ⟨u, t', u', c', C', R.F F1 (by decide), g9, by rw [g11]; exact T', ⟨by rw [d6]; exact z6, by rw [g14]; exact z14, by rw [d7]; exact z7, by rw [g15]; exact z15⟩⟩, g13, gl, gh⟩⟩
  · obtain ⟨s0', r1, r3, r6, r7, rF⟩ := rep_0 (a := 1) z6
    rw [if_neg c4, r1] at cf
    exact ⟨0, s0', s1, 0, tn _ cf, g1, rF, F1', .inr ⟨rfl, r3, by rw [r6]; decide, by rw [r6, g14], by rw [r7, g15]; exact C.2.2.1⟩⟩
theorem jt.a {x : Nat → Nat} {len : Nat} {s0 : cs_S} {s : mo_S} {k : Nat} {i v : Int32} (hk : k ≠ 7) (J : jt x len s0 s) : jt x len s0 (mo_a s k i v) := by
  obtain ⟨p, t, u, c, C, R, h⟩ := J
  refine ⟨p, t, u, c, C, ⟨R.1, R.2.1, fun j hj => ?_⟩, h⟩
  rw [mo_a_3, if_neg (by omega)]
  exact R.2.2 j hj
theorem je.a {s0 : cs_S} {s : mo_S} {k : Nat} {i v : Int32} (J : je s0 s) : je s0 (mo_a s k i v) := J
theorem jt.i {x : Nat → Nat} {len : Nat} {s0 : cs_S} {s : mo_S} {k : Nat} {v : Int32} (hk : k ≠ 9 ∧ k ≠ 10 ∧ k ≠ 11 ∧ k ≠ 14 ∧ k ≠ 15) (J : jt x len s0 s) : jt x len s0 (mo_i s k v) := by
  obtain ⟨p, t, u, c, C, R, h9, T, z6, z14, z7, z15⟩ := J
  refine ⟨p, t, u, c, C, ⟨R.1, ?_, R.2.2⟩, ?_, ?_, z6, ?_, z7, ?_⟩
  · rw [mo_i_1, if_neg (by omega)]; exact R.2.1
  · rw [mo_i_1, if_neg (by omega)]; exact h9
  · rw [mo_i_1, if_neg (by omega)]; exact T
  · rw [mo_i_1, if_neg (by omega)]; exact z14
  · rw [mo_i_1, if_neg (by omega)]; exact z15
/-- the reference's frame while an array is read: fresh may change -/
def rqF (s s' : mo_S) : Prop := (∀ k, k ∉ rqA → s'.1 k = s.1 k) ∧ (∀ p, p ≠ 1 → s'.2.2.1 p = s.2.2.1 p) ∧ s'.2.2.2 = s.2.2.2
theorem rqF.rfl' (s : mo_S) : rqF s s := ⟨fun _ _ => rfl, fun _ _ => rfl, rfl⟩
theorem rqF.trans {a b c : mo_S} (h : rqF a b) (h' : rqF b c) : rqF a c := ⟨fun k hk => (h'.1 k hk).trans (h.1 k hk), fun p hp => (h'.2.1 p hp).trans (h.2.1 p hp), h'.2.2.trans h.2.2⟩
theorem rqF.of {a b : mo_S} (h : rq rqA a b) : rqF a b := ⟨h.2, fun p _ => by rw [h.1], by rw [h.1]⟩
theorem rqF.a (s : mo_S) (i v : Int32) : rqF s (mo_a s 1 i v) := ⟨fun _ _ => rfl, fun p hp => funext fun k => by rw [mo_a_3, if_neg (fun h => hp h.1)], rfl⟩
/-- a number into fresh -/
theorem j_to {x : Nat → Nat} {len i : Nat} {s0 : cs_S} {s : mo_S} (lo hi : Int32) (hi26 : i < 26) (J : jt x len s0 s) :
    ∃ v s0' s' r, f_X6_takeNumber s0 lo hi = some (v, s0') ∧ f_X9_readTo s (nI i) lo hi = some (r, s') ∧ tf s0 s0' ∧ rqF s s' ∧ ((r = 1 ∧ jt x len s0' s' ∧ ¬ v < lo ∧ ¬ hi < v ∧ s'.1 13 = v ∧ ∀ k, s'.2.2.1 1 k = if k = i then v else s.2.2.1 1 k) ∨ (r = 0 ∧ je s0' s')) := by
  obtain ⟨v, s0', s', r, e1, e2, f1, f2, h⟩ := j_num lo hi J
  have ib : pm_inb (nI i) 26 = true := nb_nI hi26 (by decide)
  rcases h with ⟨rfl, J', h13, hl, hh⟩ | ⟨rfl, J'⟩
  · refine ⟨v, s0', mo_a s' 1 (nI i) (s'.1 13), 1, e1, ?_, f1, (rqF.of f2).trans (rqF.a _ _ _), .inl ⟨rfl, J'.a (by decide), hl, hh, h13, fun k => ?_⟩⟩
    · unfold f_X9_readTo
      simp only [e2, i32_10, if_false, ib]
    · rw [mo_a_3, nI_clamp (by omega), h13, f2.1]
      by_cases a : k = i
      · rw [if_pos ⟨rfl, a⟩, if_pos a]
      · rw [if_neg (fun h => a h.2), if_neg a]
  · refine ⟨v, s0', s', 0, e1, ?_, f1, rqF.of f2, .inr ⟨rfl, J'⟩⟩
    unfold f_X9_readTo
    simp only [e2, if_true]
/-- a word and its number -/
theorem j_set {x : Nat → Nat} {len i w W : Nat} {W' : Int64} {s0 : cs_S} {s : mo_S} (lo hi : Int32) (tb : tk_tab w W) (hW : W < 2 ^ 40) (hW' : W' = lN W) (hi26 : i < 26) (J : jt x len s0 s) :
    ∃ s1 v s0' s' r, f_X6_passWord s0 w = some s1 ∧ f_X6_takeNumber s1 lo hi = some (v, s0') ∧ f_X9_readSetting s W' (nI i) lo hi = some (r, s') ∧ tf s0 s0' ∧ rqF s s' ∧ ((r = 1 ∧ jt x len s0' s' ∧ ¬ v < lo ∧ ¬ hi < v ∧ ∀ k, s'.2.2.1 1 k = if k = i then v else s.2.2.1 1 k) ∨ (r = 0 ∧ je s0' s')) := by
  obtain ⟨s1, t1, r, e1, e2, f1, f2, h⟩ := j_word tb hW hW' J
  rcases h with ⟨rfl, J'⟩ | ⟨rfl, J'⟩
  · obtain ⟨v, s0', s', r', e3, e4, f3, f4, h⟩ := j_to lo hi hi26 J'
    refine ⟨s1, v, s0', s', r', e1, e3, ?_, f1.trans f3, (rqF.of f2).trans f4, ?_⟩
    · unfold f_X9_readSetting
      simp only [e2, i32_10, if_false, e4]
      rcases h with ⟨rfl, _⟩ | ⟨rfl, _⟩ <;> rfl
    · rcases h with ⟨h0, h1, h2, h3, _, h4⟩ | h
      · refine .inl ⟨h0, h1, h2, h3, fun k => ?_⟩
        rw [h4, f2.1]
      · exact .inr h
  · refine ⟨s1, 0, s1, t1, 0, e1, J'.er.num lo hi, ?_, f1, rqF.of f2, .inr ⟨rfl, J'⟩⟩
    unfold f_X9_readSetting
    simp only [e2, if_true]
/-- the limit -/
theorem j_lim {x : Nat → Nat} {len i : Nat} {s0 : cs_S} {s : mo_S} {q : Nat} (hq : q ≤ 1000) (hi26 : i < 26) (J : jt x len s0 s) :
    ∃ v s0' s' r, f_X6_takeNumberOrZero s0 (nI q) 1000 = some (v, s0') ∧ f_X9_readTo s (nI i) 0 1000 = some (r, s') ∧ tf s0 s0' ∧ rqF s s' ∧
      ((r = 1 ∧ jt x len s0' s' ∧ (∀ y, f_X9_isLimit y (s'.1 13) (nI q) = some 1) ∧ (v = 0 ∨ (¬ v < nI q ∧ ¬ 1000 < v)) ∧ ∀ k, s'.2.2.1 1 k = if k = i then v else s.2.2.1 1 k) ∨
       (r = 1 ∧ (∀ y, f_X9_isLimit y (s'.1 13) (nI q) = some 0) ∧ s0'.1 1 3 = 1 ∧ s0'.1 1 6 = 2 ∧ s0'.1 1 7 = s'.1 12 ∧ ∀ k, k ≠ i → s'.2.2.1 1 k = s.2.2.1 1 k) ∨ (r = 0 ∧ je s0' s')) := by
  obtain ⟨p, t, u, c, C, R, h9, T, z6, z14, z7, z15⟩ := J
  have cf := cl_fit (nI q) 1000 1 C T
  have tn : ∀ e, f_X6_takeFitting s0 (nI q) 1000 1 = some e → f_X6_takeNumberOrZero s0 (nI q) 1000 = some e := by
    intro e h
    unfold f_X6_takeNumberOrZero
    rw [h]
  have ib : pm_inb (nI i) 26 = true := nb_nI hi26 (by decide)
  obtain ⟨s1, F1, g12, g⟩ := rp_num 0 1000 R h9 T
  have F1' : rq rqA s s1 := F1
  have bad : ∀ {a : Int32}, a ≠ 0 → f_X6_takeFitting s0 (nI q) 1000 1 = (f_X6_report s0 a).map (fun s => (0, s)) → f_X9_readNumber s 0 1000 = some (0, s1) → s1.1 14 = a → s1.1 15 = nI t → ∃ v s0' s' r, f_X6_takeNumberOrZero s0 (nI q) 1000 = some (v, s0') ∧ f_X9_readTo s (nI i) 0 1000 = some (r, s') ∧ tf s0 s0' ∧ rqF s s' ∧
      ((r = 1 ∧ jt x len s0' s' ∧ (∀ y, f_X9_isLimit y (s'.1 13) (nI q) = some 1) ∧ (v = 0 ∨ (¬ v < nI q ∧ ¬ 1000 < v)) ∧ ∀ k, s'.2.2.1 1 k = if k = i then v else s.2.2.1 1 k) ∨
       (r = 1 ∧ (∀ y, f_X9_isLimit y (s'.1 13) (nI q) = some 0) ∧ s0'.1 1 3 = 1 ∧ s0'.1 1 6 = 2 ∧ s0'.1 1 7 = s'.1 12 ∧ ∀ k, k ≠ i → s'.2.2.1 1 k = s.2.2.1 1 k) ∨ (r = 0 ∧ je s0' s')) := by
    intro a ha h1 h2 h3 h4
    obtain ⟨s0', r1, r3, r6, r7, rF⟩ := rep_0 (a := a) z6
    rw [r1] at h1
    refine ⟨0, s0', s1, 0, tn _ h1, ?_, rF, rqF.of F1', .inr (.inr ⟨rfl, r3, by rw [r6]; exact ha, by rw [r6, h3], by rw [r7, h4]; exact C.2.2.1⟩)⟩
    unfold f_X9_readTo
    simp only [h2, if_true]
  rcases g with ⟨c4, gr, g1, g14, g15⟩ | ⟨c4, gl, gh, g1, g13, g9, g11, g14, g15⟩ | ⟨c4, g1, g14, g15⟩
  · refine bad (by decide) ?_ g1 g14 g15
    have hv := jt.c4 T c4
    rw [cf, if_pos c4, if_neg]
    intro h
    rcases gr with gr | gr
    · exact absurd gr (nI_pos (by omega))
    · rcases h with h | h
      · exact h.2 gr
      · rw [h.2] at gr
        exact absurd gr (by decide)
  · have hv := jt.c4 T c4
    have rt : f_X9_readTo s (nI i) 0 1000 = some (1, mo_a s1 1 (nI i) (s1.1 13)) := by
      unfold f_X9_readTo
      simp only [g1, i32_10, if_false, ib]
    have FF : rqF s (mo_a s1 1 (nI i) (s1.1 13)) := (rqF.of F1').trans (rqF.a _ _ _)
    by_cases ok : (¬ nI (tk_v x t (u - t)) < nI q ∧ ¬ 1000 < nI (tk_v x t (u - t))) ∨ ((1 : Int32) ≠ 0 ∧ nI (tk_v x t (u - t)) = 0)
    · obtain ⟨s0', d1, d2, d6, d7, t', u', c', C', T'⟩ := j_adv C T
      rw [if_pos (.inr c4)] at T'
      rw [if_pos c4, if_pos ok, d1] at cf
      refine ⟨_, s0', _, 1, tn _ cf, rt, d2, FF, .inl ⟨rfl, ?_, fun y => ?_, ?_, fun k => ?_⟩⟩
      · exact jt.a (by decide) ⟨u, t', u', c', C', R.F F1 (by decide), g9, by rw [g11]; exact T', ⟨by rw [d6]; exact z6, by rw [g14]; exact z14, by rw [d7]; exact z7, by rw [g15]; exact z15⟩⟩
      · show f_X9_isLimit y (s1.1 13) (nI q) = some 1
        rw [g13]
        unfold f_X9_isLimit
        rcases ok with ok | ok
        · by_cases z : nI (tk_v x t (u - t)) = 0
          · rw [if_pos z]
          · rw [if_neg z, if_neg ok.1, if_neg ok.2]
        · rw [if_pos ok.2]
      · rcases ok with ok | ok
        · exact .inr ok
        · exact .inl ok.2
      · rw [mo_a_3, nI_clamp (by omega), g13, F1.1]
        by_cases a : k = i
        · rw [if_pos ⟨rfl, a⟩, if_pos a]
        · rw [if_neg (fun h => a h.2), if_neg a]
    · obtain ⟨s0', r1, r3, r6, r7, rF⟩ := rep_0 (a := 2) z6
      rw [if_pos c4, if_neg ok, r1] at cf
      refine ⟨_, s0', _, 1, tn _ cf, rt, rF, FF, .inr (.inl ⟨rfl, fun y => ?_, r3, r6, ?_, fun k hk => ?_⟩)⟩
      · show f_X9_isLimit y (s1.1 13) (nI q) = some 0
        rw [g13]
        unfold f_X9_isLimit
        rw [if_neg (fun z => ok (.inr ⟨by decide, z⟩))]
        by_cases z : nI (tk_v x t (u - t)) < nI q
        · rw [if_pos z]
        · rw [if_neg z, if_pos]
          by_cases y : 1000 < nI (tk_v x t (u - t))
          · exact y
          · exact absurd (.inl ⟨z, y⟩) ok
      · rw [r7]
        exact C.2.2.1.trans g12.symm
      · rw [mo_a_3, nI_clamp (by omega), if_neg (fun h => hk h.2), F1.1]
  · refine bad (by decide) ?_ g1 g14 g15
    rw [cf, if_neg c4]
