/-! The text's numbers: the reference's reader. -/
def tk_v (x : Nat → Nat) (t : Nat) : Nat → Nat
  | 0 => 0
  | l + 1 => 10 * tk_v x t l + (x (t + l) - 48)
theorem tk_v_lt {x : Nat → Nat} {t : Nat} : ∀ l, (∀ k, t ≤ k → k < t + l → tk_k (x k) = 4) → tk_v x t l < 10 ^ l
  | 0, _ => Nat.zero_lt_one
  | l + 1, h => by
    have ih := tk_v_lt l (fun k h1 h2 => h k h1 (by omega))
    have k4 := tk_k4 (h (t + l) (by omega) (by omega))
    show 10 * tk_v x t l + (x (t + l) - 48) < 10 ^ (l + 1)
    rw [Nat.pow_succ]
    omega
theorem tk_v_5 {x : Nat → Nat} {t l : Nat} (hl : l ≤ 5) (h : ∀ k, t ≤ k → k < t + l → tk_k (x k) = 4) : tk_v x t l < 100000 := by
  have h1 := tk_v_lt l h
  have h2 : 10 ^ l ≤ 10 ^ 5 := Nat.pow_le_pow_right (by omega) hl
  omega
/-- readNumber(..) -/
theorem rp_num {x : Nat → Nat} {len p t u c : Nat} {s : mo_S} (lo hi : Int32) (R : tk_Rb x len s) (h9 : s.1 9 = nI p) (T : tk_T x len (s.1 11) p t u c) :
    ∃ s', rq [9, 11, 12, 13, 14, 15] s s' ∧ s'.1 12 = nI t ∧
      ((c = 4 ∧ (nI (tk_v x t (u - t)) < lo ∨ hi < nI (tk_v x t (u - t))) ∧ f_X9_readNumber s lo hi = some (0, s') ∧ s'.1 14 = 2 ∧ s'.1 15 = nI t) ∨
       (c = 4 ∧ ¬ nI (tk_v x t (u - t)) < lo ∧ ¬ hi < nI (tk_v x t (u - t)) ∧ f_X9_readNumber s lo hi = some (1, s') ∧ s'.1 13 = nI (tk_v x t (u - t)) ∧ s'.1 9 = nI u ∧ s'.1 11 = nI u ∧ s'.1 14 = s.1 14 ∧ s'.1 15 = s.1 15) ∨
       (c ≠ 4 ∧ f_X9_readNumber s lo hi = some (0, s') ∧ s'.1 14 = 1 ∧ s'.1 15 = nI t)) := by
  have hl := R.1
  obtain ⟨s1, e1, q9, q12, qw, qF⟩ := rp_peek R h9 T
  have R1 := R.F qF (by decide)
  have q11 : s1.1 11 = s.1 11 := qF.2 11 (by decide)
  have e0 : f_X9_isDigit s1 (tk_b x len t) = some (if t < len ∧ tk_k (x t) = 4 then 1 else 0) := tk_dig R1
  have bad : ∀ (s2 : mo_S), rq [9, 12, 13] s s2 → s2.1 12 = nI t → c ≠ 4 → (f_X9_readNumber s lo hi = some (0, mo_i (mo_i s2 14 1) 15 (nI t))) → ∃ s', rq [9, 11, 12, 13, 14, 15] s s' ∧ s'.1 12 = nI t ∧
      ((c = 4 ∧ (nI (tk_v x t (u - t)) < lo ∨ hi < nI (tk_v x t (u - t))) ∧ f_X9_readNumber s lo hi = some (0, s') ∧ s'.1 14 = 2 ∧ s'.1 15 = nI t) ∨
       (c = 4 ∧ ¬ nI (tk_v x t (u - t)) < lo ∧ ¬ hi < nI (tk_v x t (u - t)) ∧ f_X9_readNumber s lo hi = some (1, s') ∧ s'.1 13 = nI (tk_v x t (u - t)) ∧ s'.1 9 = nI u ∧ s'.1 11 = nI u ∧ s'.1 14 = s.1 14 ∧ s'.1 15 = s.1 15) ∨
       (c ≠ 4 ∧ f_X9_readNumber s lo hi = some (0, s') ∧ s'.1 14 = 1 ∧ s'.1 15 = nI t)) := by
    intro s2 sF s12 hc he
    refine ⟨_, (sF.mono (by decide)).trans ((rq.i s2 1 (by decide)).trans (rq.i _ (nI t) (by decide))), ?_, .inr (.inr ⟨hc, he, ?_, ?_⟩)⟩
    · rw [mo_i_1, if_neg (by decide), mo_i_1, if_neg (by decide)]; exact s12
    · rw [mo_i_1, if_neg (by decide), mo_i_1, if_pos rfl]
    · rw [mo_i_1, if_pos rfl]
  by_cases a : t < len ∧ tk_k (x t) = 4
  · rw [if_pos a] at e0
    obtain ⟨a1, a2⟩ := a
    by_cases b : s.1 11 = nI t
    · refine bad s1 (qF.mono (by decide)) q12 ?_ ?_
      · intro hc
        rcases T.2 with h | ⟨_, h | h | h⟩
        · omega
        · omega
        · omega
        · rcases h.2.2.2 with h' | h'
          · omega
          · exact h'.2.1 b
      · unfold f_X9_readNumber
        simp only [e1, e0, i32_10, if_false, q12, q11, b, if_true, fails_v]
        rfl
    · obtain ⟨hc, hu, hr, hn⟩ : ((c = 1 ∧ 5 < u - t) ∨ (c = 4 ∧ u - t ≤ 5)) ∧ t < u ∧ (∀ k, t ≤ k → k < u → tk_k (x k) = 4) ∧ (u < len → tk_k (x u) ≠ 4) := by
        rcases T.2 with h | ⟨h0, h | h | h⟩
        · omega
        · omega
        · omega
        · rw [a2] at h
          refine ⟨?_, h0.2.1, h.2.1, h.2.2.1⟩
          rcases h.2.2.2 with h' | h'
          · rcases h'.2 with h'' | h''
            · exact absurd h'' b
            · omega
          · omega
      have hul : u ≤ len := T.1.2.2.1
      have start : ∀ e, pm_loop pm_fu lb_X9_readNumber_38 (mo_i s1 13 0, lo, hi, 0) = some e → f_X9_readNumber s lo hi = some e := by
        intro e he
        unfold f_X9_readNumber
        simp only [e1, e0, i32_10, if_false, q12, q11]
        rw [if_neg (fun h => b h.symm), he]
      obtain ⟨⟨r, s'⟩, l1, y, y13, y12, yF, l2⟩ : ∃ e : Int32 × mo_S, pm_loop pm_fu lb_X9_readNumber_38 (mo_i s1 13 0, lo, hi, 0) = some e ∧ ∃ y : mo_S, (u - t ≤ 5 → y.1 13 = nI (tk_v x t (u - t))) ∧ y.1 12 = nI t ∧ rq [9, 12, 13] s y ∧
          e = (if u - t ≤ 5 then (if y.1 13 < lo ∨ hi < y.1 13 then (0, mo_i (mo_i y 14 2) 15 (nI t)) else (1, mo_i (mo_i y 9 (nI u)) 11 (nI u))) else (0, mo_i (mo_i y 14 1) 15 (nI t))) := by
        refine lp_for (u - t) (fun i y => y.2 = (lo, hi, nI i) ∧ (i ≤ 5 → y.1.1 13 = nI (tk_v x t i)) ∧ y.1.1 12 = nI t ∧ rq [9, 12, 13] s y.1) (by show u - t < 1000000; omega) ?_ ?_ ⟨rfl, fun _ => by show (mo_i s1 13 0).1 13 = _; rw [mo_i_1, if_pos rfl]; rfl, by show (mo_i s1 13 0).1 12 = _; rw [mo_i_1, if_neg (by decide)]; exact q12, (qF.mono (by decide)).trans (rq.i s1 0 (by decide))⟩
        · rintro i ⟨y, l⟩ hi' ⟨y1, y2, y3, y4⟩
          have YR := R.F y4 (by decide)
          have y1' : l = (lo, hi, nI i) := y1
          subst y1'
          have hk := hr (t + i) (by omega) (by omega)
          have lt := tk_dig (s := y) (k := t + i) YR
          rw [if_pos ⟨by omega, hk⟩] at lt
          have bb := tk_byte YR (show t + i < 2000 by omega)
          have y12 : y.1 12 = nI t := y3
          by_cases c5 : i < 5
          · refine ⟨(mo_i y 13 (((10 * y.1 13) + tk_b x len (t + i)) - 48), lo, hi, nI i + 1), ?_, by rw [nI_1], fun _ => ?_, ?_, y4.trans (rq.i y _ (by decide))⟩
            · unfold lb_X9_readNumber_38
              simp only [y12, nI_add, bb, lt, i32_10, if_false]
              rw [if_neg (show ¬ 5 ≤ nI i from fun h => absurd ((nI_leI (a := 5) (by omega) (by omega)).mp h) (by omega))]
            · show (mo_i y 13 _).1 13 = _
              rw [mo_i_1, if_pos rfl]
              have k4 := tk_k4 hk
              rw [show y.1 13 = nI (tk_v x t i) from y2 (by omega)]
              unfold tk_b
              rw [if_pos (show t + i < len by omega), show (10 : Int32) = nI 10 from rfl, show (48 : Int32) = nI 48 from rfl, nI_mul, nI_add, nI_sub (by omega)]
              show _ = nI (10 * tk_v x t i + (x (t + i) - 48))
              rw [Nat.add_sub_assoc (by omega)]
            · show (mo_i y 13 _).1 12 = _
              rw [mo_i_1, if_neg (by decide)]; exact y12
          · refine ⟨(mo_i y 13 (y.1 13), lo, hi, nI i + 1), ?_, by rw [nI_1], fun h => absurd h (by omega), ?_, y4.trans (rq.i y _ (by decide))⟩
            · unfold lb_X9_readNumber_38
              simp only [y12, nI_add, bb, lt, i32_10, if_false]
              rw [if_pos (show 5 ≤ nI i from (nI_leI (a := 5) (by omega) (by omega)).mpr (by omega))]
            · show (mo_i y 13 _).1 12 = _
              rw [mo_i_1, if_neg (by decide)]; exact y12
        · rintro ⟨y, l⟩ ⟨y1, y2, y3, y4⟩
          have YR := R.F y4 (by decide)
          have y1' : l = (lo, hi, nI (u - t)) := y1
          subst y1'
          have y12 : y.1 12 = nI t := y3
          have lt := tk_dig (s := y) (k := u) YR
          rw [if_neg (fun h => hn h.1 h.2)] at lt
          have bb := tk_byte YR (show u < 2000 by omega)
          refine ⟨_, ?_, y, y2, y12, y4, rfl⟩
          unfold lb_X9_readNumber_38
          have m9 : (mo_i y 9 (nI u)).1 9 = nI u := by rw [mo_i_1, if_pos rfl]
          simp only [y12, nI_add, show t + (u - t) = u by omega, bb, lt, if_true, in_v, fails_v, m9]
          by_cases c5 : u - t ≤ 5
          · rw [if_pos (show nI (u - t) ≤ 5 from (nI_leI (b := 5) (by omega) (by omega)).mpr c5), if_pos c5]
            by_cases d : y.1 13 < lo
            · rw [if_pos d, if_pos rfl, if_pos (show y.1 13 < lo ∨ hi < y.1 13 from .inl d)]
              rfl
            · rw [if_neg d]
              by_cases d' : hi < y.1 13
              · rw [if_pos d', if_pos rfl, if_pos (show y.1 13 < lo ∨ hi < y.1 13 from .inr d')]
                rfl
              · rw [if_neg d', if_neg (by decide), if_neg (fun h => h.elim d d')]
          · rw [if_neg (show ¬ nI (u - t) ≤ 5 from fun h => c5 ((nI_leI (b := 5) (by omega) (by omega)).mp h)), if_neg c5]
            rfl
      have st := start _ l1
      rw [l2] at st
      by_cases c5 : u - t ≤ 5
      · have hc4 : c = 4 := by omega
        rw [if_pos c5] at st
        rw [← y13 c5]
        by_cases d : y.1 13 < lo ∨ hi < y.1 13
        · rw [if_pos d] at st
          refine ⟨_, (yF.mono (by decide)).trans ((rq.i y 2 (by decide)).trans (rq.i _ (nI t) (by decide))), ?_, .inl ⟨hc4, d, st, ?_, ?_⟩⟩
          · rw [mo_i_1, if_neg (by decide), mo_i_1, if_neg (by decide)]; exact y12
          · rw [mo_i_1, if_neg (by decide), mo_i_1, if_pos rfl]
          · rw [mo_i_1, if_pos rfl]
        · rw [if_neg d] at st
          refine ⟨_, (yF.mono (by decide)).trans ((rq.i y (nI u) (by decide)).trans (rq.i _ (nI u) (by decide))), ?_, .inr (.inl ⟨hc4, fun h => d (.inl h), fun h => d (.inr h), st, ?_, ?_, ?_, ?_, ?_⟩)⟩
          · rw [mo_i_1, if_neg (by decide), mo_i_1, if_neg (by decide)]; exact y12
          · rw [mo_i_1, if_neg (by decide), mo_i_1, if_neg (by decide)]
          · rw [mo_i_1, if_neg (by decide), mo_i_1, if_pos rfl]
          · rw [mo_i_1, if_pos rfl]
          · rw [mo_i_1, if_neg (by decide), mo_i_1, if_neg (by decide)]; exact yF.2 14 (by decide)
          · rw [mo_i_1, if_neg (by decide), mo_i_1, if_neg (by decide)]; exact yF.2 15 (by decide)
      · rw [if_neg c5] at st
        exact bad y yF y12 (by omega) st
  · rw [if_neg a] at e0
    refine bad s1 (qF.mono (by decide)) q12 ?_ ?_
    · intro hc
      rcases T.2 with h | ⟨h0, h | h | h⟩
      · omega
      · omega
      · omega
      · rcases h.2.2.2 with h' | h'
        · omega
        · exact a ⟨h0.1, by omega⟩
    · unfold f_X9_readNumber
      simp only [e1, e0, if_true, q12, fails_v]
      rfl
