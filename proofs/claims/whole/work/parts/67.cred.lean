/-! A reservation's part is given back: the program's side. -/
theorem lg_eq (x y : Int64) : lg_cmp x y = 0 ↔ x = y := by
  unfold lg_cmp
  by_cases h : x > y
  · rw [if_pos h]
    exact ⟨fun c => absurd c (by decide), fun c => absurd (c ▸ h : y > y) Int64.lt_irrefl⟩
  · rw [if_neg h]
    by_cases e : x = y
    · rw [if_pos e]
      exact ⟨fun _ => e, fun _ => rfl⟩
    · rw [if_neg e]
      exact ⟨fun c => absurd c (by decide), fun c => absurd c e⟩
/-- has the operation k of the list a reservation's tag? -/
def ab_any (l : List ab_O) (k : Nat) : Bool := l.any (fun a => decide (a.1 = k) && a.2.2.1.isSome)
theorem ab_any_cons (a : ab_O) (l : List ab_O) (k : Nat) : ab_any (a :: l) k = (decide (a.1 = k) && a.2.2.1.isSome || ab_any l k) := rfl
theorem ab_any_no {l : List ab_O} {k : Nat} (h : ∀ a, a ∈ l → a.1 ≠ k) : ab_any l k = false := by
  induction l with
  | nil => rfl
  | cons a l ih =>
    rw [ab_any_cons, ih (fun x hx => h x (List.mem_cons_of_mem _ hx)), decide_eq_false (h a List.mem_cons_self)]
    rfl
theorem cr_loop {q : Nat} {l2 st : Int32} (hq : q < 42) : ∀ (l : List ab_O) (s : cs_S) (fu : Nat) (at_ : Int32), l.length < fu → l.length < 3000 → (∀ a t, l = a :: t → at_ = nI a.1) → ab_ch (s.2.1 12) id l → (∀ a, a ∈ l → a.1 < 3248 ∧ s.2.2 8 a.1 = a.2.2.1.getD ab_no ∧ a.2.2.1 ≠ some ab_no) → (l.map (fun a => a.1)).Nodup → ∃ s', pm_loop fu lb_X3_credit_29 (s, nI q, l2, st, at_, nI l.length) = some s' ∧ s'.1 = s.1 ∧ s'.2.1 = s.2.1 ∧ ∀ P k, s'.2.2 P k = if P = 5 ∧ k = q then (if s.2.2 5 q = ab_no then ab_no else s.2.2 5 q - st.toInt64) else if P = 8 ∧ ab_any l k = true then s.2.2 8 k - st.toInt64 else s.2.2 P k
  | [], s, fu, at_, hfu, _, _, _, _, _ => by
    obtain ⟨fu, rfl⟩ : ∃ f, fu = f + 1 := ⟨fu - 1, by simp at hfu; omega⟩
    by_cases z : s.2.2 5 q = ab_no
    · refine ⟨s, lp_inr ?_, rfl, rfl, ?_⟩
      · have : lg_cmp (s.2.2 5 q) (-1152921504606846976) = 0 := (lg_eq _ _).mpr z
        simp (disch := omega) only [lb_X3_credit_29, List.length_nil, nI_0, nb_nI, nI_clamp, this]
        rfl
      · intro P k
        simp only [ab_any, List.any_nil, Bool.false_eq_true, and_false, if_false, if_pos z]
        by_cases y : P = 5 ∧ k = q
        · rw [if_pos y, y.1, y.2, z]
        · rw [if_neg y]
    · refine ⟨cs_l s 5 (nI q) (s.2.2 5 q - st.toInt64), lp_inr ?_, rfl, rfl, ?_⟩
      · have : ¬ lg_cmp (s.2.2 5 q) (-1152921504606846976) = 0 := fun c => z ((lg_eq _ _).mp c)
        simp (disch := omega) only [lb_X3_credit_29, List.length_nil, nI_0, nb_nI, nI_clamp, if_neg this]
        rfl
      · intro P k
        rw [cl_3 (by omega)]
        simp only [ab_any, List.any_nil, Bool.false_eq_true, and_false, if_false, if_neg z]
  | a :: l, s, fu, at_, hfu, hlen, hat, hch, hm, hnd => by
    obtain ⟨fu, rfl⟩ : ∃ f, fu = f + 1 := ⟨fu - 1, by simp at hfu; omega⟩
    have ha := hm a List.mem_cons_self
    have nd := List.nodup_cons.mp hnd
    have e0 : at_ = nI a.1 := hat a l rfl
    subst e0
    have hn0 : ¬ nI (l.length + 1) ≤ 0 := fun c => by
      have := (nI_leI (a := l.length + 1) (b := 0) (by simp at hlen; omega) (by decide)).mp c
      omega
    have hdec : nI (l.length + 1) + (-1) = nI l.length := by
      rw [nI_succ, Int32.add_assoc]
      show nI l.length + (1 + -1) = _
      rw [show (1 : Int32) + -1 = 0 by decide, Int32.add_zero]
    have hnx : ∀ b t, l = b :: t → s.2.1 12 a.1 = nI b.1 := fun b t h => by
      subst h
      exact hch.1
    have hne : ∀ x, x ∈ l → x.1 ≠ a.1 := fun x hx c => nd.1 (List.mem_map.mpr ⟨x, hx, c⟩)
    cases hr : a.2.2.1 with
    | none =>
      rw [hr] at ha
      have t0 : f_X3_hasTagR s (nI a.1) = some 0 := by
        have : lg_cmp (s.2.2 8 a.1) (-1152921504606846976) = 0 := (lg_eq _ _).mpr ha.2.1
        simp (disch := omega) only [f_X3_hasTagR, nb_nI, nI_clamp, this, if_true]
      obtain ⟨s', e1, e2, e3, e4⟩ := cr_loop hq l s fu (s.2.1 12 a.1) (by simp at hfu; omega) (by simp at hlen; omega) hnx (ab_ch_tl hch) (fun x hx => hm x (List.mem_cons_of_mem _ hx)) nd.2
      refine ⟨s', ?_, e2, e3, ?_⟩
      · rw [lp_inl (x' := (s, nI q, l2, st, s.2.1 12 a.1, nI l.length))]
        · exact e1
        · simp (disch := omega) only [lb_X3_credit_29, List.length_cons, if_neg hn0, t0, nb_nI, nI_clamp, hdec, if_true]
      · intro P k
        rw [e4, ab_any_cons, hr]
        simp
    | some y =>
      rw [hr] at ha
      have hy : ¬ s.2.2 8 a.1 = ab_no := fun c => ha.2.2 (by rw [ha.2.1] at c; rw [← c]; rfl)
      have t0 : f_X3_hasTagR s (nI a.1) = some 1 := by
        have : ¬ lg_cmp (s.2.2 8 a.1) (-1152921504606846976) = 0 := fun c => hy ((lg_eq _ _).mp c)
        simp (disch := omega) only [f_X3_hasTagR, nb_nI, nI_clamp, if_neg this]
      obtain ⟨s', e1, e2, e3, e4⟩ := cr_loop hq l (cs_l s 8 (nI a.1) (s.2.2 8 a.1 - st.toInt64)) fu (s.2.1 12 a.1) (by simp at hfu; omega) (by simp at hlen; omega) hnx (ab_ch_tl hch) (fun x hx => by
        have g := hm x (List.mem_cons_of_mem _ hx)
        rw [cl_3 (by omega), if_neg (fun c => hne x hx c.2)]
        exact g) nd.2
      refine ⟨s', ?_, e2, e3, ?_⟩
      · rw [lp_inl (x' := (cs_l s 8 (nI a.1) (s.2.2 8 a.1 - st.toInt64), nI q, l2, st, s.2.1 12 a.1, nI l.length))]
        · exact e1
        · simp (disch := omega) only [lb_X3_credit_29, List.length_cons, if_neg hn0, t0, nb_nI, nI_clamp, hdec, cs_l_2]
          rfl
      · intro P k
        have e5 : (cs_l s 8 (nI a.1) (s.2.2 8 a.1 - st.toInt64)).2.2 5 q = s.2.2 5 q := by rw [cl_3 (by omega), if_neg (by omega)]
        rw [e4, ab_any_cons, hr, e5, cl_3 (by omega), cl_3 (by omega)]
        by_cases z : P = 5 ∧ k = q
        · rw [if_pos z, if_pos z]
        · rw [if_neg z, if_neg z]
          by_cases w : k = a.1
          · subst w
            rw [ab_any_no hne]
            by_cases u : P = 8
            · subst u; simp
            · simp [u]
          · by_cases u : P = 8
            · subst u
              have w' : ¬ a.1 = k := fun c => w c.symm
              simp [w, w']
            · simp [u]
