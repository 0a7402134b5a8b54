/-! The first operation leaves its queue. -/
theorem ab_ch_tl {nx : Nat → Int32} {f : Nat → Nat} {a : ab_O} {l : List ab_O} (h : ab_ch nx f (a :: l)) : ab_ch nx f l := by
  cases l with
  | nil => trivial
  | cons b l => exact h.2
theorem ab_getLast {a b : ab_O} {l : List ab_O} : (a :: b :: l).getLast (List.cons_ne_nil a (b :: l)) = (b :: l).getLast (List.cons_ne_nil b l) := List.getLast_cons _
/-- removeFirst, the program's class: what it writes -/
theorem rm_cls {s : cs_S} {A : ab_S} {q : Nat} {a : ab_O} {l : List ab_O} (hq : q < 42) (hl : A.2.1 q = a :: l) (ha : a.1 < 3248) (hL : (A.2.1 q).length < 3000) (H : ab_Cq A s q) : ∃ s', f_X3_removeFirst s (nI q) = some (nI a.1, s') ∧ s'.1 = s.1 ∧ s'.2.2 = s.2.2 ∧ ∀ P k, s'.2.1 P k = if P = 4 ∧ k = q then nI l.length else if P = 2 ∧ k = q then s.2.1 12 a.1 else s.2.1 P k := by
  have h4 : s.2.1 4 q = nI (l.length + 1) := by rw [H.1, hl]; rfl
  have h2 : s.2.1 2 q = nI a.1 := (H.2.1 a l hl).1
  rw [hl, List.length_cons] at hL
  have h0 : ¬ nI (l.length + 1) = 0 := nI_ne0 (by omega) (by omega)
  refine ⟨cs_a (cs_a s 2 (nI q) (s.2.1 12 a.1)) 4 (nI q) (nI l.length), ?_, rfl, rfl, ?_⟩
  · simp (disch := omega) only [f_X3_removeFirst, fc_X3_removeFirst_c1, nb_nI, nI_clamp, h4, h2, if_neg h0, ca_2]
    rw [if_neg (by omega), nI_pred]
  · intro P k
    simp (disch := omega) only [ca_2]
/-- removeFirst keeps the program's side -/
theorem ab_C_pop {S : Nat} {A : ab_S} {s : cs_S} {q : Nat} {a : ab_O} {l : List ab_O} (hq : q < 42) (hl : A.2.1 q = a :: l) (hU : ab_U A) (H : ab_C S A s) : ∃ s', f_X3_removeFirst s (nI q) = some (nI a.1, s') ∧ ab_C S (ab_q A q l) s' := by
  obtain ⟨U1, U2, U3, U4, U5, U6, U7⟩ := hU
  obtain ⟨H1, H2, H3, H4, H5, H6, H7⟩ := H
  have Q := H3 q hq
  obtain ⟨s', e1, e2, e3, e4⟩ := rm_cls hq hl (U3 q a hq (by rw [hl]; exact List.mem_cons_self)) (U4 q hq) Q
  have oth : ∀ P k, P ≠ 4 → P ≠ 2 → s'.2.1 P k = s.2.1 P k := fun P k h1 h2 => by
    rw [e4, if_neg (by omega), if_neg (by omega)]
  have othq : ∀ P k, k ≠ q → s'.2.1 P k = s.2.1 P k := fun P k h1 => by
    rw [e4, if_neg (by omega), if_neg (by omega)]
  refine ⟨s', e1, by rw [e2]; exact H1, by rw [e2]; exact H2, ?_, ?_, ?_, ?_, ?_⟩
  · intro q' hq'
    by_cases z : q' = q
    · subst z
      obtain ⟨h1, h2, h3, h4, h5, h6, h7⟩ := Q
      have eA : (ab_q A q' l).2.1 q' = l := if_pos rfl
      unfold ab_Cq
      rw [eA, e3]
      refine ⟨by rw [e4, if_pos ⟨rfl, rfl⟩], ?_, ?_, ?_, h5, h6, h7⟩
      · intro b l' hb
        subst hb
        rw [hl] at h3
        have g := h2 a (b :: l') hl
        refine ⟨?_, ?_⟩
        · rw [e4, if_neg (by omega), if_pos ⟨rfl, rfl⟩]
          exact h3.1
        · rw [oth 3 _ (by decide) (by decide), g.2, ab_getLast]
      · rw [hl] at h3
        exact ab_ch_eq _ (ab_ch_tl h3) (fun x hx => oth 12 _ (by decide) (by decide))
      · intro x hx
        rw [oth 11 _ (by decide) (by decide)]
        exact h4 x (by rw [hl]; exact List.mem_cons_of_mem _ hx)
    · have eA : (ab_q A q l).2.1 q' = A.2.1 q' := if_neg z
      have K := H3 q' hq'
      unfold ab_Cq at K ⊢
      rw [eA, e3, othq 4 q' z, othq 2 q' z, othq 3 q' z]
      refine ⟨K.1, K.2.1, ab_ch_eq _ K.2.2.1 (fun x hx => oth 12 _ (by decide) (by decide)), fun x hx => ?_, K.2.2.2.2⟩
      rw [oth 11 _ (by decide) (by decide)]
      exact K.2.2.2.1 x hx
  · intro d hd
    have := H4 d hd
    unfold ab_Cd at this ⊢
    rw [oth 14 d (by decide) (by decide), oth 15 d (by decide) (by decide), oth 16 d (by decide) (by decide), oth 17 d (by decide) (by decide)]
    exact this
  · intro t ht
    have := H5 t ht
    unfold ab_Ct at this ⊢
    rw [oth 27 _ (by decide) (by decide), oth 28 _ (by decide) (by decide), oth 29 _ (by decide) (by decide), oth 30 _ (by decide) (by decide), oth 18 _ (by decide) (by decide), oth 18 _ (by decide) (by decide), oth 18 _ (by decide) (by decide)]
    exact this
  · intro r hr hr'
    have := H6 r hr hr'
    unfold ab_Cr at this ⊢
    rw [oth 20 r (by decide) (by decide), oth 24 r (by decide) (by decide), oth 23 r (by decide) (by decide), oth 26 r (by decide) (by decide), oth 25 r (by decide) (by decide), oth 21 r (by decide) (by decide), oth 22 r (by decide) (by decide)]
    exact this
  · intro k hk
    have := H7 k hk
    unfold ab_Ch at this ⊢
    rw [oth 32 k (by decide) (by decide), oth 33 k (by decide) (by decide)]
    exact this
