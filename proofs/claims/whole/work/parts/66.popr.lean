/-! The first operation leaves its queue, the reference's side. -/
theorem nI_nm {r : Nat} (h : r < 2 ^ 31) : ¬ nI r = -1 := fun e => by
  have := congrArg Int32.toInt e
  rw [nI_toInt h, show (-1 : Int32).toInt = -1 from rfl] at this
  omega
/-- what removeFirst writes -/
theorem rm_ref {s : mo_S} {A : ab_S} {W : Nat → Nat} {q : Nat} {a : ab_O} {l : List ab_O} (hq : q < 42) (hl : A.2.1 q = a :: l) (hW : ∀ x, x ∈ A.2.1 q → W x.1 < 2200) (H : ab_Rq A s W q) : ∃ s', f_X9_removeFirst s (nI q) = some s' ∧ rf_F s s' ∧ (∀ g i w, vn s' g i w = if g = 2 ∧ i = q ∧ w = 1 ∧ l = [] then -1 else if g = 2 ∧ i = q ∧ w = 2 then nI l.length else if g = 2 ∧ i = q ∧ w = 0 then vn s 7 (W a.1) 5 else vn s g i w) ∧ (∀ i w, vt s' i w = vt s i w) ∧ (∀ i w, vq s' i w = vq s i w) := by
  obtain ⟨h1, h2, h3, h4, h5⟩ := H
  rw [hl] at h2 h3
  have ha : W a.1 < 2200 := hW a (by rw [hl]; exact List.mem_cons_self)
  rw [hl, List.length_cons] at h1
  obtain ⟨s1, c1, F1, n1, t1, q1⟩ := rf_setQ (s := s) (q := q) (w := 0) (v := vn s 7 (W a.1) 5) hq (by decide)
  have c1' : f_X9_setQueue s (nI q) 0 (vn s 7 (W a.1) 5) = some s1 := c1
  obtain ⟨s2, c2, F2, n2, t2, q2⟩ := rf_setQ (s := s1) (q := q) (w := 2) (v := nI l.length) hq (by decide)
  have c2' : f_X9_setQueue s1 (nI q) 2 (nI l.length) = some s2 := c2
  have k2 : vn s1 2 q 2 = nI (l.length + 1) := by rw [n1, if_neg (by omega), h1]
  have k5 : vn s2 7 (W a.1) 5 = vn s 7 (W a.1) 5 := by rw [n2, if_neg (by omega), n1, if_neg (by omega)]
  cases l with
  | nil =>
    have e5 : vn s 7 (W a.1) 5 = -1 := h2.2.2
    obtain ⟨s3, c3, F3, n3, t3, q3⟩ := rf_setQ (s := s2) (q := q) (w := 1) (v := -1) hq (by decide)
    have c3' : f_X9_setQueue s2 (nI q) 1 (-1) = some s3 := c3
    refine ⟨s3, ?_, (F1.trans F2).trans F3, ?_, fun i w => by rw [t3, t2, t1], fun i w => by rw [q3, q2, q1]⟩
    · unfold f_X9_removeFirst
      simp only [ofQueue_0 s hq, h2.1, of_5 s ha, c1', ofQueue_2 s1 hq, k2, nI_pred, c2', of_5 s2 ha, k5]
      rw [if_pos e5]
      simp only [c3']
    · intro g i w
      rw [n3, n2, n1]
      simp only [and_true]
  | cons b l =>
    have hb : W b.1 < 2200 := hW b (by rw [hl]; exact List.mem_cons_of_mem _ List.mem_cons_self)
    have e5 : ¬ vn s 7 (W a.1) 5 = -1 := by
      have : vn s 7 (W a.1) 5 = nI (W b.1) := h3.1
      rw [this]
      exact nI_nm (by omega)
    refine ⟨s2, ?_, F1.trans F2, ?_, fun i w => by rw [t2, t1], fun i w => by rw [q2, q1]⟩
    · unfold f_X9_removeFirst
      simp only [ofQueue_0 s hq, h2.1, of_5 s ha, c1', ofQueue_2 s1 hq, k2, nI_pred, c2', of_5 s2 ha, k5, if_neg e5]
    · intro g i w
      rw [n2, n1]
      simp only [reduceCtorEq, and_false, if_false]
/-- removeFirst keeps the reference's side; the operation lies apart -/
theorem ab_R_pop {D : Nat} {A : ab_S} {s : mo_S} {W : Nat → Nat} {F : List Nat} {q : Nat} {a : ab_O} {l : List ab_O} (hq : q < 42) (hl : A.2.1 q = a :: l) (H : ab_R D A s W F) : ∃ s', f_X9_removeFirst s (nI q) = some s' ∧ rf_F s s' ∧ ab_R D (ab_q A q l) s' W F ∧ ab_Ro D A s' W a.1 ∧ (∀ g i w, g ≠ 2 → vn s' g i w = vn s g i w) := by
  obtain ⟨R1, R2, R3, R4, R5, R6, R7, R8, R9, R10, R11, R12, R13, R14⟩ := H
  have L : ∀ q a, q < 42 → a ∈ A.2.1 q → ab_live A a.1 := fun q a h1 h2 => .inl ⟨q, h1, a, h2, rfl⟩
  obtain ⟨s', e1, e2, e3, e4, e5⟩ := rm_ref (W := W) hq hl (fun x hx => (R10 _ (L _ _ hq hx)).1) (R4 q hq)
  have oth : ∀ g i w, g ≠ 2 → vn s' g i w = vn s g i w := fun g i w h => by
    rw [e3, if_neg (by omega), if_neg (by omega), if_neg (by omega)]
  have othq : ∀ i w, i ≠ q → vn s' 2 i w = vn s 2 i w := fun i w h => by
    rw [e3, if_neg (by omega), if_neg (by omega), if_neg (by omega)]
  have lv : ∀ y, ab_live (ab_q A q l) y → ab_live A y := by
    intro y h
    rcases h with ⟨q', hq', x, hx, hy⟩ | h
    · by_cases z : q' = q
      · subst z
        rw [show (ab_q A q' l).2.1 q' = l from if_pos rfl] at hx
        exact .inl ⟨q', hq', x, by rw [hl]; exact List.mem_cons_of_mem _ hx, hy⟩
      · rw [show (ab_q A q l).2.1 q' = A.2.1 q' from if_neg z] at hx
        exact .inl ⟨q', hq', x, hx, hy⟩
    · exact .inr h
  have ro : ∀ y, ab_live A y → ab_Ro D A s' W y := fun y hy => by
    have := R10 y hy
    unfold ab_Ro at this ⊢
    rw [oth 7 _ _ (by decide), oth 7 _ _ (by decide), oth 7 _ _ (by decide), oth 7 _ _ (by decide)]
    exact this
  have nxe : (fun o => vn s' 7 o 5) = (fun o => vn s 7 o 5) := by
    funext o
    exact oth 7 o 5 (by decide)
  refine ⟨s', e1, e2, ⟨fun w hw => ?_, ?_, ?_, ?_, ?_, ?_, ?_, ?_, ?_, fun y hy => ro y (lv y hy), fun y z hy hz => R11 y z (lv y hy) (lv z hz), ?_, R13, fun y hy => R14 y (lv y hy)⟩, ro _ (L q a hq (by rw [hl]; exact List.mem_cons_self)), oth⟩
  · rw [oth 0 _ _ (by decide)]; exact R1 w hw
  · rw [oth 0 _ _ (by decide)]; exact R2
  · rw [oth 0 _ _ (by decide)]; exact R3
  · intro q' hq'
    by_cases z : q' = q
    · subst z
      obtain ⟨h1, h2, h3, h4, h5⟩ := R4 q' hq
      rw [hl] at h2 h3 h4
      unfold ab_Rq
      rw [show (ab_q A q' l).2.1 q' = l from if_pos rfl, nxe]
      refine ⟨by rw [e3, if_neg (by omega), if_pos ⟨rfl, rfl, rfl⟩], ?_, ab_ch_tl h3, ?_, ?_⟩
      · cases l with
        | nil =>
          refine ⟨?_, by rw [e3, if_pos ⟨rfl, rfl, rfl, rfl⟩]⟩
          rw [e3, if_neg (by omega), if_neg (by omega), if_pos ⟨rfl, rfl, rfl⟩]
          exact h2.2.2
        | cons b l =>
          have g : vn s 2 q' 1 = nI (W ((a :: b :: l).getLast (List.cons_ne_nil _ _)).1) ∧ vn s 7 (W ((a :: b :: l).getLast (List.cons_ne_nil _ _)).1) 5 = -1 := h2.2
          rw [ab_getLast] at g
          refine ⟨?_, ?_, ?_⟩
          · rw [e3, if_neg (by omega), if_neg (by omega), if_pos ⟨rfl, rfl, rfl⟩]
            exact h3.1
          · rw [e3, if_neg (fun x => by cases x.2.2.2), if_neg (by omega), if_neg (by omega)]
            exact g.1
          · rw [oth 7 _ _ (by decide)]
            exact g.2
      · intro x hx
        rw [oth 7 _ _ (by decide), oth 7 _ _ (by decide), e4, e4, e4]
        exact h4 x (List.mem_cons_of_mem _ hx)
      · intro w hw
        rw [e5, e3, if_neg (by omega), if_neg (by omega), if_neg (by omega)]
        exact h5 w hw
    · have K := R4 q' hq'
      unfold ab_Rq at K ⊢
      rw [show (ab_q A q l).2.1 q' = A.2.1 q' from if_neg z, nxe]
      simp only [othq q' _ z, oth 7 _ _ (show (7 : Nat) ≠ 2 by decide), e4, e5]
      exact K
  · intro d hd
    rw [oth 1 _ _ (by decide), oth 1 _ _ (by decide), oth 1 _ _ (by decide), oth 1 _ _ (by decide)]
    exact R5 d hd
  · intro d k h1 h2
    rw [oth 3 _ _ (by decide)]; exact R6 d k h1 h2
  · intro k h1
    rw [oth 4 _ _ (by decide)]; exact R7 k h1
  · intro r w h1 h2 h3
    rw [oth 5 _ _ (by decide)]; exact R8 r w h1 h2 h3
  · intro t w h1 h2
    rw [oth 6 _ _ (by decide)]; exact R9 t w h1 h2
  · rw [nxe, oth 0 _ _ (by decide)]
    exact R12
