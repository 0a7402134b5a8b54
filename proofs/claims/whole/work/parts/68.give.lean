/-! A reservation's part is given back: the reference's loop. -/
def ab_anyW (W : Nat → Nat) (l : List ab_O) (k : Nat) : Bool := l.any (fun a => decide (W a.1 = k) && a.2.2.1.isSome)
theorem ab_anyW_cons (W : Nat → Nat) (a : ab_O) (l : List ab_O) (k : Nat) : ab_anyW W (a :: l) k = (decide (W a.1 = k) && a.2.2.1.isSome || ab_anyW W l k) := rfl
theorem ab_anyW_no {W : Nat → Nat} {l : List ab_O} {k : Nat} (h : ∀ a, a ∈ l → W a.1 ≠ k) : ab_anyW W l k = false := by
  induction l with
  | nil => rfl
  | cons a l ih =>
    rw [ab_anyW_cons, ih (fun x hx => h x (List.mem_cons_of_mem _ hx)), decide_eq_false (h a List.mem_cons_self)]
    rfl
theorem ix_6600 (q : Nat) : ((6600 : Int32) + 3 * nI q) + 0 = nI (6600 + 3 * q + 0) := ix_of 6600 3 q 0
theorem gb_loop {q : Nat} {l2 : Int32} {st : Int64} {W : Nat → Nat} {x : Option Int64} (hq : q < 42) : ∀ (l : List ab_O) (s : mo_S) (fu : Nat) (at_ : Int32), l.length < fu → (l = [] → at_ = -1) → (∀ a t, l = a :: t → at_ = nI (W a.1)) → ab_ch (fun o => vn s 7 o 5) W l → (∀ a, l.getLast? = some a → vn s 7 (W a.1) 5 = -1) → (∀ a, a ∈ l → W a.1 < 2200 ∧ vn s 7 (W a.1) 6 = if a.2.2.1.isSome = true then 1 else 0) → (l.map (fun a => W a.1)).Nodup → (vn s 2 q 3 = if x.isSome = true then 1 else 0) → ∃ s', pm_loop fu lb_X9_giveBack_25 (s, nI q, l2, st, at_) = some s' ∧ rf_F s s' ∧ (∀ g i w, vn s' g i w = vn s g i w) ∧ (∀ i w, vt s' i w = if w = 0 ∧ ab_anyW W l i = true then vt s i 0 - st else vt s i w) ∧ (∀ i w, vq s' i w = if i = q ∧ w = 0 ∧ x.isSome = true then vq s q 0 - st else vq s i w)
  | [], s, fu, at_, hfu, h0, _, _, _, _, _, hf => by
    obtain ⟨fu, rfl⟩ : ∃ f, fu = f + 1 := ⟨fu - 1, by simp at hfu; omega⟩
    have e0 := h0 rfl
    subst e0
    have b0 : pm_inb (nI (6600 + 3 * q + 0)) 6726 = true := nb_nI (by omega) (by decide)
    cases x with
    | none =>
      have hf' : ¬ vn s 2 q 3 = 1 := by rw [hf]; decide
      refine ⟨s, lp_inr ?_, rf_F.rfl' s, fun _ _ _ => rfl, fun i w => ?_, fun i w => ?_⟩
      · simp only [lb_X9_giveBack_25, if_true, ofQueue_3 s hq, if_neg hf']
      · simp [ab_anyW]
      · simp
    | some y =>
      have hf' : vn s 2 q 3 = 1 := hf
      have hv : s.2.2.2 5 (6600 + 3 * q + 0) = vq s q 0 := by
        unfold vq
        rw [if_pos ⟨hq, by decide⟩]
      refine ⟨uq s q 0 (vq s q 0 - st), lp_inr ?_, rf_F.uq _ _ _ _, fun _ _ _ => rfl, fun i w => ?_, fun i w => ?_⟩
      · simp only [lb_X9_giveBack_25, if_true, ofQueue_3 s hq, if_pos hf', ix_6600, b0]
        rw [nI_clamp (by omega), hv]
        rfl
      · rw [vt_uq hq (by decide)]
        simp [ab_anyW]
      · rw [vq_uq hq (by decide)]
        simp
  | a :: l, s, fu, at_, hfu, _, hat, hch, hlast, hm, hnd, hf => by
    obtain ⟨fu, rfl⟩ : ∃ f, fu = f + 1 := ⟨fu - 1, by simp at hfu; omega⟩
    have ha := hm a List.mem_cons_self
    have nd := List.nodup_cons.mp hnd
    have e0 : at_ = nI (W a.1) := hat a l rfl
    subst e0
    have hn1 : ¬ nI (W a.1) = -1 := nI_nm (by omega)
    have hnx : ∀ b t, l = b :: t → vn s 7 (W a.1) 5 = nI (W b.1) := fun b t h => by
      subst h
      exact hch.1
    have hnil : l = [] → vn s 7 (W a.1) 5 = -1 := fun h => by
      subst h
      exact hlast a rfl
    have hl' : ∀ b, l.getLast? = some b → vn s 7 (W b.1) 5 = -1 := fun b hb => by
      cases l with
      | nil => cases hb
      | cons c l => exact hlast b (by rw [List.getLast?_cons_cons]; exact hb)
    have hne : ∀ y, y ∈ l → W y.1 ≠ W a.1 := fun y hy c => nd.1 (List.mem_map.mpr ⟨y, hy, c⟩)
    cases hr : a.2.2.1 with
    | none =>
      rw [hr] at ha
      have t0 : ¬ vn s 7 (W a.1) 6 = 1 := by rw [ha.2]; decide
      obtain ⟨s', e1, e2, e3, e4, e5⟩ := gb_loop (l2 := l2) (st := st) hq l s fu (vn s 7 (W a.1) 5) (by simp at hfu; omega) hnil hnx (ab_ch_tl hch) hl' (fun y hy => hm y (List.mem_cons_of_mem _ hy)) nd.2 hf
      refine ⟨s', ?_, e2, e3, ?_, e5⟩
      · rw [lp_inl (x' := (s, nI q, l2, st, vn s 7 (W a.1) 5))]
        · exact e1
        · simp only [lb_X9_giveBack_25, if_neg hn1, of_6 s ha.1, if_neg t0, of_5 s ha.1]
      · intro i w
        rw [e4, ab_anyW_cons, hr]
        simp
    | some y =>
      rw [hr] at ha
      have t0 : vn s 7 (W a.1) 6 = 1 := ha.2
      have hv : s.2.2.2 5 (3 * W a.1 + 0) = vt s (W a.1) 0 := by
        unfold vt
        rw [if_pos ⟨ha.1, by decide⟩]
      have i0 : ((3 : Int32) * nI (W a.1)) + 0 = nI (3 * W a.1 + 0) := ix_3 (W a.1) 0
      have b0 : pm_inb (nI (3 * W a.1 + 0)) 6726 = true := nb_nI (by omega) (by decide)
      obtain ⟨s1, c1, F1, n1, t1, q1⟩ := rf_st (s := s) (o := W a.1) (w := 0) (v := vt s (W a.1) 0 - st) ha.1 (by decide)
      have nxe : (fun o => vn s1 7 o 5) = (fun o => vn s 7 o 5) := by
        funext o
        exact n1 7 o 5
      obtain ⟨s', e1, e2, e3, e4, e5⟩ := gb_loop (l2 := l2) (st := st) hq l s1 fu (vn s 7 (W a.1) 5) (by simp at hfu; omega) hnil hnx (by rw [nxe]; exact ab_ch_tl hch) (fun b hb => by rw [n1]; exact hl' b hb) (fun y hy => by rw [n1]; exact hm y (List.mem_cons_of_mem _ hy)) nd.2 (by rw [n1]; exact hf)
      refine ⟨s', ?_, F1.trans e2, fun g i w => (e3 g i w).trans (n1 g i w), ?_, fun i w => by rw [e5, q1, q1]⟩
      · rw [lp_inl (x' := (s1, nI q, l2, st, vn s 7 (W a.1) 5))]
        · exact e1
        · simp only [lb_X9_giveBack_25, if_neg hn1, of_6 s ha.1, if_pos t0, i0, b0]
          rw [nI_clamp (by omega), hv, c1, of_5 s1 ha.1, n1]
      · intro i w
        rw [e4, ab_anyW_cons, hr, t1, t1]
        by_cases z : i = W a.1
        · subst z
          rw [ab_anyW_no hne]
          by_cases u : w = 0
          · subst u; simp
          · simp [u]
        · have z' : ¬ W a.1 = i := fun c => z c.symm
          simp [z, z']
