/-! Append between the two programs, the program's side whole. -/
/-- operations of different queues differ, none is twice in a queue, numbers and lengths are in range, what is served isn't queued, no two disks serve the same -/
def ab_U (A : ab_S) : Prop := (∀ q q' a a', q < 42 → q' < 42 → a ∈ A.2.1 q → a' ∈ A.2.1 q' → a.1 = a'.1 → q = q') ∧ (∀ q, q < 42 → ((A.2.1 q).map (fun a => a.1)).Nodup) ∧ (∀ q a, q < 42 → a ∈ A.2.1 q → a.1 < 3248) ∧ (∀ q, q < 42 → (A.2.1 q).length < 3000) ∧ (∀ d c q a, d < 7 → q < 42 → A.2.2.2 d = some c → a ∈ A.2.1 q → a.1 ≠ c) ∧ (∀ d d' c, d < 7 → d' < 7 → A.2.2.2 d = some c → A.2.2.2 d' = some c → d = d') ∧ (∀ d c, d < 7 → A.2.2.2 d = some c → c < 3248)
theorem ab_C_app {S : Nat} {A : ab_S} {s4 s : cs_S} {p : Nat → Int32} {q c n : Nat} {due : Int32} (hn : A.1 0 0 0 = nI n) (hn' : n ≤ 100000) (hq : q < 42) (hc : c < 3248) (hU : ab_U A) (hf : ∀ q' a, q' < 42 → a ∈ A.2.1 q' → a.1 ≠ c) (p1 : s4.2.1 1 (q % 6) = p (8 + 3 * (q % 6))) (p2 : s4.2.1 2 (q % 6) = p (8 + 3 * (q % 6) + 1)) (p3 : s4.2.1 3 (q % 6) = p (8 + 3 * (q % 6) + 2)) (hw0 : ¬ p (8 + 3 * (q % 6) + 1) ≤ 0) (H : ab_C S A s) : ∃ s', f_X3_append s4 s (nI q) (nI c) due (s.1 0 4) = some s' ∧ ab_C S (ab_app p A q (q % 6) c due) s' := by
  obtain ⟨U1, U2, U3, U4, U5, U6, U7⟩ := hU
  obtain ⟨H1, H2, H3, H4, H5, H6, H7⟩ := H
  have Q := H3 q hq
  obtain ⟨e, he⟩ : ∃ e : Nat, ∀ a, (A.2.1 q).getLast? = some a → a.1 = e := by
    cases hl : (A.2.1 q).getLast? with
    | none => exact ⟨0, fun a h => by cases h⟩
    | some x => exact ⟨x.1, fun a h => by rw [Option.some.inj h]⟩
  have hE : (A.2.1 q).length ≠ 0 → s.2.1 3 q = nI e ∧ e < 3248 := by
    intro h
    cases hl : A.2.1 q with
    | nil => rw [hl] at h; exact absurd rfl h
    | cons a l =>
      have g : (A.2.1 q).getLast? = some ((a :: l).getLast (List.cons_ne_nil a l)) := by
        rw [hl]
        exact List.getLast?_eq_some_getLast (List.cons_ne_nil a l)
      have k := he _ g
      refine ⟨by rw [(Q.2.1 a l hl).2, k], ?_⟩
      rw [← k]
      exact U3 q _ hq (List.mem_of_getLast? g)
  obtain ⟨s', h1, h2⟩ := ap_cls (s4 := s4) (s := s) (q := q) (c := c) (L := (A.2.1 q).length) (e := e) (n := n) (due := due) (xr := A.2.2.1 q 0) (xp := A.2.2.1 q 1) (x := A.2.2.1 q 2) hn' hq hc Q.1 (by have := U4 q hq; omega) hE p1 p2 hw0 p3 Q.2.2.2.2.1 Q.2.2.2.2.2.1 Q.2.2.2.2.2.2
  refine ⟨s', by rw [H1.1, hn]; exact h1, ?_⟩
  have oth := ap_oth h2
  rw [← hn] at h2
  refine ⟨by rw [h2.1]; exact H1, by rw [h2.1]; exact H2, ?_, ?_, ?_, ?_, ?_⟩
  · intro q' hq'
    by_cases c' : q' = q
    · subst c'
      refine ap_Co h2 rfl ?_ ?_ ?_ ?_ (fun a ha => hf q' a hq ha) he (U2 q' hq) Q
      · show (if q' = q' then _ else _) = _
        rw [if_pos rfl]
        by_cases z : p (8 + 3 * (q' % 6) + 2) ≤ 0
        · simp only [if_pos z, Option.getD_none]
        · simp only [if_neg z, Option.getD_some]
      · by_cases z : p (8 + 3 * (q' % 6)) ≤ 0
        · simp [ab_app, z]
        · simp [ab_app, z]
      · simp [ab_app]
      · by_cases z : p (8 + 3 * (q' % 6) + 2) ≤ 0
        · simp [ab_app, z]
        · simp [ab_app, z]
    · refine ap_Cq h2 c' (if_neg c') (fun w => ?_) (fun a ha => hf q' a hq' ha) (fun hL a ha k => ?_) (H3 q' hq')
      · simp [ab_app, c']
      · cases hl : (A.2.1 q).getLast? with
        | none => exact hL (by rw [List.getLast?_eq_none_iff.mp hl]; rfl)
        | some x =>
          have k2 := he x hl
          exact c' (U1 q' q a x hq' hq ha (List.mem_of_getLast? hl) (k.trans k2.symm))
  · intro d hd
    have := H4 d hd
    unfold ab_Cd at this ⊢
    rw [oth 14 d (by decide) (by decide) (by decide) (by decide) (by decide), oth 15 d (by decide) (by decide) (by decide) (by decide) (by decide), oth 16 d (by decide) (by decide) (by decide) (by decide) (by decide), oth 17 d (by decide) (by decide) (by decide) (by decide) (by decide)]
    exact this
  · intro t ht
    have := H5 t ht
    unfold ab_Ct at this ⊢
    simp only [oth _ _ (show (27 : Nat) ≠ 2 by decide) (show (27 : Nat) ≠ 3 by decide) (show (27 : Nat) ≠ 4 by decide) (show (27 : Nat) ≠ 11 by decide) (show (27 : Nat) ≠ 12 by decide), oth _ _ (show (28 : Nat) ≠ 2 by decide) (show (28 : Nat) ≠ 3 by decide) (show (28 : Nat) ≠ 4 by decide) (show (28 : Nat) ≠ 11 by decide) (show (28 : Nat) ≠ 12 by decide), oth _ _ (show (29 : Nat) ≠ 2 by decide) (show (29 : Nat) ≠ 3 by decide) (show (29 : Nat) ≠ 4 by decide) (show (29 : Nat) ≠ 11 by decide) (show (29 : Nat) ≠ 12 by decide), oth _ _ (show (30 : Nat) ≠ 2 by decide) (show (30 : Nat) ≠ 3 by decide) (show (30 : Nat) ≠ 4 by decide) (show (30 : Nat) ≠ 11 by decide) (show (30 : Nat) ≠ 12 by decide), oth _ _ (show (18 : Nat) ≠ 2 by decide) (show (18 : Nat) ≠ 3 by decide) (show (18 : Nat) ≠ 4 by decide) (show (18 : Nat) ≠ 11 by decide) (show (18 : Nat) ≠ 12 by decide)]
    exact this
  · intro r hr hr'
    have := H6 r hr hr'
    unfold ab_Cr at this ⊢
    rw [oth 20 r (by decide) (by decide) (by decide) (by decide) (by decide), oth 24 r (by decide) (by decide) (by decide) (by decide) (by decide), oth 23 r (by decide) (by decide) (by decide) (by decide) (by decide), oth 26 r (by decide) (by decide) (by decide) (by decide) (by decide), oth 25 r (by decide) (by decide) (by decide) (by decide) (by decide), oth 21 r (by decide) (by decide) (by decide) (by decide) (by decide), oth 22 r (by decide) (by decide) (by decide) (by decide) (by decide)]
    exact this
  · intro k hk
    have := H7 k hk
    unfold ab_Ch at this ⊢
    rw [oth 32 k (by decide) (by decide) (by decide) (by decide) (by decide), oth 33 k (by decide) (by decide) (by decide) (by decide) (by decide)]
    exact this
