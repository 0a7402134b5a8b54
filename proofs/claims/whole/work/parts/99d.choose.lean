/-- choose, both programs -/
theorem ab_ch2 {D S T m n N d : Nat} {f : Option Nat} {p : Nat → Int32} {A : ab_S} {L : Nat → Bool} {W : Nat → Nat} {F : List Nat} {s4 s5 : cs_S} {s : mo_S} (hd : d ≤ D) (hi : A.2.2.2 d = none) (hN : N + 1 ≤ 1000000000000) (H : ab_J D S T m n N p A L W F s4 s5 s) (V : ab_V D S m f A L) :
    ∃ s5' s' A', f_X1_choose s4 s5 (nI d) = some s5' ∧ f_X9_choose s (nI d) = some s' ∧ rf_F s s' ∧ ab_J D S T m n (N + 1) p A' L W F s4 s5' s' ∧ ab_V D S m f A' L ∧ ab_cf A A' d ∧ (∀ c, A'.2.2.2 d = some c → A'.1 1 d 1 ≠ nI n) ∧ ((∀ w t, w < 3 → t < T → ab_cd p A d w t = none) → A' = A ∧ s' = s) ∧ (A'.2.2.2 d = none → A' = A ∧ ∀ w t, w < 3 → t < T → ab_cd p A d w t = none) := by
  have H' := H
  obtain ⟨hP, hp, hs, hC, hR, hB, hF⟩ := H
  have hD := hp.2.2.2.2.1
  have hT := hp.2.2.2.2.2.2.2.2.1
  have k14 : s5.2.1 14 d = -1 := by rw [(hC.2.2.2.1 d (by omega)).1, hi]
  have beN : ∀ {c : Nat → Option Int64} (i : Nat), (∀ t, t < i → c t = none) → ab_be c i = none := by
    intro c i
    induction i with
    | zero => exact fun _ => rfl
    | succ i ih =>
      intro h
      show (match c i with | none => ab_be c i | some r => _) = none
      rw [h i (by omega)]
      exact ih (fun t ht => h t (by omega))
  have beS : ∀ {c : Nat → Option Int64} (i : Nat), ab_be c i = none → ∀ t, t < i → c t = none := by
    intro c i
    induction i with
    | zero => exact fun _ t ht => absurd ht (by omega)
    | succ i ih =>
      intro h t ht
      have h' : (match c i with | none => ab_be c i | some r => match ab_be c i with | none => some (i, r) | some (b, l) => if r < l then some (i, r) else some (b, l)) = none := h
      cases hc : c i with
      | none =>
        rw [hc] at h'
        by_cases z : t = i
        · rw [z]
          exact hc
        · exact ih h' t (by omega)
      | some r =>
        rw [hc] at h'
        simp only [] at h'
        split at h'
        · cases h'
        · split at h' <;> cases h'
  unfold f_X1_choose f_X9_choose
  rw [nb_nI (by omega) (by decide), nI_clamp (by omega), k14]
  simp only [if_true]
  obtain ⟨e, e', h1, h2, Fs, A', J', V', cf, ut, no, no'⟩ := lp2_wh (Q := fun e e' => rf_F s e' ∧ ∃ A', ab_J D S T m n (N + 1) p A' L W F s4 e e' ∧ ab_V D S m f A' L ∧ ab_cf A A' d ∧ (∀ c, A'.2.2.2 d = some c → A'.1 1 d 1 ≠ nI n) ∧ ((∀ w t, w < 3 → t < T → ab_cd p A d w t = none) → A' = A ∧ e' = s) ∧ (A'.2.2.2 d = none → A' = A ∧ ∀ w t, w < 3 → t < T → ab_cd p A d w t = none)) (B := lb_X1_choose_16 s4) (B' := lb_X9_choose_2) (fun mm x y => ∃ w, w + mm = 3 ∧ x = (s5, nI d, nI w) ∧ y = (s, nI d, nI w) ∧ ∀ w' t, w' < w → t < T → ab_cd p A d w' t = none) (by
    rintro mm x y ⟨w, hw, rfl, rfl, hno⟩
    unfold lb_X1_choose_16 lb_X9_choose_2
    have l3 : (3 : Int32) ≤ nI w ↔ 3 ≤ w := nI_leI (a := 3) (by decide) (by omega)
    by_cases u : 3 ≤ w
    · simp only [if_pos (l3.mpr u)]
      exact .inr ⟨s5, s, rfl, rfl, rf_F.rfl' s, A, H'.up (Nat.le_succ N) hN, V, ⟨fun _ _ _ _ _ => rfl, fun _ _ => rfl⟩, (fun c hc => by rw [hi] at hc; cases hc), fun _ => ⟨rfl, rfl⟩, fun _ => ⟨rfl, fun w' t h1 h2 => hno w' t (by omega) h2⟩⟩
    · have bc := ab_best_C hp hP (show d < 7 by omega) (show w < 3 by omega) hB hC
      have br := ab_best_R hp hs (show d < 7 by omega) (show w < 3 by omega) hR
      simp only [if_neg (fun h => u (l3.mp h)), nI_1]
      cases hb : ab_be (ab_cd p A d w) T with
      | none =>
        rw [hb] at bc br
        have bc' : f_X3_bestTenant s4 s5 (nI d) (nI w) (s5.1 0 4) = some (-1) := bc
        have br' : f_X9_bestTenant s (nI d) (nI w) = some (-1) := br
        simp only [bc', br', if_true]
        refine .inl ⟨_, _, mm - 1, rfl, rfl, by omega, w + 1, by omega, rfl, rfl, fun w' t h1 h2 => ?_⟩
        by_cases z : w' = w
        · rw [z]
          exact beS T hb t h2
        · exact hno w' t (by omega) h2
      | some y =>
        obtain ⟨t, r⟩ := y
        obtain ⟨ht, hcd⟩ := ab_be_c hb
        have nt : ¬ nI t = -1 := nI_nm (by omega)
        rw [hb] at bc br
        have bc' : f_X3_bestTenant s4 s5 (nI d) (nI w) (s5.1 0 4) = some (nI t) := bc
        have br' : f_X9_bestTenant s (nI d) (nI w) = some (nI t) := br
        simp only [bc', br', if_neg nt]
        cases hl : A.2.1 (6 * d + t) with
        | nil =>
          unfold ab_cd at hcd
          rw [hl] at hcd
          cases hcd
        | cons a l =>
          have ma : a ∈ A.2.1 (6 * d + t) := by rw [hl]; exact List.mem_cons_self
          have nt2 := hB.2.2.2.2.2.2.2.2.1.nt hB.2.2.2.2.2.2.2.2.2.2.2.2
          have La : L a.1 = true := (hB.2.1 a.1).mpr (.inl ⟨_, by omega, a, ma, rfl⟩)
          obtain ⟨s52, c1, C2⟩ := ab_C_srv (way := w) (show d < 7 by omega) (show t < 6 by omega) (by omega) hP hl hB.1 nt2 (fun h => by
            have := hB.2.2.2.2.1 a.1 La
            rw [hB.2.2.2.2.2.1.2.1]
            have := hB.2.2.2.2.2.1.1
            exact (nI_ltI (by omega) (by omega)).mpr (by omega)) hC
          obtain ⟨s2, c2, F2, R2⟩ := ab_R_srv (way := w) (show d < 7 by omega) (show t < 6 by omega) (by omega) hs (hp.r ht) (V.2.2.2.2.1 d (by omega)) hl hB.1 hR
          obtain ⟨cf, sd, e1⟩ := ab_srv_cf (p := p) (A := A) (d := d) (t := t) (way := w) (a := a) (l := l)
          obtain ⟨_, ee, en, el, ev⟩ := ab_B_sv (way := w) hp hd ht hl hi hB
          simp only [c1, c2]
          refine .inr ⟨s52, s2, rfl, rfl, F2, _, ⟨hP, hp, by rw [F2.2.2.1 0 (by decide)]; exact hs, C2, R2, ab_B_srv hp hd ht hl hi hN hB, hF⟩, ab_V_cf cf V, cf, fun c hc => ?_, fun h => ?_, fun h => ?_⟩
          · rw [e1, ev]
            have n1 := hB.2.2.2.2.2.1.2.2.1
            exact fun k => absurd ((nI_eq (by omega) (by omega)).mp k) (by omega)
          · rw [h w t (by omega) ht] at hcd
            cases hcd
          · rw [sd] at h
            cases h) 3 pm_fu (s5, nI d, 0) (s, nI d, 0) (by unfold pm_fu; omega) ⟨0, by omega, rfl, rfl, fun w' t h => absurd h (by omega)⟩
  exact ⟨e, e', A', h1, h2, Fs, J', V', cf, ut, no, no'⟩
