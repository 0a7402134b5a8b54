/-! A write of a request ends, in both programs. -/
theorem i32_12 : ¬ (1 : Int32) < 0 ∧ ¬ (1 : Int32) < 1 ∧ (1 : Int32) < 2 ∧ (1 : Int32) < 3 ∧ ¬ (0 : Int32) = 1 ∧ ¬ (2 : Int32) = 0 ∧ ¬ (2 : Int32) = 1 ∧ ¬ (3 : Int32) = 0 ∧ ¬ (3 : Int32) = 1 := by decide
/-- nothing is held: nothing happens -/
theorem ab_J2_wr0 {D S T m n N d k t : Nat} {p : Nat → Int32} {A B : ab_S} {L : Nat → Bool} {W : Nat → Nat} {F : List Nat} {s4 s5 : cs_S} {s : mo_S} (hk : k < S) (hd : d < 7) (ht : t < 6) (ht0 : t ≠ 0) (h : d < D → B.1 3 d k ≠ 1) (H : ab_J2 D S T m n N p A B L W F s4 s5 s) : f_X1_endWrite s4 s5 (nI d) (nI k) = some s5 ∧ f_X9_writeFinished s (nI d) (nI k) (nI t) = some s := by
  obtain ⟨hP, hp, hs, hC, hR, hB, hF, hE⟩ := H
  have hD := hp.2.2.2.2.1
  have hS := hp.2.2.2.2.2.2.1
  have leD : p 0 ≤ nI d ↔ D ≤ d := by
    rw [hp.1]
    exact nI_leI (by omega) (by omega)
  have t0 : ¬ nI t = 0 := nI_ne0 (by omega) (by omega)
  unfold f_X1_endWrite f_X9_writeFinished
  simp only [hP.1, if_neg t0, isSurviving_w hp hs hd hR]
  by_cases u1 : D ≤ d
  · rw [if_pos (leD.mpr u1)]
    have sv : (if d < D ∧ nI d ≠ B.1 0 0 1 then (1 : Int32) else 0) = 0 := if_neg (by omega)
    rw [sv]
    simp
  · rw [if_neg (fun h => u1 (leD.mp h))]
    have h3 := h (by omega)
    have h3A : A.1 3 d k ≠ 1 := by rw [← hE.2 3 d k (by omega) (by omega)]; exact h3
    simp only [ab_holds_C (show d < 6 by omega) (show k < 64 by omega) hC, isHeldOn_w s (show d < 6 by omega) (show k < 64 by omega), hR.2.2.2.2.2.1 d k (by omega) (by omega), if_neg h3, if_neg h3A, if_true]
    refine ⟨trivial, ?_⟩
    split <;> rfl
theorem ab_J2_wr {D S T m n N d k f t : Nat} {p : Nat → Int32} {A B : ab_S} {L : Nat → Bool} {W : Nat → Nat} {F : List Nat} {s4 s5 : cs_S} {s : mo_S} (hk : k < S) (hd : d < 7) (ht : t < 6) (ht0 : t ≠ 0) (hf : f < D) (hf1 : B.1 0 0 1 = nI f) (hha : ∀ d k, d < 6 → k < 64 → B.1 3 d k = 1 → d < D ∧ d ≠ f) (hL : ab_cnt L 3248 < 2200) (hN : N + 1 ≤ 1000000000000) (hK : ab_Ks D f B L k) (H : ab_J2 D S T m n N p A B L W F s4 s5 s) :
    ∃ s5' s' W' F' A' B' L', f_X1_endWrite s4 s5 (nI d) (nI k) = some s5' ∧ f_X9_writeFinished s (nI d) (nI k) (nI t) = some s' ∧ rf_F s s' ∧ ab_J2 D S T m n (N + 1) p A' B' L' W' F' s4 s5' s' ∧ ab_fr k A A' B B' L L' ∧ ab_Ks D f B' L' k ∧ (∀ d, d < 6 → B'.1 3 d k = 1 → d < D ∧ d ≠ f) ∧ ab_s12 B B' k ∧ ab_cnt L' 3248 ≤ ab_cnt L 3248 + 1 ∧ B'.1 0 0 7 = B.1 0 0 7 := by
  have hp := H.2.1
  have hD := hp.2.2.2.2.1
  have hS := hp.2.2.2.2.2.2.1
  by_cases u : d < D ∧ B.1 3 d k = 1
  · obtain ⟨hdD, h3⟩ := u
    have H' := H
    obtain ⟨hP, hp, hs, hC, hR, hB, hF, hE⟩ := H
    have hdf := (hha d k (by omega) (by omega) h3).2
    have h3A : A.1 3 d k = 1 := by rw [← hE.2 3 d k (by omega) (by omega)]; exact h3
    have leD : ¬ p 0 ≤ nI d := by
      rw [hp.1]
      exact fun h => absurd ((nI_leI (by omega) (by omega)).mp h) (by omega)
    have t0 : ¬ nI t = 0 := nI_ne0 (by omega) (by omega)
    have sv : (if d < D ∧ nI d ≠ B.1 0 0 1 then (1 : Int32) else 0) = 1 := if_pos ⟨hdD, by rw [hf1]; exact fun h => hdf ((nI_eq (by omega) (by omega)).mp h)⟩
    have w32 : s5.2.1 32 k = B.1 4 k 0 := by rw [(hC.2.2.2.2.2.2 k (by omega)).1, hE.2 4 k 0 (by omega) (by omega)]
    unfold f_X1_endWrite f_X9_writeFinished
    simp (disch := omega) only [hP.1, if_neg leD, if_neg t0, isSurviving_w hp hs hd hR, sv, ab_holds_C (show d < 6 by omega) (show k < 64 by omega) hC, isHeldOn_w s (show d < 6 by omega) (show k < 64 by omega), hR.2.2.2.2.2.1 d k (by omega) (by omega), if_pos h3, if_pos h3A, i32_10, if_false, stateOf_w s (show k < 64 by omega), hR.2.2.2.2.2.2.1 k (by omega), nb_nI, nI_clamp, w32]
    obtain ⟨s51, s1, g1, g2, F1, J1⟩ := ab_J2_forget hk hdD h3 H'
    have h3v : ∀ d', (ab_v B 3 d k 0).1 3 d' k = if d' = d then 0 else B.1 3 d' k := fun d' => by
      rw [ab_v_1]
      by_cases z : d' = d
      · rw [if_pos ⟨rfl, z, rfl⟩, if_pos z]
      · rw [if_neg (by omega), if_neg z]
    have hh1 : ∀ d', d' < 6 → (ab_v B 3 d k 0).1 3 d' k = 1 → d' < D ∧ d' ≠ f := by
      intro d' hd' h
      rw [h3v] at h
      by_cases z : d' = d
      · omega
      · rw [if_neg z] at h
        exact hha d' k hd' (by omega) h
    have r4 : vn s1 4 k 0 = B.1 4 k 0 := by rw [J1.2.2.2.2.1.2.2.2.2.2.2.1 k (by omega), ab_v3_4]
    have o := i32_12
    have keep : (B.1 4 k 0 = 2 ∨ B.1 4 k 0 = 3) → ∃ s5' s' W' F' A' B' L', some s5 = some s5' ∧ some s = some s' ∧ rf_F s s' ∧ ab_J2 D S T m n (N + 1) p A' B' L' W' F' s4 s5' s' ∧ ab_fr k A A' B B' L L' ∧ ab_Ks D f B' L' k ∧ (∀ d, d < 6 → B'.1 3 d k = 1 → d < D ∧ d ≠ f) ∧ ab_s12 B B' k ∧ ab_cnt L' 3248 ≤ ab_cnt L 3248 + 1 ∧ B'.1 0 0 7 = B.1 0 0 7 := fun _ =>
      ⟨s5, s, W, F, A, B, L, rfl, rfl, rf_F.rfl' s, H'.up (Nat.le_succ N) hN, ab_fr.refl k A B L, hK, fun d hd h => hha d k hd (by omega) h, .inl rfl, by omega, rfl⟩
    rcases hK with h | h | h | h
    · have h0 := h.1
      simp only [h0, if_true, o.1, if_false, g1, g2, stateOf_w s1 (show k < 64 by omega), r4, o.2.2.2.2.1]
      exact ⟨_, _, W, F, _, _, L, rfl, rfl, F1, J1.up (Nat.le_succ N) hN, ab_fr.v3 (x := 0), .inl ⟨by rw [ab_v3_4]; exact h0, h.2⟩, hh1, .inl (ab_v3_4 _ _ _ _ _), by omega, by rw [ab_v_1, if_neg (by omega)]⟩
    · have h0 := h.1
      have Lc : L (7 * k + d) = false := by
        cases hl : L (7 * k + d) with
        | false => rfl
        | true => exact absurd h3 ((h.2 d hd).mp hl).2.2
      obtain ⟨s52, s2, W', F', A', B', c1, c2, F2, J2, a5, a6, a7, a8, a9⟩ := ab_J2_qr (d := d) hk (by omega) Lc hL hN J1
      have dlR := ab_dl_R hp J1.2.2.1 k J1.2.2.2.2.1
      rw [if_neg (by omega)] at c2
      have qrr : f_X9_queueRebuildRead s1 (nI d) (nI k) = some s2 := by
        unfold f_X9_queueRebuildRead
        simp only [dlR, c2]
      simp only [h0, if_true, i32_10, o.2.1, if_false, g1, g2, stateOf_w s1 (show k < 64 by omega), r4, c1, qrr]
      refine ⟨_, _, W', F', A', B', _, rfl, rfl, F1.trans F2, J2, (ab_fr.v3 (x := 0)).trans ⟨⟨fun i w => by rw [a5], fun i w => by rw [a5], by rw [a5]⟩, ⟨fun i w => by rw [a6], fun i w => by rw [a6], by rw [a6]⟩, fun g i w _ _ _ => by rw [a6], fun k' _ => ⟨by rw [a6], fun d => by rw [a6]⟩, fun w _ _ _ => by rw [a6], a7, fun c hc => if_neg (by omega)⟩, .inr (.inl ⟨by rw [a6, ab_v3_4]; exact h0, fun d' hd' => ?_⟩), fun d' hd' h => hh1 d' hd' (by rw [← a6]; exact h), .inl (by rw [a6, ab_v3_4]), ?_, by rw [a6, ab_v_1, if_neg (by omega)]⟩
      · rw [a6, h3v]
        unfold ab_L
        by_cases z : d' = d
        · rw [if_pos (by omega), if_pos z]
          exact ⟨fun _ => ⟨by omega, by omega, by decide⟩, fun _ => rfl⟩
        · rw [if_neg (by omega), if_neg z]
          exact h.2 d' hd'
      · rw [ab_cnt_up Lc, if_pos (by omega)]
        exact Nat.le_refl _
    · have h0 := h.1
      simp only [h0, o.2.2.1, o.2.2.2.2.2.1, o.2.2.2.2.2.2.1, if_true, if_false]
      exact keep (.inl h0)
    · have h0 := h.1
      simp only [h0, o.2.2.2.1, o.2.2.2.2.2.2.2.1, o.2.2.2.2.2.2.2.2, if_true, if_false]
      exact keep (.inr h0)
  · obtain ⟨g1, g2⟩ := ab_J2_wr0 hk hd ht ht0 (fun h h3 => u ⟨h, h3⟩) H
    exact ⟨s5, s, W, F, A, B, L, g1, g2, rf_F.rfl' s, H.up (Nat.le_succ N) hN, ab_fr.refl k A B L, hK, fun d hd h => hha d k hd (by omega) h, .inl rfl, by omega, rfl⟩
