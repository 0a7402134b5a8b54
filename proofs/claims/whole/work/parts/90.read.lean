/-! A read ends, in both programs. -/
theorem ab_B.up {D S T m n N M : Nat} {A : ab_S} {L : Nat → Bool} (h : ab_B D S T m n N A L) (l : N ≤ M) (hM : M ≤ 1000000000000) : ab_B D S T m n M A L := by
  obtain ⟨B1, B2, B3, B4, B5, B6, B7, B8, B9, B10⟩ := h
  exact ⟨B1, B2, B3, B4, B5, B6, B7, B8, B9.le l, B10.1, B10.2.1, B10.2.2.1, hM⟩
theorem ab_J2.up {D S T m n N M : Nat} {p : Nat → Int32} {A B : ab_S} {L : Nat → Bool} {W : Nat → Nat} {F : List Nat} {s4 s5 : cs_S} {s : mo_S} (h : ab_J2 D S T m n N p A B L W F s4 s5 s) (l : N ≤ M) (hM : M ≤ 1000000000000) : ab_J2 D S T m n M p A B L W F s4 s5 s :=
  ⟨h.1, h.2.1, h.2.2.1, h.2.2.2.1, h.2.2.2.2.1, h.2.2.2.2.2.1.up l hM, h.2.2.2.2.2.2⟩
theorem ab_E.cached {A B : ab_S} (h : ab_E A B) (S : Nat) : ab_cached B.1 S = ab_cached A.1 S := (ab_cnts (A := A) (A' := B) (fun i w => h.2 3 i w (by omega) (by omega)) (fun i w => h.2 4 i w (by omega) (by omega)) S).2.1
/-- no disk has failed: nothing happens -/
theorem ab_J2_rd0 {D S T m n N d k : Nat} {p : Nat → Int32} {A B : ab_S} {L : Nat → Bool} {W : Nat → Nat} {F : List Nat} {s4 s5 : cs_S} {s : mo_S} (x y : Int32) (hf1 : B.1 0 0 1 = -1) (H : ab_J2 D S T m n N p A B L W F s4 s5 s) : f_X1_endRead s4 s5 (nI d) (nI k) x = some s5 ∧ f_X9_readFinished s (nI d) (nI k) y = some s := by
  obtain ⟨hP, hp, hs, hC, hR, hB, hF, hE⟩ := H
  have a1 : s5.1 31 0 = -1 := by rw [hC.1.2.1, ← hE.2 0 0 1 (by omega) (by omega)]; exact hf1
  have b1 : s.2.2.1 3 1 = -1 := (hR.1 1 (by decide)).trans hf1
  unfold f_X1_endRead f_X9_readFinished
  simp only [a1, if_true, nb_1_18186, tc_1, b1]
  refine ⟨?_, trivial⟩
  split
  · rfl
  · split <;> rfl
/-- the state of a stripe stays, or goes from collecting to writing -/
def ab_s12 (B B' : ab_S) (k : Nat) : Prop := B'.1 4 k 0 = B.1 4 k 0 ∨ (B.1 4 k 0 = 1 ∧ B'.1 4 k 0 = 2)
theorem ab_J2_rd {D S T m n N d k f : Nat} {p : Nat → Int32} {A B : ab_S} {L : Nat → Bool} {W : Nat → Nat} {F : List Nat} {s4 s5 : cs_S} {s : mo_S} {own : Bool} {t : Nat} (hk : k < S) (hd : d < 7) (ht : t < 6) (hot : own = true ↔ t = 0) (hf : f < D) (hf1 : B.1 0 0 1 = nI f) (hn : B.2.2.2 d = none) (hha : ∀ d k, d < 6 → k < 64 → B.1 3 d k = 1 → d < D ∧ d ≠ f) (hL : ab_cnt L 3248 < 2200) (hN : N + 1 ≤ 1000000000000)
    (ho : own = true → d < D ∧ d ≠ f ∧ B.1 3 d k ≠ 1 ∧ B.1 4 k 0 = 1 ∧ ∀ d', d' < 7 → (L (7 * k + d') = true ↔ d' < D ∧ d' ≠ f ∧ B.1 3 d' k ≠ 1 ∧ d' ≠ d)) (ho' : own = false → ab_Ks D f B L k) (H : ab_J2 D S T m n N p A B L W F s4 s5 s) :
    ∃ s5' s' W' F' A' B' L', f_X1_endRead s4 s5 (nI d) (nI k) (if own = true then 1 else 0) = some s5' ∧ f_X9_readFinished s (nI d) (nI k) (nI t) = some s' ∧ rf_F s s' ∧ ab_J2 D S T m n (N + 1) p A' B' L' W' F' s4 s5' s' ∧ ab_fr k A A' B B' L L' ∧ ab_Ks D f B' L' k ∧ (∀ d, d < 6 → B'.1 3 d k = 1 → d < D ∧ d ≠ f) ∧ ab_s12 B B' k ∧ ab_cnt L' 3248 ≤ ab_cnt L 3248 + 1 ∧ B'.1 0 0 7 = B.1 0 0 7 := by
  have H' := H
  obtain ⟨hP, hp, hs, hC, hR, hB, hF, hE⟩ := H
  have hD := hp.2.2.2.2.1
  have hS := hp.2.2.2.2.2.2.1
  have hh : ∀ d, d < 6 → B.1 3 d k = 1 → d < D ∧ d ≠ f := fun d hd h => hha d k hd (by omega) h
  have e3 : ∀ d k, B.1 3 d k = A.1 3 d k := fun d k => hE.2 3 d k (by omega) (by omega)
  have e4 : ∀ k, B.1 4 k 0 = A.1 4 k 0 := fun k => hE.2 4 k 0 (by omega) (by omega)
  have a1 : s5.1 31 0 = nI f := by rw [hC.1.2.1, ← hE.2 0 0 1 (by omega) (by omega)]; exact hf1
  have b1 : s.2.2.1 3 1 = nI f := (hR.1 1 (by decide)).trans hf1
  have nf : ¬ nI f = -1 := nI_nm (by omega)
  have leD : p 0 ≤ nI d ↔ D ≤ d := by
    rw [hp.1]
    exact nI_leI (by omega) (by omega)
  have eqf : nI d = nI f ↔ d = f := nI_eq (by omega) (by omega)
  have t0 : nI t = 0 ↔ t = 0 := nI_eq (b := 0) (by omega) (by decide)
  have same : own = false → ∃ s5' s' W' F' A' B' L', some s5 = some s5' ∧ some s = some s' ∧ rf_F s s' ∧ ab_J2 D S T m n (N + 1) p A' B' L' W' F' s4 s5' s' ∧ ab_fr k A A' B B' L L' ∧ ab_Ks D f B' L' k ∧ (∀ d, d < 6 → B'.1 3 d k = 1 → d < D ∧ d ≠ f) ∧ ab_s12 B B' k ∧ ab_cnt L' 3248 ≤ ab_cnt L 3248 + 1 ∧ B'.1 0 0 7 = B.1 0 0 7 := fun h =>
    ⟨s5, s, W, F, A, B, L, rfl, rfl, rf_F.rfl' s, H'.up (Nat.le_succ N) hN, ab_fr.refl k A B L, ho' h, hh, .inl rfl, by omega, rfl⟩
  have w32 : s5.2.1 32 k = B.1 4 k 0 := by rw [(hC.2.2.2.2.2.2 k (by omega)).1, e4]
  unfold f_X1_endRead f_X9_readFinished
  simp only [nb_1_18186, tc_1, b1, if_neg nf, a1, hP.1]
  simp only [isSurviving_w hp hs hd hR, hf1]
  by_cases u1 : D ≤ d
  · rw [if_pos (leD.mpr u1)]
    have sv : (if d < D ∧ nI d ≠ nI f then (1 : Int32) else 0) = 0 := if_neg (by omega)
    rw [sv]
    simp only [if_true]
    refine same ?_
    cases hw : own with
    | false => rfl
    | true => exact absurd (ho hw).1 (by omega)
  rw [if_neg (fun h => u1 (leD.mp h))]
  by_cases u2 : d = f
  · rw [if_pos (eqf.mpr u2)]
    have sv : (if d < D ∧ nI d ≠ nI f then (1 : Int32) else 0) = 0 := if_neg (fun h => h.2 (eqf.mpr u2))
    rw [sv]
    simp only [if_true]
    refine same ?_
    cases hw : own with
    | false => rfl
    | true => exact absurd u2 (ho hw).2.1
  rw [if_neg (fun h => u2 (eqf.mp h))]
  have sv : (if d < D ∧ nI d ≠ nI f then (1 : Int32) else 0) = 1 := if_pos ⟨by omega, fun h => u2 (eqf.mp h)⟩
  rw [sv]
  simp (disch := omega) only [i32_10, if_false, ab_holds_C (show d < 6 by omega) (show k < 64 by omega) hC, isHeldOn_w s (show d < 6 by omega) (show k < 64 by omega), hR.2.2.2.2.2.1 d k (by omega) (by omega), ← e3, stateOf_w s (show k < 64 by omega), hR.2.2.2.2.2.2.1 k (by omega), nb_nI, nI_clamp, w32]
  by_cases u3 : B.1 3 d k = 1
  · rw [if_pos u3]
    simp only [i32_10, if_false]
    refine same ?_
    cases hw : own with
    | false => rfl
    | true => exact absurd u3 (ho hw).2.2.1
  rw [if_neg u3]
  simp only [if_true]
  by_cases u4 : B.1 4 k 0 = 1
  · simp only [if_pos u4]
    obtain ⟨s51, s1, g1, g2, F1, J1⟩ := ab_J2_hold hk (by omega) u3 H'
    simp only [g1, g2]
    have h3v : ∀ d', (ab_v B 3 d k 1).1 3 d' k = if d' = d then 1 else B.1 3 d' k := fun d' => by
      rw [ab_v_1]
      by_cases z : d' = d
      · rw [if_pos ⟨rfl, z, rfl⟩, if_pos z]
      · rw [if_neg (by omega), if_neg z]
    have hh1 : ∀ d', d' < 6 → (ab_v B 3 d k 1).1 3 d' k = 1 → d' < D ∧ d' ≠ f := by
      intro d' hd' h
      rw [h3v] at h
      by_cases z : d' = d
      · omega
      · rw [if_neg z] at h
        exact hh d' hd' h
    have st1 : (ab_v B 3 d k 1).1 4 k 0 = 1 := by rw [ab_v3_4]; exact u4
    have f01 : (ab_v B 3 d k 1).1 0 0 1 = nI f := by rw [ab_v_1, if_neg (by omega)]; exact hf1
    cases hw : own with
    | true =>
      have tt : nI t = 0 := t0.mpr (hot.mp hw)
      have oo := ho hw
      have LL : ∀ d', d' < 7 → (L (7 * k + d') = true ↔ d' < D ∧ d' ≠ f ∧ (ab_v B 3 d k 1).1 3 d' k ≠ 1) := by
        intro d' hd'
        rw [oo.2.2.2.2 d' hd', h3v]
        by_cases z : d' = d
        · rw [if_pos z]
          exact ⟨fun h => absurd z h.2.2.2, fun h => absurd rfl h.2.2⟩
        · rw [if_neg z]
          exact ⟨fun h => ⟨h.1, h.2.1, h.2.2.1⟩, fun h => ⟨h.1, h.2.1, h.2.2, z⟩⟩
      obtain ⟨s52, s2, W', F', A', B', L', c1, c2, F2, J2, fr, ks, hd3, hst, cnt, sc⟩ := ab_J2_ck hk hf f01 st1 hh1 LL hL hN J1
      simp only [if_true, i32_10, if_false, c1, tt, c2]
      refine ⟨_, _, W', F', A', B', L', rfl, rfl, F1.trans F2, J2, (ab_fr.v3 (x := 1)).trans fr, ks, fun d' hd' h => hh1 d' hd' (by rw [← hd3]; exact h), ?_, cnt, by rw [sc, ab_v_1, if_neg (by omega)]⟩
      rcases hst with h | h
      · exact .inl (by rw [h, u4])
      · exact .inr ⟨u4, h⟩
    | false =>
      have tt : ¬ nI t = 0 := fun h => by
        rw [hot.mpr (t0.mp h)] at hw
        cases hw
      have kk := ho' hw
      have LL0 : ∀ d', d' < 7 → (L (7 * k + d') = true ↔ d' < D ∧ d' ≠ f ∧ B.1 3 d' k ≠ 1) := by
        rcases kk with h | h | h | h
        · rw [u4] at h
          exact absurd h.1 (by decide)
        · exact h.2
        · rw [u4] at h
          exact absurd h.1 (by decide)
        · rw [u4] at h
          exact absurd h.1 (by decide)
      have Lc : L (7 * k + d) = true := (LL0 d hd).mpr ⟨by omega, u2, u3⟩
      obtain ⟨s52, s2, F', A1, B1', r1, r2, F2, J2, fr1, hd1, hst1, s71⟩ := ab_J2_save hk (by omega) Lc (by exact hn) J1
      have LL : ∀ d', d' < 7 → (ab_L L (7 * k + d) false (7 * k + d') = true ↔ d' < D ∧ d' ≠ f ∧ B1'.1 3 d' k ≠ 1) := by
        intro d' hd'
        rw [hd1, h3v]
        unfold ab_L
        by_cases z : d' = d
        · rw [if_pos (by omega), if_pos z]
          exact ⟨(fun h => by cases h), fun h => absurd rfl h.2.2⟩
        · rw [if_neg (by omega), if_neg z]
          exact LL0 d' hd'
      have cn := ab_cnt_dn Lc 3248 (by omega)
      obtain ⟨s53, s3, W', F', A', B', L', c1, c2, F3, J3, fr, ks, hd3, hst, cnt, sc⟩ := ab_J2_ck (f := f) hk hf (by rw [fr1.2.2.2.2.1 1 (by decide) (by decide) (by decide)]; exact f01) (by rw [hst1]; exact st1) (fun d' hd' h => hh1 d' hd' (by rw [← hd1]; exact h)) LL (by omega) hN J2
      have q6 : f_X3_numberOf (nI d) 0 = some (nI (6 * d + 0)) := numberOf_w d 0
      simp only [Bool.false_eq_true, if_false, if_true, q6, Nat.add_zero, rebuildOperation_w, r1, i32_10, c1, if_neg tt, r2, c2]
      refine ⟨_, _, W', F', A', B', L', rfl, rfl, (F1.trans F2).trans F3, J3, ((ab_fr.v3 (x := 1)).trans fr1).trans fr, ks, fun d' hd' h => hh1 d' hd' (by rw [← hd1, ← hd3]; exact h), ?_, by omega, ?_⟩
      · rcases hst with h | h
        · exact .inl (by rw [h, u4])
        · exact .inr ⟨u4, h⟩
      · rw [sc, s71, ab_v_1, if_neg (by omega)]
  · simp only [if_neg u4]
    have hw : own = false := by
      cases hw : own with
      | false => rfl
      | true => exact absurd (ho hw).2.2.2.1 u4
    by_cases u5 : B.1 4 k 0 = 0
    · simp only [if_pos u5]
      have cc := cached_w hp hs (fun d' k' h1 h2 h3 => (hha d' k' h1 h2 h3).1) hR
      have ca : s5.1 31 4 = nI (ab_cached B.1 S) := by rw [hE.cached S]; exact hC.2.1.2.1
      have p5 : s4.1 0 5 = p 5 := hP.2.2.2.2.2.1
      simp only [cc, ca, p5, nb_5_26, tc_5, hs]
      by_cases u6 : p 5 ≤ nI (ab_cached B.1 S)
      · simp only [if_pos u6]
        exact same hw
      · simp only [if_neg u6]
        obtain ⟨s51, s1, g1, g2, F1, J1⟩ := ab_J2_hold hk (by omega) u3 H'
        have k6 : s1.2.2.1 3 6 = B.1 0 0 6 := by
          rw [vn_s6, J1.2.2.2.2.1.1 6 (by decide), ab_v_1, if_neg (by omega)]
        have k8 : s51.1 31 8 = B.1 0 0 6 := by
          rw [J1.2.2.2.1.1.2.2.2.2.2.2.1, ab_v_1, if_neg (by omega), hE.2 0 0 6 (by omega) (by omega)]
        obtain ⟨F2, J2⟩ := ab_J2_0 (w := 6) (x := B.1 0 0 6 + 1) (by omega) rfl J1
        have kk := ho' hw
        have L0 : ∀ d', d' < 7 → L (7 * k + d') = false := by
          rcases kk with h | h | h | h
          · exact h.2
          · rw [u5] at h
            exact absurd h.1 (by decide)
          · rw [u5] at h
            exact absurd h.1 (by decide)
          · rw [u5] at h
            exact absurd h.1 (by decide)
        have st0 : (ab_v (ab_v B 3 d k 1) 0 0 6 (B.1 0 0 6 + 1)).1 4 k 0 = B.1 4 k 0 := by rw [ab_v_1, if_neg (by omega), ab_v3_4]
        simp only [g1, g2, nb_6_18186, tc_6, k6, k8]
        refine ⟨_, _, W, F, _, _, L, rfl, rfl, F1.trans F2, J2.up (Nat.le_succ N) hN, (ab_fr.v3 (x := 1)).trans (ab_fr.v0 (w := 6) (by omega)), .inl ⟨by rw [st0]; exact u5, L0⟩, fun d' hd' h => ?_, .inl st0, by omega, ?_⟩
        · rw [ab_v_1, if_neg (by omega), ab_v_1] at h
          by_cases z : d' = d
          · omega
          · rw [if_neg (by omega)] at h
            exact hh d' hd' h
        · rw [ab_v_1, if_neg (by omega), ab_v_1, if_neg (by omega)]
    · simp only [if_neg u5]
      exact same hw
