/-! The rebuild's stripes and units, the reference's side. -/
theorem ab_R_3 {D : Nat} {A : ab_S} {s s' : mo_S} {W : Nat → Nat} {F : List Nat} {r w : Nat} {x : Int32} (hn : ∀ g' i' w', vn s' g' i' w' = if g' = 3 ∧ i' = r ∧ w' = w then x else vn s g' i' w') (ht : ∀ o w, vt s' o w = vt s o w) (hq : ∀ o w, vq s' o w = vq s o w) (H : ab_R D A s W F) : ab_R D (ab_v A 3 r w x) s' W F := by
  have K := H
  obtain ⟨R1, R2, R3, R4, R5, R6, R7, R8, R9, R10, R11, R12, R13, R14⟩ := H
  have m1 : ∀ g i w', g ≠ 3 → vn s' g i w' = vn s g i w' := fun g i w' h => by rw [hn, if_neg (by omega)]
  have v1 : ∀ g i w', g ≠ 3 → (ab_v A 3 r w x).1 g i w' = A.1 g i w' := fun g i w' h => by rw [ab_v_1, if_neg (by omega)]
  refine ab_R_v K rfl (m1 _ _ _ (by omega)) (fun i w => m1 _ _ _ (by omega)) (fun i w => m1 _ _ _ (by omega)) ht hq ?_ (fun i w => m1 _ _ _ (by omega)) (fun i w => v1 _ _ _ (by omega)) ?_ ?_ ?_ ?_ (fun c _ => ab_tks c (fun r w => v1 _ _ _ (by omega)))
  · intro w' h
    rw [m1 _ _ _ (by omega), v1 _ _ _ (by omega)]
    rcases h with h | rfl | rfl
    · exact R1 w' h
    · exact R2
    · exact R3
  · intro d k h1 h2
    rw [hn, ab_v_1, R6 d k h1 h2]
  · intro k h1
    rw [m1 _ _ _ (by omega), v1 _ _ _ (by omega)]
    exact R7 k h1
  · intro r' w' h1 h2 h3
    rw [v1 _ _ _ (by omega)] at h2
    rw [m1 _ _ _ (by omega), v1 _ _ _ (by omega)]
    exact R8 r' w' h1 h2 h3
  · intro t w' h1 h2
    rw [m1 _ _ _ (by omega), v1 _ _ _ (by omega)]
    exact R9 t w' h1 h2
theorem ab_R_4 {D : Nat} {A : ab_S} {s s' : mo_S} {W : Nat → Nat} {F : List Nat} {r : Nat} {x : Int32} (hn : ∀ g' i' w', vn s' g' i' w' = if g' = 4 ∧ i' = r ∧ w' = 0 then x else vn s g' i' w') (ht : ∀ o w, vt s' o w = vt s o w) (hq : ∀ o w, vq s' o w = vq s o w) (H : ab_R D A s W F) : ab_R D (ab_v A 4 r 0 x) s' W F := by
  have K := H
  obtain ⟨R1, R2, R3, R4, R5, R6, R7, R8, R9, R10, R11, R12, R13, R14⟩ := H
  have m1 : ∀ g i w', g ≠ 4 → vn s' g i w' = vn s g i w' := fun g i w' h => by rw [hn, if_neg (by omega)]
  have v1 : ∀ g i w', g ≠ 4 → (ab_v A 4 r 0 x).1 g i w' = A.1 g i w' := fun g i w' h => by rw [ab_v_1, if_neg (by omega)]
  refine ab_R_v K rfl (m1 _ _ _ (by omega)) (fun i w => m1 _ _ _ (by omega)) (fun i w => m1 _ _ _ (by omega)) ht hq ?_ (fun i w => m1 _ _ _ (by omega)) (fun i w => v1 _ _ _ (by omega)) ?_ ?_ ?_ ?_ (fun c _ => ab_tks c (fun r w => v1 _ _ _ (by omega)))
  · intro w' h
    rw [m1 _ _ _ (by omega), v1 _ _ _ (by omega)]
    rcases h with h | rfl | rfl
    · exact R1 w' h
    · exact R2
    · exact R3
  · intro d k h1 h2
    rw [m1 _ _ _ (by omega), v1 _ _ _ (by omega)]
    exact R6 d k h1 h2
  · intro k h1
    rw [hn, ab_v_1, R7 k h1]
  · intro r' w' h1 h2 h3
    rw [v1 _ _ _ (by omega)] at h2
    rw [m1 _ _ _ (by omega), v1 _ _ _ (by omega)]
    exact R8 r' w' h1 h2 h3
  · intro t w' h1 h2
    rw [m1 _ _ _ (by omega), v1 _ _ _ (by omega)]
    exact R9 t w' h1 h2
theorem disks_w {s : mo_S} {p : Nat → Int32} (hs : s.2.2.1 0 = p) : f_X9_disks s = some (p 0) := by
  unfold f_X9_disks
  simp only [nb_0_26, tc_0, hs]
/-- a stripe's state is written -/
theorem st_w (s : mo_S) {k : Nat} (x : Int32) (hk : k < 64) : pm_inb (680 + nI k) 18186 = true ∧ mo_a s 3 (680 + nI k) x = us s 4 k 0 x := by
  have e : (680 : Int32) + nI k = nI (680 + k) := nI_add 680 k
  rw [e]
  exact ⟨nb_nI (by omega) (by decide), rfl⟩
theorem isSurviving_w {D S T d : Nat} {p : Nat → Int32} {A : ab_S} {s : mo_S} {W : Nat → Nat} {F : List Nat} (hp : ab_pl p D S T) (hs : s.2.2.1 0 = p) (hd : d < 7) (H : ab_R D A s W F) : f_X9_isSurviving s (nI d) = some (if d < D ∧ nI d ≠ A.1 0 0 1 then 1 else 0) := by
  have h1 : s.2.2.1 3 1 = A.1 0 0 1 := H.1 1 (by decide)
  have le : p 0 ≤ nI d ↔ D ≤ d := by
    rw [hp.1]
    exact nI_leI (by have := hp.2.2.2.2.1; omega) (by omega)
  unfold f_X9_isSurviving
  simp only [disks_w hs, nb_1_18186, tc_1, h1]
  by_cases u : D ≤ d
  · rw [if_pos (le.mpr u), if_neg (by omega)]
  · rw [if_neg (fun k => u (le.mp k))]
    by_cases v : nI d = A.1 0 0 1
    · rw [if_pos v, if_neg (fun k => k.2 v)]
    · rw [if_neg v, if_pos ⟨by omega, v⟩]
theorem ab_cnt_s (f : Nat → Bool) (n : Nat) : ab_cnt f (n + 1) = ab_cnt f n + if f n = true then 1 else 0 := rfl
theorem underway_w {D S T : Nat} {p : Nat → Int32} {A : ab_S} {s : mo_S} {W : Nat → Nat} {F : List Nat} (hp : ab_pl p D S T) (hs : s.2.2.1 0 = p) (H : ab_R D A s W F) : f_X9_underway s = some (nI (ab_started A.1 S)) := by
  have hS := hp.2.2.2.2.2.2.1
  have hst := H.2.2.2.2.2.2.1
  unfold f_X9_underway
  obtain ⟨e, h1, h2⟩ := lp_for (Q := fun e => e = nI (ab_started A.1 S)) (B := lb_X9_underway_4 s) S (fun i x => x = (nI (ab_cnt (fun k => decide (A.1 4 k 0 = 1 ∨ A.1 4 k 0 = 2)) i), nI i)) (by unfold pm_fu; omega) (by
    intro i x hi hx
    subst hx
    have le : ¬ p 1 ≤ nI i := by
      rw [hp.2.1]
      exact fun k => absurd ((nI_leI (by omega) (by omega)).mp k) (by omega)
    unfold lb_X9_underway_4
    simp only [nb_1_26, tc_1, hs, if_neg le, stateOf_w s (show i < 64 by omega), hst i (by omega), nI_1]
    by_cases u : A.1 4 i 0 = 1
    · rw [if_pos u]
      exact ⟨_, rfl, by simp [ab_cnt_s, u]⟩
    · rw [if_neg u]
      by_cases v : A.1 4 i 0 = 2
      · rw [if_pos v]
        exact ⟨_, rfl, by simp [ab_cnt_s, v]⟩
      · rw [if_neg v]
        exact ⟨_, rfl, by simp [ab_cnt_s, u, v]⟩) (by
    intro x hx
    subst hx
    unfold lb_X9_underway_4
    simp only [nb_1_26, tc_1, hs, hp.2.1, Int32.le_refl, if_true]
    exact ⟨_, rfl, rfl⟩) (x := (0, 0)) rfl
  rw [h1, h2]
theorem rebuilt_w {D S T : Nat} {p : Nat → Int32} {A : ab_S} {s : mo_S} {W : Nat → Nat} {F : List Nat} (hp : ab_pl p D S T) (hs : s.2.2.1 0 = p) (hf : A.1 0 0 1 = -1 → ∀ k, k < S → A.1 4 k 0 ≠ 3) (H : ab_R D A s W F) : f_X9_rebuilt s = some (nI (ab_rebuilt A.1 S)) := by
  have hS := hp.2.2.2.2.2.2.1
  have hst := H.2.2.2.2.2.2.1
  have h1' : s.2.2.1 3 1 = A.1 0 0 1 := H.1 1 (by decide)
  unfold f_X9_rebuilt
  obtain ⟨e, h1, h2⟩ := lp_for (Q := fun e => e = nI (ab_rebuilt A.1 S)) (B := lb_X9_rebuilt_4 s) S (fun i x => x = (nI (ab_cnt (fun k => decide (A.1 4 k 0 = 3)) i), nI i)) (by unfold pm_fu; omega) (by
    intro i x hi hx
    subst hx
    have le : ¬ p 1 ≤ nI i := by
      rw [hp.2.1]
      exact fun k => absurd ((nI_leI (by omega) (by omega)).mp k) (by omega)
    unfold lb_X9_rebuilt_4
    simp only [nb_1_26, tc_1, hs, if_neg le, nb_1_18186, h1', stateOf_w s (show i < 64 by omega), hst i (by omega), nI_1]
    by_cases w : A.1 0 0 1 = -1
    · rw [if_pos w]
      exact ⟨_, rfl, by simp [ab_cnt_s, hf w i hi]⟩
    · rw [if_neg w]
      by_cases u : A.1 4 i 0 = 3
      · rw [if_pos u]
        exact ⟨_, rfl, by simp [ab_cnt_s, u]⟩
      · rw [if_neg u]
        exact ⟨_, rfl, by simp [ab_cnt_s, u]⟩) (by
    intro x hx
    subst hx
    unfold lb_X9_rebuilt_4
    simp only [nb_1_26, tc_1, hs, hp.2.1, Int32.le_refl, if_true]
    exact ⟨_, rfl, rfl⟩) (x := (0, 0)) rfl
  rw [h1, h2]
/-- the units of the disks beyond D count nothing -/
theorem ab_heldOf_D {D : Nat} {A : ab_S} {k : Nat} (hD : D ≤ 6) (hh : ∀ d, d < 6 → A.1 3 d k = 1 → d < D) : ab_heldOf A.1 k = ab_cnt (fun d => decide (A.1 3 d k = 1)) D := by
  have gen : ∀ j, D + j ≤ 6 → ab_cnt (fun d => decide (A.1 3 d k = 1)) (D + j) = ab_cnt (fun d => decide (A.1 3 d k = 1)) D := by
    intro j
    induction j with
    | zero => exact fun _ => rfl
    | succ j ih =>
      intro h
      show ab_cnt _ (D + j) + _ = _
      rw [ih (by omega)]
      have : ¬ A.1 3 (D + j) k = 1 := fun e => absurd (hh _ (by omega) e) (by omega)
      simp [this]
  have := gen (6 - D) (by omega)
  rw [show D + (6 - D) = 6 by omega] at this
  exact this
theorem cached_w {D S T : Nat} {p : Nat → Int32} {A : ab_S} {s : mo_S} {W : Nat → Nat} {F : List Nat} (hp : ab_pl p D S T) (hs : s.2.2.1 0 = p) (hh : ∀ d k, d < 6 → k < 64 → A.1 3 d k = 1 → d < D) (H : ab_R D A s W F) : f_X9_cached s = some (nI (ab_cached A.1 S)) := by
  have hS := hp.2.2.2.2.2.2.1
  have hD := hp.2.2.2.2.1
  have hst := H.2.2.2.2.2.2.1
  have hhd := H.2.2.2.2.2.1
  unfold f_X9_cached
  obtain ⟨e, h1, h2⟩ := lp_for (Q := fun e => e = nI (ab_cached A.1 S)) (B := lb_X9_cached_4 s) S (fun i x => x = (nI (ab_sum (fun k => if A.1 4 k 0 = 0 then ab_heldOf A.1 k else 0) i), nI i)) (by unfold pm_fu; omega) (by
    intro i x hi hx
    subst hx
    have le : ¬ p 1 ≤ nI i := by
      rw [hp.2.1]
      exact fun k => absurd ((nI_leI (by omega) (by omega)).mp k) (by omega)
    unfold lb_X9_cached_4
    simp only [nb_1_26, tc_1, hs, if_neg le]
    generalize ha : ab_sum (fun k => if A.1 4 k 0 = 0 then ab_heldOf A.1 k else 0) i = a
    have es : ab_sum (fun k => if A.1 4 k 0 = 0 then ab_heldOf A.1 k else 0) (i + 1) = a + (if A.1 4 i 0 = 0 then ab_heldOf A.1 i else 0) := by
      rw [← ha]
      rfl
    rw [es]
    by_cases u : A.1 4 i 0 = 0
    · rw [if_pos u, ab_heldOf_D hD (fun d hd h => hh d i hd (by omega) h)]
      obtain ⟨e, g1, g2⟩ := lp_for (Q := fun e => e = .inl (nI (a + ab_cnt (fun d => decide (A.1 3 d i = 1)) D), nI (i + 1))) (B := lb_X9_cached_16 s) D (fun j x => x = (nI (a + ab_cnt (fun d => decide (A.1 3 d i = 1)) j), nI i, nI j)) (by unfold pm_fu; omega) (by
        intro j x hj hx
        subst hx
        have lj : ¬ p 0 ≤ nI j := by
          rw [hp.1]
          exact fun k => absurd ((nI_leI (by omega) (by omega)).mp k) (by omega)
        unfold lb_X9_cached_16
        simp only [disks_w hs, if_neg lj, stateOf_w s (show i < 64 by omega), hst i (by omega), if_pos u, isHeldOn_w s (show j < 6 by omega) (show i < 64 by omega), hhd j i (by omega) (by omega), nI_1]
        by_cases v : A.1 3 j i = 1
        · rw [if_pos v, if_neg (by decide)]
          exact ⟨_, rfl, by simp [ab_cnt_s, v, Nat.add_assoc]⟩
        · rw [if_neg v, if_pos rfl]
          exact ⟨_, rfl, by simp [ab_cnt_s, v]⟩) (by
        intro x hx
        subst hx
        unfold lb_X9_cached_16
        simp only [disks_w hs, hp.1, Int32.le_refl, if_true, nI_1]
        exact ⟨_, rfl, rfl⟩) (x := (nI a, nI i, 0)) rfl
      subst g2
      exact ⟨_, g1, rfl⟩
    · rw [if_neg u, Nat.add_zero]
      have l0 : ¬ p 0 ≤ 0 := by
        rw [hp.1]
        exact fun k => absurd ((nI_leI (b := 0) (by omega) (by omega)).mp k) (by have := hp.2.2.2.1; omega)
      have b0 : lb_X9_cached_16 s (nI a, nI i, 0) = some (.inr (.inl (nI a, nI (i + 1)))) := by
        unfold lb_X9_cached_16
        simp only [disks_w hs, if_neg l0, stateOf_w s (show i < 64 by omega), hst i (by omega), if_neg u, nI_1]
      exact ⟨_, lp_inr b0, rfl⟩) (by
    intro x hx
    subst hx
    unfold lb_X9_cached_4
    simp only [nb_1_26, tc_1, hs, hp.2.1, Int32.le_refl, if_true]
    exact ⟨_, rfl, rfl⟩) (x := (0, 0)) rfl
  rw [h1, h2]
/-- are all surviving units of a stripe held? -/
theorem areAllHeld_w {D S T k : Nat} {p : Nat → Int32} {A : ab_S} {s : mo_S} {W : Nat → Nat} {F : List Nat} (hp : ab_pl p D S T) (hs : s.2.2.1 0 = p) (hk : k < 64) (H : ab_R D A s W F) : ∃ x : Int32, f_X9_areAllHeld s (nI k) = some x ∧ (x = 1 ∧ (∀ d, d < D → nI d ≠ A.1 0 0 1 → A.1 3 d k = 1) ∨ x = 0 ∧ ∃ d, d < D ∧ nI d ≠ A.1 0 0 1 ∧ A.1 3 d k ≠ 1) := by
  have hD := hp.2.2.2.2.1
  have hhd := H.2.2.2.2.2.1
  unfold f_X9_areAllHeld
  refine lp_wh (fun m x => ∃ i, i + m = D ∧ x = (nI k, nI i) ∧ ∀ d, d < i → nI d ≠ A.1 0 0 1 → A.1 3 d k = 1) ?_ pm_fu D (nI k, 0) (by unfold pm_fu; omega) ⟨0, by omega, rfl, fun d hd => absurd hd (by omega)⟩
  rintro m x ⟨i, hi, rfl, hI⟩
  unfold lb_X9_areAllHeld_2
  have le : p 0 ≤ nI i ↔ D ≤ i := by
    rw [hp.1]
    exact nI_leI (by omega) (by omega)
  simp only [disks_w hs, nI_1]
  by_cases u : D ≤ i
  · rw [if_pos (le.mpr u)]
    exact .inr ⟨_, rfl, .inl ⟨rfl, fun d hd h => hI d (by omega) h⟩⟩
  · rw [if_neg (fun h => u (le.mp h))]
    simp only [isSurviving_w hp hs (show i < 7 by omega) H]
    by_cases v : nI i ≠ A.1 0 0 1
    · have sv : (if i < D ∧ nI i ≠ A.1 0 0 1 then (1 : Int32) else 0) = 1 := if_pos ⟨by omega, v⟩
      rw [sv, if_neg (by decide)]
      simp only [isHeldOn_w s (show i < 6 by omega) hk, hhd i k (by omega) hk]
      by_cases w : A.1 3 i k = 1
      · rw [if_pos w, if_neg (by decide)]
        refine .inl ⟨_, m - 1, rfl, by omega, i + 1, by omega, rfl, fun d hd h => ?_⟩
        by_cases z : d = i
        · rw [z]
          exact w
        · exact hI d (by omega) h
      · rw [if_neg w, if_pos rfl]
        exact .inr ⟨_, rfl, .inr ⟨rfl, i, by omega, v, w⟩⟩
    · have sv : (if i < D ∧ nI i ≠ A.1 0 0 1 then (1 : Int32) else 0) = 0 := if_neg (fun h => v h.2)
      rw [sv, if_pos rfl]
      refine .inl ⟨_, m - 1, rfl, by omega, i + 1, by omega, rfl, fun d hd h => ?_⟩
      by_cases z : d = i
      · exact absurd (z ▸ h) v
      · exact hI d (by omega) h
/-- a stripe is rebuilt -/
theorem ab_R_end {D S T k : Nat} {p : Nat → Int32} {A : ab_S} {s : mo_S} {W : Nat → Nat} {F : List Nat} (hp : ab_pl p D S T) (hs : s.2.2.1 0 = p) (hk : k < S) (hf : A.1 0 0 1 ≠ -1) (H : ab_R D A s W F) : ∃ s', f_X9_stripeRebuilt s (nI k) = some s' ∧ rf_F s s' ∧ ab_R D (ab_fn A D S k) s' W F := by
  have hS := hp.2.2.2.2.2.2.1
  have hD := hp.2.2.2.2.1
  obtain ⟨s1, c1, F1, n1, t1, q1⟩ := rf_us s 3 (eb_4 (i := k) (by omega))
  have R1 := ab_R_4 n1 t1 q1 H
  unfold f_X9_stripeRebuilt
  simp only [(st_w s 3 (show k < 64 by omega)).1, (st_w s 3 (show k < 64 by omega)).2, c1]
  refine lp_for (Q := fun e => rf_F s e ∧ ab_R D (ab_fn A D S k) e W F) (B := lb_X9_stripeRebuilt_13) D (fun i x => x.2 = (nI k, nI i) ∧ rf_F s x.1 ∧ ab_R D (ab_clr (ab_v A 4 k 0 3) i k) x.1 W F) (by unfold pm_fu; omega) ?_ ?_ (x := (s1, nI k, 0)) ⟨rfl, F1, ?_⟩
  · rintro i ⟨s2, x2⟩ hi ⟨rfl, F2, R2⟩
    have hs2 : s2.2.2.1 0 = p := by rw [F2.2.2.1 0 (by decide), hs]
    have lj : ¬ p 0 ≤ nI i := by
      rw [hp.1]
      exact fun k => absurd ((nI_leI (by omega) (by omega)).mp k) (by omega)
    obtain ⟨s3, c3, F3, n3, t3, q3⟩ := rf_us s2 0 (eb_3 (i := i) (w := k) (by omega) (by omega))
    unfold lb_X9_stripeRebuilt_13
    simp only [disks_w hs2, if_neg lj, setHeld_w s2 (show i < 6 by omega) (show k < 64 by omega), c3, nI_1]
    refine ⟨_, rfl, rfl, F2.trans F3, ?_⟩
    have R3 := ab_R_3 n3 t3 q3 R2
    refine Eq.subst (motive := fun Z => ab_R D Z s3 W F) ?_ R3
    refine ab_ext (fun g j w => ?_) rfl
    rw [ab_v_1, ab_clr_1, ab_clr_1]
    by_cases u : g = 3 ∧ j < i ∧ w = k
    · rw [if_pos u, if_pos (show g = 3 ∧ j < i + 1 ∧ w = k by omega)]
      split <;> rfl
    · rw [if_neg u]
      by_cases v : g = 3 ∧ j = i ∧ w = k
      · rw [if_pos v, if_pos (by omega)]
      · rw [if_neg v, if_neg (by omega)]
  · rintro ⟨s2, x2⟩ ⟨rfl, F2, R2⟩
    have hs2 : s2.2.2.1 0 = p := by rw [F2.2.2.1 0 (by decide), hs]
    have R2' : ab_R D (ab_rb A D k) s2 W F := R2
    have f0 : (ab_rb A D k).1 0 0 1 = A.1 0 0 1 := ab_rb_o _ _ _ _ _ _ (by omega) (by omega)
    have le : ab_rebuilt (ab_rb A D k).1 S ≤ S := ab_cnt_le _ S
    have iffe : nI (ab_rebuilt (ab_rb A D k).1 S) = p 1 ↔ ab_rebuilt (ab_rb A D k).1 S = S := by
      rw [hp.2.1]
      exact nI_eq (by omega) (by omega)
    have n0 : s2.2.2.1 3 0 = A.1 0 0 0 := (R2'.1 0 (by decide)).trans (ab_rb_o _ _ _ _ _ _ (by omega) (by omega))
    unfold lb_X9_stripeRebuilt_13 ab_fn
    simp only [disks_w hs2, hp.1, Int32.le_refl, if_true, rebuilt_w hp hs2 (fun h => absurd (f0 ▸ h) hf) R2', nb_1_26, tc_1, hs2, nb_0_18186, nb_7_18186, tc_0, n0]
    by_cases u : ab_rebuilt (ab_rb A D k).1 S = S
    · rw [if_pos (iffe.mpr u), if_pos u]
      obtain ⟨s3, c3, F3, n3, t3, q3⟩ := rf_us s2 (A.1 0 0 0) (eb_0 (w := 7) (by decide))
      refine ⟨s3, ?_, F2.trans F3, ab_R_0 (by decide) (by decide) n3 t3 q3 R2'⟩
      rw [← c3]
      rfl
    · rw [if_neg (fun h => u (iffe.mp h)), if_neg u]
      exact ⟨s2, rfl, F2, R2'⟩
  · refine Eq.subst (motive := fun Z => ab_R D Z s1 W F) ?_ R1
    refine ab_ext (fun g j w => ?_) rfl
    rw [ab_clr_1, if_neg (by omega)]
