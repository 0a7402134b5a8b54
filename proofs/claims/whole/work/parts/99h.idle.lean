/-! A tick at which nothing happens, the reference. -/
theorem ab_be_none {c : Nat → Option Int64} : ∀ (i : Nat), (∀ t, t < i → c t = none) → ab_be c i = none
  | 0, _ => rfl
  | i + 1, h => by
    show (match c i with | none => ab_be c i | some r => _) = none
    rw [h i (by omega)]
    exact ab_be_none i (fun t ht => h t (by omega))
theorem ab_ch0 {D S T d : Nat} {p : Nat → Int32} {A : ab_S} {s : mo_S} {W : Nat → Nat} {F : List Nat} (hp : ab_pl p D S T) (hs : s.2.2.1 0 = p) (hd : d < 7) (hn : ∀ w t, w < 3 → t < T → ab_cd p A d w t = none) (H : ab_R D A s W F) : f_X9_choose s (nI d) = some s := by
  unfold f_X9_choose
  obtain ⟨e, h1, h2⟩ := lp_for (Q := fun e => e = s) (B := lb_X9_choose_2) 3 (fun i x => x = (s, nI d, nI i)) (by unfold pm_fu; omega) (by
    rintro i x hi rfl
    have l3 : ¬ (3 : Int32) ≤ nI i := fun h => absurd ((nI_leI (a := 3) (by decide) (by omega)).mp h) (by omega)
    have br := ab_best_R hp hs hd (show i < 3 by omega) H
    rw [ab_be_none T (fun t ht => hn i t hi ht)] at br
    have br' : f_X9_bestTenant s (nI d) (nI i) = some (-1) := br
    unfold lb_X9_choose_2
    simp only [if_neg l3, br', if_true, nI_1]
    exact ⟨_, rfl, rfl⟩) (by
    rintro x rfl
    have l3 : (3 : Int32) ≤ nI 3 := by decide
    unfold lb_X9_choose_2
    simp only [if_pos l3]
    exact ⟨_, rfl, rfl⟩) (x := (s, nI d, 0)) rfl
  rw [h1, h2]
theorem ab_idle {D S T m n N ln cnt : Nat} {tk : Nat → Nat} {f : Option Nat} {p : Nat → Int32} {A : ab_S} {L : Nat → Bool} {W : Nat → Nat} {F : List Nat} {s6 : cs_S} {s : mo_S} (hp : ab_pl p D S T) (hs : s.2.2.1 0 = p) (hR : ab_R D A s W F) (hB : ab_B D S T m n N A L) (V : ab_V D S m f A L) (TR : ab_TR D S T cnt tk s6 s) (h3 : A.1 0 0 3 = nI ln) (hln : ln ≤ cnt) (hl : ∀ i, ln ≤ i → i < cnt → n < tk i) (hu : ∀ d c, d ≤ D → A.2.2.2 d = some c → A.1 1 d 1 ≠ nI n) (fx : ab_fx p S f A) (hc : ∀ d, d ≤ D → A.2.2.2 d = none → ∀ w t, w < 3 → t < T → ab_cd p A d w t = none) : tk_R s = some s := by
  have hD := hp.2.2.2.2.1
  have hS := hp.2.2.2.2.2.2.1
  have hT := hp.2.2.2.2.2.2.2.2.1
  have nowR : s.2.2.1 3 0 = nI n := (hR.1 0 (by decide)).trans hB.2.2.2.2.2.1.2.2.2
  have hn := hB.2.2.2.2.2.1.2.2.1
  have gt : p 0 < nI (D + 1) := by
    rw [hp.1]
    exact (nI_ltI (by omega) (by omega)).mpr (by omega)
  have lt : ∀ i, i < D + 1 → ¬ p 0 < nI i := fun i hi => by
    rw [hp.1]
    exact fun h => absurd ((nI_ltI (by omega) (by omega)).mp h) (by omega)
  have Rd := fun d hd => (hR.2.2.2.2.1 d hd).1 (V.2.2.2.2.1 d hd)
  have e1 : f_X9_finishServices s = some s := by
    unfold f_X9_finishServices
    obtain ⟨e, h1, h2⟩ := lp_for (Q := fun e => e = s) (B := lb_X9_finishServices_2) (D + 1) (fun i x => x = (s, nI i)) (by unfold pm_fu; omega) (by
      rintro i x hi rfl
      unfold lb_X9_finishServices_2
      simp only [disks_w hs, if_neg (lt i hi), ofDisk_0 s (show i < 7 by omega), ofDisk_1 s (show i < 7 by omega), (Rd i (by omega)).1, (Rd i (by omega)).2.1, nb_0_18186, tc_0, nowR, nI_1]
      cases hsv : A.2.2.2 i with
      | none =>
        simp only [if_true]
        exact ⟨_, rfl, rfl⟩
      | some c =>
        have O := hR.2.2.2.2.2.2.2.2.2.1 c (.inr ⟨i, by omega, hsv⟩)
        have nW : ¬ nI (W c) = -1 := nI_nm (by have := O.1; omega)
        simp only [if_neg nW, if_neg (hu i c (by omega) hsv)]
        exact ⟨_, rfl, rfl⟩) (by
      rintro x rfl
      unfold lb_X9_finishServices_2
      simp only [disks_w hs, if_pos gt]
      exact ⟨_, rfl, rfl⟩) (x := (s, 0)) rfl
    rw [h1, h2]
  have e2 : f_X9_submitLines s = some s := by
    unfold f_X9_submitLines
    have r3 : s.2.2.1 3 3 = nI ln := (hR.1 3 (by decide)).trans h3
    obtain ⟨⟨T1, T2, T3, T4⟩, T5⟩ := TR
    refine lp_inr ?_
    unfold lb_X9_submitLines_0
    simp only [T3, r3, nb_3_18186, tc_3]
    by_cases u : cnt ≤ ln
    · rw [if_pos ((nI_leI (by omega) (by omega)).mpr u)]
    · rw [if_neg (fun h => u ((nI_leI (by omega) (by omega)).mp h))]
      obtain ⟨g1, g2, g3, _⟩ := T5 ln (by omega)
      have i5 : (5 : Int32) * nI ln = nI (5 * ln) := nI_mul 5 ln
      have ne : ¬ nI (tk ln) = nI n := fun h => by
        have := (nI_eq (by omega) (by omega)).mp h
        have := hl ln (by omega) (by omega)
        omega
      simp (disch := omega) only [i5, nb_nI, nI_clamp, nb_0_18186, tc_0, g3, nowR, if_neg ne]
  have fR : s.2.2.1 3 1 = ab_fw f := by
    have : A.1 0 0 1 = ab_fw f := by
      cases f with
      | none => exact V.1.1
      | some f => exact V.1.1
    exact (hR.1 1 (by decide)).trans this
  have e4 : pm_loop pm_fu lb_X9_passTick_38 (s, 0) = some s := by
    obtain ⟨e, h1, h2⟩ := lp_for (Q := fun e => e = s) (B := lb_X9_passTick_38) (D + 1) (fun i x => x = (s, nI i)) (by unfold pm_fu; omega) (by
      rintro i x hi rfl
      unfold lb_X9_passTick_38
      simp only [disks_w hs, if_neg (lt i hi), ofDisk_0 s (show i < 7 by omega), (Rd i (by omega)).1, nb_1_18186, tc_1, nI_1]
      cases hsv : A.2.2.2 i with
      | none =>
        simp only [if_true, ab_ch0 hp hs (show i < 7 by omega) (hc i (by omega) hsv) hR]
        split
        · exact ⟨_, rfl, rfl⟩
        · exact ⟨_, rfl, rfl⟩
      | some c =>
        have O := hR.2.2.2.2.2.2.2.2.2.1 c (.inr ⟨i, by omega, hsv⟩)
        have nW : ¬ nI (W c) = -1 := nI_nm (by have := O.1; omega)
        simp only [if_neg nW]
        exact ⟨_, rfl, rfl⟩) (by
      rintro x rfl
      unfold lb_X9_passTick_38
      simp only [disks_w hs, if_pos gt]
      exact ⟨_, rfl, rfl⟩) (x := (s, 0)) rfl
    rw [h1, h2]
  unfold tk_R
  simp only [e1, e2, fR]
  cases f with
  | none => exact e4
  | some f =>
    have nf : ¬ ab_fw (some f) = -1 := nI_nm (by have := V.1.2.1; omega)
    rw [if_neg nf]
    have e3 : f_X9_startStripes s = some s := by
      unfold f_X9_startStripes
      rw [underway_w hp hs hR]
      simp only []
      have hst := hR.2.2.2.2.2.2.1
      obtain ⟨e, h1, h2⟩ := lp_wh (Q := fun e => e = s) (B := lb_X9_startStripes_7) (fun mm x => ∃ i, i + mm = S ∧ x = (s, nI (ab_started A.1 S), nI i)) (by
        rintro mm x ⟨i, hi, rfl⟩
        unfold lb_X9_startStripes_7
        have le : p 1 ≤ nI i ↔ S ≤ i := by
          rw [hp.2.1]
          exact nI_leI (by omega) (by omega)
        simp only [nb_1_26, nb_4_26, tc_1, tc_4, hs]
        by_cases u : S ≤ i
        · simp only [if_pos (le.mpr u)]
          exact .inr ⟨_, rfl, rfl⟩
        · simp only [if_neg (fun h => u (le.mp h))]
          by_cases v : p 4 ≤ nI (ab_started A.1 S)
          · simp only [if_pos v]
            exact .inr ⟨_, rfl, rfl⟩
          · have nz : A.1 4 i 0 ≠ 0 := by
              rcases fx f rfl with h | h
              · exact h i (by omega)
              · exact absurd h v
            simp only [if_neg v, stateOf_w s (show i < 64 by omega), hst i (by omega), if_neg nz, nI_1]
            exact .inl ⟨_, mm - 1, rfl, by omega, i + 1, by omega, rfl⟩) pm_fu S (s, nI (ab_started A.1 S), 0) (by unfold pm_fu; omega) ⟨0, by omega, rfl⟩
      rw [h1, h2]
    simp only [e3]
    exact e4
/-- the clock alone -/
theorem ab_B_now {D S T m n n' N : Nat} {A : ab_S} {L : Nat → Bool} (hn' : n' ≤ 100000) (hu : ∀ d c, d < 7 → A.2.2.2 d = some c → ∃ e, A.1 1 d 1 = nI e ∧ n' ≤ e ∧ e ≤ 101000) (H : ab_B D S T m n N A L) : ab_B D S T m n' N (ab_v A 0 0 0 (nI n')) L := by
  obtain ⟨B1, B2, B3, B4, B5, B6, B7, B8, B9, B10⟩ := H
  have v1 : ∀ g i w, ¬ (g = 0 ∧ w = 0) → (ab_v A 0 0 0 (nI n')).1 g i w = A.1 g i w := fun g i w h => by rw [ab_v_1, if_neg (by omega)]
  refine ⟨B1, B2, ?_, B4, B5, ?_, ?_, ?_, B9, B10⟩
  · intro q a hq ha
    have := B3 q a hq ha
    unfold ab_ten at this ⊢
    rw [v1 _ _ _ (by omega)]
    exact this
  · rw [v1 _ _ _ (by omega), ab_v_1, if_pos ⟨rfl, rfl, rfl⟩]
    exact ⟨B6.1, B6.2.1, hn', rfl⟩
  · intro r hr
    rw [v1 _ _ _ (by omega), v1 _ _ _ (by omega), v1 _ _ _ (by omega), v1 _ _ _ (by omega)]
    exact B7 r hr
  · intro d hd
    rw [v1 _ _ _ (by omega), v1 _ _ _ (by omega)]
    exact ⟨(B8 d hd).1, fun c hc => hu d c hd hc, (B8 d hd).2.2⟩
