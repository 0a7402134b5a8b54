/-! bound, with an array loaded. -/
def ab_un (A : ab_S) (S d : Nat) : Nat := ab_cnt (fun k => decide ((A.1 4 k 0 = 0 ∨ A.1 4 k 0 = 1) ∧ A.1 3 d k ≠ 1)) S
theorem un_C {S d : Nat} {A : ab_S} {s : cs_S} (hd : d < 6) (hS : S ≤ 64) (H : ab_C S A s) : f_X4_unitsToRead s (nI d) (nI S) = some (nI (ab_un A S d)) := by
  unfold f_X4_unitsToRead
  obtain ⟨e, h1, h2⟩ := lp_for (Q := fun e => e = nI (ab_un A S d)) (B := lb_X4_unitsToRead_5 s) S (fun i x => x = (nI d, nI S, nI (ab_un A i d), nI i)) (by unfold pm_fu; omega) (by
    rintro i x hi rfl
    have le : ¬ nI S ≤ nI i := fun h => absurd ((nI_leI (by omega) (by omega)).mp h) (by omega)
    have k32 := (H.2.2.2.2.2.2 i (by omega)).1
    have hh := ab_holds_C hd (show i < 64 by omega) H
    unfold lb_X4_unitsToRead_5
    simp (disch := omega) only [if_neg le, nb_nI, nI_clamp, k32, hh, nI_1]
    have cs : ab_un A (i + 1) d = ab_un A i d + if decide ((A.1 4 i 0 = 0 ∨ A.1 4 i 0 = 1) ∧ A.1 3 d i ≠ 1) = true then 1 else 0 := rfl
    by_cases u : A.1 4 i 0 = 0
    · by_cases w : A.1 3 d i = 1
      · simp only [if_pos u, if_pos w, i32_10, if_false]
        exact ⟨_, rfl, by rw [cs]; simp [w]⟩
      · simp only [if_pos u, if_neg w, if_true]
        exact ⟨_, rfl, by rw [cs]; simp [w, u]⟩
    · by_cases u' : A.1 4 i 0 = 1
      · by_cases w : A.1 3 d i = 1
        · simp only [if_neg u, if_pos u', if_pos w, i32_10, if_false]
          exact ⟨_, rfl, by rw [cs]; simp [w]⟩
        · simp only [if_neg u, if_pos u', if_neg w, if_true]
          exact ⟨_, rfl, by rw [cs]; simp [w, u']⟩
      · simp only [if_neg u, if_neg u']
        exact ⟨_, rfl, by rw [cs]; simp [u, u']⟩) (by
    rintro x rfl
    unfold lb_X4_unitsToRead_5
    simp only [Int32.le_refl, if_true]
    exact ⟨_, rfl, rfl⟩) (x := (nI d, nI S, 0, 0)) rfl
  rw [h1, h2]
def ab_mx (A : ab_S) (S f : Nat) : Nat → Nat
  | 0 => 0
  | i + 1 => if i = f then ab_mx A S f i else if ab_mx A S f i < ab_un A S i then ab_un A S i else ab_mx A S f i
theorem ab_mx_le (A : ab_S) (S f : Nat) : ∀ i, ab_mx A S f i ≤ S
  | 0 => Nat.zero_le _
  | i + 1 => by
    have ih := ab_mx_le A S f i
    have := ab_cnt_le (fun k => decide ((A.1 4 k 0 = 0 ∨ A.1 4 k 0 = 1) ∧ A.1 3 i k ≠ 1)) S
    unfold ab_mx
    split
    · exact ih
    · split
      · exact this
      · exact ih
def ab_tc (R x : Nat) : Nat := (1000 * x + R - 1) / R
theorem ab_tc_w {R x : Nat} (hR : 1 ≤ R) (hR' : R ≤ 1000) (hx : x ≤ 64) : ((1000 : Int32) * nI x + nI R - 1) / nI R = nI (ab_tc R x) := by
  rw [show (1000 : Int32) * nI x = nI (1000 * x) from nI_mul 1000 x, nI_add, show nI (1000 * x + R) - 1 = nI (1000 * x + R - 1) from nI_sub (b := 1) (by omega), nI_div (by omega) (by omega)]
  rfl
theorem ab_tc_mono {R x y : Nat} (h : x ≤ y) : ab_tc R x ≤ ab_tc R y := Nat.div_le_div_right (by omega)
theorem ab_tc_0 {R : Nat} (hR : 1 ≤ R) : ab_tc R 0 = 0 := Nat.div_eq_of_lt (by omega)
theorem ab_tc_le {R x : Nat} (hR : 1 ≤ R) (hx : x ≤ 64) : ab_tc R x ≤ 65000 := by
  have h1 : ab_tc R x ≤ 1000 * x := by
    unfold ab_tc
    have : (1000 * x + R - 1) / R ≤ (1000 * x * R + (R - 1)) / R := Nat.div_le_div_right (by
      have := Nat.le_mul_of_pos_right (1000 * x) hR
      omega)
    refine Nat.le_trans this ?_
    rw [Nat.add_comm, Nat.add_mul_div_right _ _ hR, Nat.div_eq_of_lt (by omega)]
    omega
  omega
theorem p_45_E : ps_45_E_E iv_N iv_E := by
  intro j s0 s4 s5 s6 sR hj hI
  have hI' := hI
  obtain ⟨h1, D, S, T, m, n, N, ln, cnt, tk, f, p, A, L, W, F, ⟨⟨hP, hp, hs, hC, hR, hB, hF⟩, V, TR, ⟨z3, z11', zl, zd⟩, hu, fx⟩, hn, hN, h70⟩ := hI
  have hD := hp.2.2.2.2.1
  have hS := hp.2.2.2.2.2.2.1
  have hT1 := hp.2.2.2.2.2.2.2.1
  have hs' : (mo_i sR 2 0).2.2.1 0 = p := hs
  have hR' : ab_R D A (mo_i sR 2 0) W F := hR
  have ff : A.1 0 0 1 = ab_fw f := by
    cases f with
    | none => exact V.1.1
    | some f => exact V.1.1
  have fC : s5.1 31 0 = ab_fw f := hC.1.2.1.trans ff
  have fR : (mo_i sR 2 0).2.2.1 3 1 = ab_fw f := (hR'.1 1 (by decide)).trans ff
  have nowC : s5.1 0 4 = nI n := hC.1.1.trans hB.2.2.2.2.2.1.2.2.2
  have nowR : (mo_i sR 2 0).2.2.1 3 0 = nI n := (hR'.1 0 (by decide)).trans hB.2.2.2.2.2.1.2.2.2
  obtain ⟨R, R1, R2⟩ := (hp.2.2.2.2.2.2.2.2.2.2.2.2.2.2 0 (by omega)).1
  have sh : s4.2.1 1 0 = nI R := (hP.2.2.2.2.2.2.2.2 0 (by decide)).1.trans R2
  have so : f_X9_shareOf (mo_i sR 2 0) 0 0 = some (nI R) := by
    have := shareOf_0 (mo_i sR 2 0) (i := 0) (by decide)
    rw [hs', Nat.add_zero, R2] at this
    exact this
  have z0 : ((nI 0 : Int32)) = 0 := rfl
  unfold f_X8_bound_E f_X9_bound
  simp only [fC, isArray_w hp hs', i32_10, if_false, so, nb_1_18186, tc_1, fR, nb_0_6, tc_0, sh]
  cases f with
  | none =>
    have e : ab_fw none = -1 := rfl
    simp only [e, if_true]
    exact ⟨_, _, rfl, rfl, iv_E_i hI'⟩
  | some f =>
    have fD := V.1.2.1
    have nf : ¬ ab_fw (some f) = -1 := nI_nm (by omega)
    simp only [if_neg nf]
    by_cases r0 : R = 0
    · have a1 : ¬ (0 : Int32) < nI R := by rw [r0]; decide
      have a2 : nI R = 0 := by rw [r0]; rfl
      simp only [if_neg a1, if_pos a2]
      exact ⟨_, _, rfl, rfl, iv_E_i hI'⟩
    · have a1 : (0 : Int32) < nI R := (nI_ltI (a := 0) (by decide) (by omega)).mpr (by omega)
      have a2 : ¬ nI R = 0 := nI_ne0 (by omega) (by omega)
      simp only [if_pos a1, if_neg a2]
      have mxl := ab_mx_le A S f
      have cl : pm_loop pm_fu (lb_X8_bound_E_42 s0 s4 s5) (0, 0) = some (nI n + nI (ab_tc R (ab_mx A S f D))) := by
        obtain ⟨e, g1, g2⟩ := lp_for (Q := fun e => e = nI n + nI (ab_tc R (ab_mx A S f D))) (B := lb_X8_bound_E_42 s0 s4 s5) D (fun i x => x = (nI (ab_mx A S f i), nI i)) (by unfold pm_fu; omega) (by
          rintro i x hi rfl
          have le : ¬ s4.1 0 0 ≤ nI i := by
            rw [hP.1, hp.1]
            exact fun k => absurd ((nI_leI (by omega) (by omega)).mp k) (by omega)
          have eqf : nI i = ab_fw (some f) ↔ i = f := nI_eq (by omega) (by omega)
          have mi := mxl i
          have ul : ab_un A S i ≤ S := ab_cnt_le _ S
          have mxs : ab_mx A S f (i + 1) = if i = f then ab_mx A S f i else if ab_mx A S f i < ab_un A S i then ab_un A S i else ab_mx A S f i := rfl
          have uc : f_X4_unitsToRead s5 (nI i) (s4.1 0 1) = some (nI (ab_un A S i)) := by rw [hP.2.1, hp.2.1]; exact un_C (by omega) hS hC
          unfold lb_X8_bound_E_42
          simp only [if_neg le, fC, uc, nI_1]
          by_cases u : i = f
          · simp only [if_pos (eqf.mpr u)]
            exact ⟨_, rfl, by rw [mxs, if_pos u]⟩
          · simp only [if_neg (fun h => u (eqf.mp h))]
            by_cases v : ab_mx A S f i < ab_un A S i
            · rw [if_pos ((nI_ltI (by omega) (by omega)).mpr v)]
              exact ⟨_, rfl, by rw [mxs, if_neg u, if_pos v]⟩
            · rw [if_neg (fun h => v ((nI_ltI (by omega) (by omega)).mp h))]
              exact ⟨_, rfl, by rw [mxs, if_neg u, if_neg v]⟩) (by
          rintro x rfl
          have le : s4.1 0 0 ≤ nI D := by rw [hP.1, hp.1]; exact Int32.le_refl _
          have md := mxl D
          unfold lb_X8_bound_E_42
          simp only [if_pos le, nb_0_6, tc_0, sh, if_neg a2, nowC]
          exact ⟨_, rfl, by rw [ab_tc_w (by omega) R1 (by omega)]⟩) (x := (0, 0)) rfl
        rw [g1, g2]
      have rl : pm_loop pm_fu lb_X9_bound_43 (mo_i sR 2 0, nI R, 0, 0) = some (nI n + nI (ab_tc R (ab_mx A S f D)), mo_i sR 2 0) := by
        obtain ⟨e, g1, g2⟩ := lp_for (Q := fun e => e = (nI n + nI (ab_tc R (ab_mx A S f D)), mo_i sR 2 0)) (B := lb_X9_bound_43) D (fun i x => x = (mo_i sR 2 0, nI R, nI (ab_tc R (ab_mx A S f i)), nI i)) (by unfold pm_fu; omega) (by
          rintro i x hi rfl
          have le : ¬ p 0 ≤ nI i := by
            rw [hp.1]
            exact fun k => absurd ((nI_leI (by omega) (by omega)).mp k) (by omega)
          have mi := mxl i
          have ul : ab_un A S i ≤ S := ab_cnt_le _ S
          have mxs : ab_mx A S f (i + 1) = if i = f then ab_mx A S f i else if ab_mx A S f i < ab_un A S i then ab_un A S i else ab_mx A S f i := rfl
          have eqf : nI i = ab_fw (some f) ↔ i = f := nI_eq (by omega) (by omega)
          have t1 := ab_tc_le (R := R) (x := ab_mx A S f i) (by omega) (by omega)
          have t2 := ab_tc_le (R := R) (x := ab_un A S i) (by omega) (by omega)
          unfold lb_X9_bound_43
          simp only [disks_w hs', if_neg le]
          by_cases u : i = f
          · have sv : f_X9_isSurviving (mo_i sR 2 0) (nI i) = some 0 := by
              rw [isSurviving_w hp hs' (show i < 7 by omega) hR', ff, if_neg (fun h => h.2 (eqf.mpr u))]
            have l0 : ¬ p 1 ≤ 0 := by
              rw [hp.2.1]
              exact fun k => absurd ((nI_leI (b := 0) (by omega) (by decide)).mp k) (by have := hp.2.2.2.2.2.1; omega)
            have c0 := ab_tc_w (R := R) (x := 0) (by omega) R1 (by omega)
            rw [z0, ab_tc_0 (by omega)] at c0
            have le2 : (0 : Int32) ≤ nI (ab_tc R (ab_mx A S f i)) := nI_pos' (by omega)
            have b57 : lb_X9_bound_57 (mo_i sR 2 0, nI R, nI (ab_tc R (ab_mx A S f i)), nI i, 0, 0) = some (.inr (.inl (mo_i sR 2 0, nI R, nI (ab_tc R (ab_mx A S f i)), nI (i + 1)))) := by
              unfold lb_X9_bound_57
              simp only [nb_1_26, tc_1, hs', if_neg l0, sv, if_true, if_neg a2, c0, z0, if_pos le2, nI_1]
            exact ⟨_, lp_inr b57, by rw [mxs, if_pos u]⟩
          · have sv : f_X9_isSurviving (mo_i sR 2 0) (nI i) = some 1 := by
              rw [isSurviving_w hp hs' (show i < 7 by omega) hR', ff, if_pos ⟨hi, fun h => u (eqf.mp h)⟩]
            obtain ⟨e, k1, k2⟩ := lp_for (Q := fun e => e = .inl (mo_i sR 2 0, nI R, nI (ab_tc R (ab_mx A S f (i + 1))), nI (i + 1))) (B := lb_X9_bound_57) S (fun c x => x = (mo_i sR 2 0, nI R, nI (ab_tc R (ab_mx A S f i)), nI i, nI (ab_un A c i), nI c)) (by unfold pm_fu; omega) (by
              rintro c x hc rfl
              have l0 : ¬ p 1 ≤ nI c := by
                rw [hp.2.1]
                exact fun k => absurd ((nI_leI (by omega) (by omega)).mp k) (by omega)
              have r4 : vn (mo_i sR 2 0) 4 c 0 = A.1 4 c 0 := hR'.2.2.2.2.2.2.1 c (by omega)
              have r3 : vn (mo_i sR 2 0) 3 i c = A.1 3 i c := hR'.2.2.2.2.2.1 i c (by omega) (by omega)
              have cs : ab_un A (c + 1) i = ab_un A c i + if decide ((A.1 4 c 0 = 0 ∨ A.1 4 c 0 = 1) ∧ A.1 3 i c ≠ 1) = true then 1 else 0 := rfl
              have o := i32_12
              unfold lb_X9_bound_57
              simp only [nb_1_26, tc_1, hs', if_neg l0, sv, i32_10, if_false, stateOf_w (mo_i sR 2 0) (show c < 64 by omega), r4, isHeldOn_w (mo_i sR 2 0) (show i < 6 by omega) (show c < 64 by omega), r3, nI_1]
              have low : (A.1 4 c 0 = 0 ∨ A.1 4 c 0 = 1) ∨ (A.1 4 c 0 = 2 ∨ A.1 4 c 0 = 3) := by
                rcases V.1.2.2.2 c (by omega) with h | h | h | h
                · exact .inl (.inl h.1)
                · exact .inl (.inr h.1)
                · exact .inr (.inl h.1)
                · exact .inr (.inr h.1)
              rcases low with h | h
              · have nl : ¬ (1 : Int32) < A.1 4 c 0 := by
                  rcases h with h | h
                  · rw [h]; exact o.1
                  · rw [h]; exact o.2.1
                simp only [if_neg nl]
                by_cases w : A.1 3 i c = 1
                · simp only [if_pos w, i32_10, if_false]
                  exact ⟨_, rfl, by rw [cs]; simp [w]⟩
                · simp only [if_neg w, if_true]
                  exact ⟨_, rfl, by rw [cs]; simp [w, h]⟩
              · have nl : (1 : Int32) < A.1 4 c 0 := by
                  rcases h with h | h
                  · rw [h]; exact o.2.2.1
                  · rw [h]; exact o.2.2.2.1
                have n01 : ¬ (A.1 4 c 0 = 0 ∨ A.1 4 c 0 = 1) := by
                  rcases h with h | h
                  · rw [h]; decide
                  · rw [h]; decide
                simp only [if_pos nl]
                exact ⟨_, rfl, by rw [cs]; simp [n01]⟩) (by
              rintro x rfl
              have l0 : p 1 ≤ nI S := by rw [hp.2.1]; exact Int32.le_refl _
              have c1 := ab_tc_w (R := R) (x := ab_un A S i) (by omega) R1 (by omega)
              unfold lb_X9_bound_57
              simp only [nb_1_26, tc_1, hs', if_pos l0, if_neg a2, c1, nI_1]
              by_cases v : ab_tc R (ab_un A S i) ≤ ab_tc R (ab_mx A S f i)
              · rw [if_pos ((nI_leI (by omega) (by omega)).mpr v)]
                refine ⟨_, rfl, ?_⟩
                have : ab_tc R (ab_mx A S f (i + 1)) = ab_tc R (ab_mx A S f i) := by
                  rw [mxs, if_neg u]
                  by_cases w : ab_mx A S f i < ab_un A S i
                  · rw [if_pos w]
                    exact Nat.le_antisymm v (ab_tc_mono (by omega))
                  · rw [if_neg w]
                rw [this]
              · rw [if_neg (fun h => v ((nI_leI (by omega) (by omega)).mp h))]
                refine ⟨_, rfl, ?_⟩
                have w : ab_mx A S f i < ab_un A S i := by
                  apply Classical.byContradiction
                  intro h
                  exact v (ab_tc_mono (by omega))
                rw [mxs, if_neg u, if_pos w]) (x := (mo_i sR 2 0, nI R, nI (ab_tc R (ab_mx A S f i)), nI i, 0, 0)) rfl
            subst k2
            exact ⟨_, k1, rfl⟩) (by
          rintro x rfl
          have le : p 0 ≤ nI D := by rw [hp.1]; exact Int32.le_refl _
          unfold lb_X9_bound_43
          simp only [disks_w hs', if_pos le, nb_0_18186, tc_0, nowR]
          exact ⟨_, rfl, rfl⟩) (x := (mo_i sR 2 0, nI R, 0, 0)) (by
            have e0 : ab_tc R (ab_mx A S f 0) = 0 := ab_tc_0 (by omega)
            rw [e0]
            rfl)
        rw [g1, g2]
      rw [cl, rl]
      exact ⟨_, _, rfl, rfl, iv_E_i hI'⟩
