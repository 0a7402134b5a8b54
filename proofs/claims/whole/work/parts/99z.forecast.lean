/-! forecast, with an array loaded. -/
theorem ab_R_ck {D : Nat} {A : ab_S} {s s' : mo_S} {W : Nat → Nat} {F : List Nat} (h3 : ∀ k, k < 18186 → s'.2.2.1 3 k = s.2.2.1 3 k) (h5 : ∀ k, k < 6726 → s'.2.2.2 5 k = s.2.2.2 5 k) (H : ab_R D A s W F) : ab_R D A s' W F := by
  have hv : ∀ g i w, vn s' g i w = vn s g i w := fun g i w => by
    unfold vn
    by_cases u : eb g i w = true
    · rw [if_pos u, if_pos u, h3 _ (en_lt u)]
    · rw [if_neg u, if_neg u]
  have ht : ∀ i w, vt s' i w = vt s i w := fun i w => by
    unfold vt
    by_cases u : i < 2200 ∧ w < 3
    · rw [if_pos u, if_pos u, h5 _ (by omega)]
    · rw [if_neg u, if_neg u]
  have hq : ∀ i w, vq s' i w = vq s i w := fun i w => by
    unfold vq
    by_cases u : i < 42 ∧ w < 3
    · rw [if_pos u, if_pos u, h5 _ (by omega)]
    · rw [if_neg u, if_neg u]
  refine ab_R_v H rfl (hv _ _ _) (fun _ _ => hv _ _ _) (fun _ _ => hv _ _ _) ht hq ?_ (fun _ _ => hv _ _ _) (fun _ _ => rfl) ?_ ?_ ?_ ?_ (fun c _ => ⟨rfl, rfl, rfl⟩)
  · intro w h
    rw [hv]
    rcases h with h | rfl | rfl
    · exact H.1 w h
    · exact H.2.1
    · exact H.2.2.1
  · intro d k h1 h2
    rw [hv]
    exact H.2.2.2.2.2.1 d k h1 h2
  · intro k h1
    rw [hv]
    exact H.2.2.2.2.2.2.1 k h1
  · intro r w h1 h2 h3
    rw [hv]
    exact H.2.2.2.2.2.2.2.1 r w h1 h2 h3
  · intro t w h1 h2
    rw [hv]
    exact H.2.2.2.2.2.2.2.2.1 t w h1 h2
/-- ints and word the same, and the arrays but p; the longs but q -/
def fk (p q : Nat) (s s' : mo_S) : Prop := s'.1 = s.1 ∧ s'.2.1 = s.2.1 ∧ (∀ r, r ≠ p → s'.2.2.1 r = s.2.2.1 r) ∧ (∀ r, r ≠ q → s'.2.2.2 r = s.2.2.2 r)
theorem fk_a {p q : Nat} {s s' : mo_S} (h : fk p q s s') (i v : Int32) : fk p q s (mo_a s' p i v) := by
  refine ⟨h.1, h.2.1, fun r hr => ?_, h.2.2.2⟩
  rw [← h.2.2.1 r hr]
  funext k
  rw [mo_a_3, if_neg (by omega)]
theorem fk_l {p q : Nat} {s s' : mo_S} (h : fk p q s s') (i : Int32) (v : Int64) : fk p q s (mo_l s' q i v) := by
  refine ⟨h.1, h.2.1, h.2.2.1, fun r hr => ?_⟩
  rw [← h.2.2.2 r hr]
  funext k
  rw [mo_l_4, if_neg (by omega)]
theorem i32_c (n i : Nat) (hn : n < 2 ^ 31) (hi : i < 2 ^ 31) (h : i < n) : ¬ nI n ≤ nI i := fun k => absurd ((nI_leI hn hi).mp k) (by omega)
/-- the four copying loops -/
theorem fo_166 (s : mo_S) (x : Int32) : ∃ s', pm_loop pm_fu lb_X9_forecast_166 (s, x, 0) = some (x, s') ∧ fk 3 5 s s' ∧ (∀ k, k < 6726 → s'.2.2.2 5 k = s.2.2.2 6 k) ∧ s'.2.2.1 = s.2.2.1 := by
  obtain ⟨e, h1, s', rfl, h2⟩ := lp_for (Q := fun e => ∃ s', e = (x, s') ∧ fk 3 5 s s' ∧ (∀ k, k < 6726 → s'.2.2.2 5 k = s.2.2.2 6 k) ∧ s'.2.2.1 = s.2.2.1) (B := lb_X9_forecast_166) 6726 (fun i y => y.2 = (x, nI i) ∧ fk 3 5 s y.1 ∧ (∀ k, k < i → y.1.2.2.2 5 k = s.2.2.2 6 k) ∧ y.1.2.2.1 = s.2.2.1) (by unfold pm_fu; omega) (by
    rintro i ⟨y, y2⟩ hi ⟨rfl, f, c, e⟩
    simp only [] at f c e
    have le : ¬ (6726 : Int32) ≤ nI i := i32_c 6726 i (by decide) (by omega) hi
    have nb : pm_inb (nI i) 6726 = true := nb_nI hi (by decide)
    unfold lb_X9_forecast_166
    simp only [if_neg le, nb, nI_1]
    refine ⟨_, rfl, rfl, fk_l f _ _, fun k hk => ?_, e⟩
    rw [mo_l_k _ _ _ hi, nI_clamp (by omega), f.2.2.2 6 (by decide)]
    by_cases z : k = i
    · rw [if_pos z, z]
    · rw [if_neg z]
      exact c k (by omega)) (by
    rintro ⟨y, y2⟩ ⟨rfl, f, c, e⟩
    have le : (6726 : Int32) ≤ nI 6726 := Int32.le_refl _
    unfold lb_X9_forecast_166
    simp only [if_pos le]
    exact ⟨_, rfl, y, rfl, f, c, e⟩) (x := (s, x, 0)) ⟨rfl, ⟨rfl, rfl, fun _ _ => rfl, fun _ _ => rfl⟩, fun k hk => absurd hk (by omega), rfl⟩
  exact ⟨s', h1, h2⟩
theorem fo_139 (s : mo_S) (x : Int32) : ∃ s', pm_loop pm_fu lb_X9_forecast_139 (s, x, 0) = some (x, s') ∧ fk 3 5 s s' ∧ (∀ k, k < 18186 → s'.2.2.1 3 k = s.2.2.1 4 k) ∧ (∀ k, k < 6726 → s'.2.2.2 5 k = s.2.2.2 6 k) := by
  obtain ⟨e, h1, s', rfl, h2⟩ := lp_for (Q := fun e => ∃ s', e = (x, s') ∧ fk 3 5 s s' ∧ (∀ k, k < 18186 → s'.2.2.1 3 k = s.2.2.1 4 k) ∧ (∀ k, k < 6726 → s'.2.2.2 5 k = s.2.2.2 6 k)) (B := lb_X9_forecast_139) 18186 (fun i y => y.2 = (x, nI i) ∧ fk 3 5 s y.1 ∧ (∀ k, k < i → y.1.2.2.1 3 k = s.2.2.1 4 k)) (by unfold pm_fu; omega) (by
    rintro i ⟨y, y2⟩ hi ⟨rfl, f, c⟩
    simp only [] at f c
    have le : ¬ (18186 : Int32) ≤ nI i := i32_c 18186 i (by decide) (by omega) hi
    have nb : pm_inb (nI i) 18186 = true := nb_nI hi (by decide)
    unfold lb_X9_forecast_139
    simp only [if_neg le, nb, nI_1]
    refine ⟨_, rfl, rfl, fk_a f _ _, fun k hk => ?_⟩
    rw [mo_a_3, nI_clamp (by omega), f.2.2.1 4 (by decide)]
    by_cases z : k = i
    · rw [if_pos ⟨rfl, z⟩, z]
    · rw [if_neg (fun h => z h.2)]
      exact c k (by omega)) (by
    rintro ⟨y, y2⟩ ⟨rfl, f, c⟩
    simp only [] at f c
    obtain ⟨s', g1, g2, g3, g4⟩ := fo_166 y x
    have le : (18186 : Int32) ≤ nI 18186 := Int32.le_refl _
    unfold lb_X9_forecast_139
    simp only [if_pos le, g1]
    refine ⟨_, rfl, s', rfl, ⟨g2.1.trans f.1, g2.2.1.trans f.2.1, fun r hr => (g2.2.2.1 r hr).trans (f.2.2.1 r hr), fun r hr => (g2.2.2.2 r hr).trans (f.2.2.2 r hr)⟩, fun k hk => by rw [g4]; exact c k hk, fun k hk => by rw [g3 k hk, f.2.2.2 6 (by decide)]⟩) (x := (s, x, 0)) ⟨rfl, ⟨rfl, rfl, fun _ _ => rfl, fun _ _ => rfl⟩, fun k hk => absurd hk (by omega)⟩
  exact ⟨s', h1, h2⟩
/-- the ticks of the forecast -/
theorem fo_90 {tg : Nat} (htg : tg ≤ 99999) : ∀ (j i fu n : Nat) (s s' : mo_S), n + j = tg → (tg = 99999 ∨ i + j = 20000) → i + j ≤ 20000 → j < fu → rt true j n s = some s' → pm_loop fu lb_X9_forecast_90 (s, nI i) = pm_loop pm_fu lb_X9_forecast_139 (s', s'.2.2.1 3 7, 0)
  | 0, i, fu, n, s, s', hn, he, hi, hf, h => by
    cases fu with
    | zero => omega
    | succ fu =>
      rw [rt_0] at h
      split at h
      rotate_left
      · cases h
      rename_i r0
      have e : s = s' := Option.some.inj h
      subst e
      obtain ⟨z, z1, _⟩ := fo_139 s (s.2.2.1 3 7)
      rw [z1]
      refine lp_inr ?_
      unfold lb_X9_forecast_90
      simp only [nb_0_18186, nb_7_18186, tc_0, tc_7, r0, z1]
      by_cases u : (20000 : Int32) ≤ nI i
      · rw [if_pos u]
      · rw [if_neg u]
        have hi2 : i ≠ 20000 := fun e => u (by rw [e]; exact Int32.le_refl _)
        have l9 : (99999 : Int32) ≤ nI n := (nI_leI (a := 99999) (by decide) (by omega)).mpr (by omega)
        rw [if_pos l9]
  | j + 1, i, fu, n, s, s', hn, he, hi, hf, h => by
    cases fu with
    | zero => omega
    | succ fu =>
      rw [rt_s] at h
      split at h
      rotate_left
      · cases h
      rename_i r0
      have u : ¬ (20000 : Int32) ≤ nI i := fun k => absurd ((nI_leI (a := 20000) (by decide) (by omega)).mp k) (by omega)
      have l9 : ¬ (99999 : Int32) ≤ nI n := fun k => absurd ((nI_leI (a := 99999) (by decide) (by omega)).mp k) (by omega)
      by_cases c : s.2.2.1 3 7 = -1
      · rw [if_neg (fun k => k.2 c)] at h
        cases hp : f_X9_passTick s with
        | none =>
          rw [hp] at h
          cases h
        | some s1 =>
          rw [hp] at h
          have b : lb_X9_forecast_90 (s, nI i) = some (.inl (s1, nI (i + 1))) := by
            unfold lb_X9_forecast_90
            simp only [if_neg u, nb_0_18186, nb_7_18186, tc_0, tc_7, r0, if_neg l9, if_pos c, hp, nI_1]
          rw [lp_inl b]
          exact fo_90 htg j (i + 1) fu (n + 1) s1 s' (by omega) (by omega) (by omega) (by omega) h
      · rw [if_pos ⟨rfl, c⟩] at h
        have e : s = s' := Option.some.inj h
        subst e
        obtain ⟨z, z1, _⟩ := fo_139 s (s.2.2.1 3 7)
        rw [z1]
        refine lp_inr ?_
        unfold lb_X9_forecast_90
        simp only [if_neg u, nb_0_18186, nb_7_18186, tc_0, tc_7, r0, if_neg l9, if_neg c, z1]
theorem fo_63 {P : Int32 × mo_S → Prop} (s : mo_S) (H : ∀ t, fk 4 6 s t → t.2.2.1 4 = s.2.2.1 4 → (∀ k, k < 6726 → t.2.2.2 6 k = s.2.2.2 5 k) → ∃ e, pm_loop pm_fu lb_X9_forecast_90 (t, 0) = some e ∧ P e) : ∃ e, pm_loop pm_fu lb_X9_forecast_63 (s, 0) = some e ∧ P e := by
  refine lp_for (Q := P) (B := lb_X9_forecast_63) 6726 (fun i y => y.2 = nI i ∧ fk 4 6 s y.1 ∧ y.1.2.2.1 4 = s.2.2.1 4 ∧ (∀ k, k < i → y.1.2.2.2 6 k = s.2.2.2 5 k)) (by unfold pm_fu; omega) ?_ ?_ (x := (s, 0)) ⟨rfl, ⟨rfl, rfl, fun _ _ => rfl, fun _ _ => rfl⟩, rfl, fun k hk => absurd hk (by omega)⟩
  · rintro i ⟨y, y2⟩ hi ⟨rfl, f, e, c⟩
    simp only [] at f c e
    have le : ¬ (6726 : Int32) ≤ nI i := i32_c 6726 i (by decide) (by omega) hi
    have nb : pm_inb (nI i) 6726 = true := nb_nI hi (by decide)
    unfold lb_X9_forecast_63
    simp only [if_neg le, nb, nI_1]
    refine ⟨_, rfl, rfl, fk_l f _ _, e, fun k hk => ?_⟩
    rw [mo_l_4, nI_clamp (by omega), f.2.2.2 5 (by decide)]
    by_cases z : k = i
    · rw [if_pos ⟨rfl, z⟩, z]
    · rw [if_neg (fun h => z h.2)]
      exact c k (by omega)
  · rintro ⟨y, y2⟩ ⟨rfl, f, e, c⟩
    have le : (6726 : Int32) ≤ nI 6726 := Int32.le_refl _
    obtain ⟨r, r1, r2⟩ := H y f e c
    unfold lb_X9_forecast_63
    simp only [if_pos le, r1]
    exact ⟨r, rfl, r2⟩
theorem fo_36 {P : Int32 × mo_S → Prop} (s : mo_S) (H : ∀ t, fk 4 6 s t → (∀ k, k < 18186 → t.2.2.1 4 k = s.2.2.1 3 k) → (∀ k, k < 6726 → t.2.2.2 6 k = s.2.2.2 5 k) → ∃ e, pm_loop pm_fu lb_X9_forecast_90 (t, 0) = some e ∧ P e) : ∃ e, pm_loop pm_fu lb_X9_forecast_36 (s, 0) = some e ∧ P e := by
  refine lp_for (Q := P) (B := lb_X9_forecast_36) 18186 (fun i y => y.2 = nI i ∧ fk 4 6 s y.1 ∧ (∀ k, k < i → y.1.2.2.1 4 k = s.2.2.1 3 k)) (by unfold pm_fu; omega) ?_ ?_ (x := (s, 0)) ⟨rfl, ⟨rfl, rfl, fun _ _ => rfl, fun _ _ => rfl⟩, fun k hk => absurd hk (by omega)⟩
  · rintro i ⟨y, y2⟩ hi ⟨rfl, f, c⟩
    simp only [] at f c
    have le : ¬ (18186 : Int32) ≤ nI i := i32_c 18186 i (by decide) (by omega) hi
    have nb : pm_inb (nI i) 18186 = true := nb_nI hi (by decide)
    unfold lb_X9_forecast_36
    simp only [if_neg le, nb, nI_1]
    refine ⟨_, rfl, rfl, fk_a f _ _, fun k hk => ?_⟩
    rw [mo_a_3, nI_clamp (by omega), f.2.2.1 3 (by decide)]
    by_cases z : k = i
    · rw [if_pos ⟨rfl, z⟩, z]
    · rw [if_neg (fun h => z h.2)]
      exact c k (by omega)
  · rintro ⟨y, y2⟩ ⟨rfl, f, c⟩
    simp only [] at f c
    have le : (18186 : Int32) ≤ nI 18186 := Int32.le_refl _
    obtain ⟨r, r1, r2⟩ := fo_63 (P := P) y (fun t g1 g2 g3 => H t ⟨g1.1.trans f.1, g1.2.1.trans f.2.1, fun r hr => (g1.2.2.1 r hr).trans (f.2.2.1 r hr), fun r hr => (g1.2.2.2 r hr).trans (f.2.2.2 r hr)⟩ (fun k hk => by rw [g2]; exact c k hk) (fun k hk => by rw [g3 k hk, f.2.2.2 5 (by decide)]))
    unfold lb_X9_forecast_36
    simp only [if_pos le, r1]
    exact ⟨r, rfl, r2⟩
theorem fo_all {j : Nat} {s0 s4 s5 s6 : cs_S} {sR : mo_S} (hj : j < 512) (hI : iv_E j s0 s4 s5 s6 sR) (s7 : cs_S) : (s5.1 31 0 = -1 ∧ ∃ sR1, f_X9_forecast sR = some (-1, sR1) ∧ iv_E (j + 1) s0 s4 s5 s6 sR1) ∨ (¬ s5.1 31 0 = -1 ∧ ∃ s71 z7 sR1, f_X1_copyFrom s5 s7 = some s71 ∧ f_X1_runTo s4 s71 s6 (if 99999 < s5.1 0 4 + 20000 then 99999 else s5.1 0 4 + 20000) 1 = some z7 ∧ f_X9_forecast sR = some (z7.1 31 6, sR1) ∧ iv_E (j + 1) s0 s4 s5 s6 sR1) := by
  have hI' := hI
  obtain ⟨h1, D, S, T, m, n, N, ln, cnt, tk, f, p, A, L, W, F, Z, hn, hN, h70⟩ := hI
  have Z1 := Z.i 0
  have hp := Z1.1.2.1
  have hD := hp.2.2.2.2.1
  have hB := Z1.1.2.2.2.2.2.1
  have ff : A.1 0 0 1 = ab_fw f := by
    cases f with
    | none => exact Z1.2.1.1.1
    | some f => exact Z1.2.1.1.1
  have fC : s5.1 31 0 = ab_fw f := Z1.1.2.2.2.1.1.2.1.trans ff
  have fR : (mo_i sR 2 0).2.2.1 3 1 = ab_fw f := (Z1.1.2.2.2.2.1.1 1 (by decide)).trans ff
  have r7 : (mo_i sR 2 0).2.2.1 3 7 = A.1 0 0 7 := Z1.1.2.2.2.2.1.1 7 (by decide)
  have nowC : s5.1 0 4 = nI n := Z1.1.2.2.2.1.1.1.trans hB.2.2.2.2.2.1.2.2.2
  unfold f_X9_forecast
  simp only [nb_1_18186, nb_7_18186, tc_1, tc_7, fR, r7]
  cases f with
  | none =>
    refine .inl ⟨fC, mo_i sR 2 0, ?_, iv_E_i hI'⟩
    have e : ab_fw none = -1 := rfl
    simp only [e, if_true, h70 rfl]
  | some f =>
    have nf : ¬ ab_fw (some f) = -1 := nI_nm (by have := Z1.2.1.1.2.1; omega)
    refine .inr ⟨by rw [fC]; exact nf, ?_⟩
    simp only [if_neg nf]
    obtain ⟨s71, c1, C1⟩ := ab_copy s7 hB Z1.1.2.2.2.1
    obtain ⟨tg, tk1, tk2, tk3, etg⟩ : ∃ tg, n ≤ tg ∧ tg ≤ 99999 ∧ (tg = 99999 ∨ tg = n + 20000) ∧ (if 99999 < s5.1 0 4 + 20000 then 99999 else s5.1 0 4 + 20000) = nI tg ∧ tg ≤ n + 20000 := by
      have e2 : nI n + 20000 = nI (n + 20000) := nI_add n 20000
      rw [nowC, e2]
      have c : (99999 : Int32) < nI (n + 20000) ↔ 99999 < n + 20000 := nI_ltI (a := 99999) (by decide) (by omega)
      by_cases u : 99999 < n + 20000
      · rw [if_pos (c.mpr u)]
        exact ⟨99999, by omega, by omega, .inl rfl, rfl, by omega⟩
      · rw [if_neg (fun h => u (c.mp h))]
        exact ⟨n + 20000, by omega, by omega, .inr rfl, rfl, by omega⟩
    have hN2 : N + 2000 * (tg - n) ≤ 1000000000000 := by
      have := Nat.mul_le_mul_left 2000 (show tg - n ≤ 20000 by omega)
      omega
    have run : ∀ s : mo_S, ab_Z D S T m n N ln cnt tk (some f) p A L W F s4 s71 s6 s → ∃ z7 s', f_X1_runTo s4 s71 s6 (nI tg) 1 = some z7 ∧ rt true (tg - n) n s = some s' ∧ rf_F s s' ∧ z7.1 31 6 = s'.2.2.1 3 7 := by
      intro s Zs
      obtain ⟨z7, s', W', F', A', L', m', ln', n', g1, g2, g3, Z', _⟩ := ab_run (tg := tg) true tk2 (tg - n) n m N ln 0 pm_fu A L W F s71 s (by omega) (by unfold pm_fu; omega) (by omega) hN2 Zs
      have e1 : (if true = true then (1 : Int32) else 0) = 1 := if_pos rfl
      have e0 : nI 0 = 0 := rfl
      rw [e1, e0] at g1
      have g1' : f_X1_runTo s4 s71 s6 (nI tg) 1 = some z7 := by
        unfold f_X1_runTo
        exact g1
      refine ⟨z7, s', g1', g2, g3, ?_⟩
      have a1 : z7.1 31 6 = A'.1 0 0 7 := Z'.1.2.2.2.1.1.2.2.2.2.2.2.2.1
      have a2 : s'.2.2.1 3 7 = A'.1 0 0 7 := Z'.1.2.2.2.2.1.1 7 (by decide)
      rw [a1, a2]
    have Zc : ∀ s : mo_S, s.2.2.1 0 = (mo_i sR 2 0).2.2.1 0 → s.2.2.1 3 = (mo_i sR 2 0).2.2.1 3 → s.2.2.1 17 = (mo_i sR 2 0).2.2.1 17 → s.2.2.2 5 = (mo_i sR 2 0).2.2.2 5 → s.1 19 = (mo_i sR 2 0).1 19 → ab_Z D S T m n N ln cnt tk (some f) p A L W F s4 s71 s6 s := fun s q0 q3 q17 q5 q19 => by
      have := Z1.cg q0 q3 q17 q5 q19
      exact ⟨⟨this.1.1, this.1.2.1, this.1.2.2.1, C1, this.1.2.2.2.2⟩, this.2⟩
    by_cases cm : A.1 0 0 7 = -1
    · simp only [if_pos cm]
      obtain ⟨e, e1, e2⟩ := fo_36 (P := fun e => ∃ z7, f_X1_runTo s4 s71 s6 (nI tg) 1 = some z7 ∧ e.1 = z7.1 31 6 ∧ iv_E (j + 1) s0 s4 s5 s6 e.2) (mo_i sR 2 0) (fun t g1 g2 g3 => by
        obtain ⟨z7, s', k1, k2, k3, k4⟩ := run t (Zc t (g1.2.2.1 0 (by decide)) (g1.2.2.1 3 (by decide)) (g1.2.2.1 17 (by decide)) (g1.2.2.2 5 (by decide)) (by rw [g1.1]))
        obtain ⟨s'', m1, m2, m3, m4⟩ := fo_139 s' (s'.2.2.1 3 7)
        have f90 := fo_90 tk2 (tg - n) 0 pm_fu n t s' (by omega) (by omega) (by omega) (by unfold pm_fu; omega) k2
        have e0 : nI 0 = 0 := rfl
        rw [e0, m1] at f90
        refine ⟨_, f90, z7, k1, k4.symm, ?_⟩
        have a0 : ∀ q, q ≠ 3 → q ≠ 4 → s''.2.2.1 q = (mo_i sR 2 0).2.2.1 q := fun q h h' => by rw [m2.2.2.1 q h, k3.2.2.1 q h, g1.2.2.1 q h']
        have i0 : s''.1 = (mo_i sR 2 0).1 := by rw [m2.1, k3.1, g1.1]
        have a3 : ∀ k, k < 18186 → s''.2.2.1 3 k = (mo_i sR 2 0).2.2.1 3 k := fun k hk => by rw [m3 k hk, k3.2.2.1 4 (by decide), g2 k hk]
        have a5 : ∀ k, k < 6726 → s''.2.2.2 5 k = (mo_i sR 2 0).2.2.2 5 k := fun k hk => by rw [m4 k hk, k3.2.2.2 6 (by decide), g3 k hk]
        refine ⟨?_, D, S, T, m, n, N, ln, cnt, tk, some f, p, A, L, W, F, ?_, hn, by omega, h70⟩
        · have tx := tx_R_i (v := 0) h1
          unfold tx_R at tx ⊢
          rw [i0, a0 7 (by decide) (by decide)]
          exact tx
        · obtain ⟨⟨hP, hp, hs, hC, hR, hB, hF⟩, V, TR, Z4⟩ := Z1
          refine ⟨⟨hP, hp, by rw [a0 0 (by decide) (by decide)]; exact hs, hC, ab_R_ck a3 a5 hR, hB, hF⟩, V, ?_, Z4⟩
          unfold ab_TR at TR ⊢
          rw [a0 17 (by decide) (by decide), i0]
          exact TR)
      obtain ⟨z7, k1, k2, k3⟩ := e2
      refine ⟨s71, z7, e.2, c1, by rw [etg.1]; exact k1, ?_, k3⟩
      rw [e1, ← k2]
    · simp only [if_neg cm]
      obtain ⟨z7, s', k1, k2, k3, k4⟩ := run (mo_i sR 2 0) (Zc _ rfl rfl rfl rfl rfl)
      have es : s' = mo_i sR 2 0 := by
        cases hk : tg - n with
        | zero =>
          rw [hk, rt_0] at k2
          split at k2
          · exact (Option.some.inj k2).symm
          · cases k2
        | succ k =>
          rw [hk, rt_s] at k2
          split at k2
          · rw [if_pos ⟨rfl, by rw [r7]; exact cm⟩] at k2
            exact (Option.some.inj k2).symm
          · cases k2
      refine ⟨s71, z7, mo_i sR 2 0, c1, by rw [etg.1]; exact k1, ?_, iv_E_i hI'⟩
      rw [k4, es, r7]
theorem p_44_E : ps_44_E_E iv_N iv_E := by
  intro j s0 s4 s5 s6 sR hj hI
  unfold f_X8_forecast_E
  rcases fo_all hj hI cs_e0 with ⟨h, sR1, g1, g2⟩ | ⟨h, s71, z7, sR1, g1, g2, g3, g4⟩
  · rw [if_pos h]
    exact .inr ⟨_, sR1, rfl, g1, g2⟩
  · rw [if_neg h]
    simp only [g1, g2]
    exact .inl ⟨_, z7, sR1, rfl, g3, g4⟩
theorem p_44_T : ps_44_E_T iv_N iv_E := by
  intro j s0 s4 s5 s6 s7 sR hj hI
  unfold f_X8_forecast_T
  rcases fo_all hj hI s7 with ⟨h, sR1, g1, g2⟩ | ⟨h, s71, z7, sR1, g1, g2, g3, g4⟩
  · rw [if_pos h]
    exact .inr ⟨_, sR1, rfl, g1, g2⟩
  · rw [if_neg h]
    simp only [g1, g2]
    exact .inl ⟨_, z7, sR1, rfl, g3, g4⟩
