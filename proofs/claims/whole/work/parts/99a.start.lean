/-! Stripes are started, in both programs. -/
theorem lp2_wh {X E Y E' : Type} {B : X → Option (X ⊕ E)} {B' : Y → Option (Y ⊕ E')} {Q : E → E' → Prop} (I : Nat → X → Y → Prop) (step : ∀ m x y, I m x y → (∃ x' y' m', B x = some (.inl x') ∧ B' y = some (.inl y') ∧ m' < m ∧ I m' x' y') ∨ (∃ e e', B x = some (.inr e) ∧ B' y = some (.inr e') ∧ Q e e')) : ∀ (m fu : Nat) (x : X) (y : Y), m < fu → I m x y → ∃ e e', pm_loop fu B x = some e ∧ pm_loop fu B' y = some e' ∧ Q e e' := by
  intro m
  induction m using Nat.strongRecOn with
  | ind m ih =>
    intro fu x y hf hI
    cases fu with
    | zero => omega
    | succ fu =>
      rcases step m x y hI with ⟨x', y', m', h1, h2, h3, h4⟩ | ⟨e, e', h1, h2, h3⟩
      · obtain ⟨e, e', g1, g2, g3⟩ := ih m' h3 fu x' y' (by omega) h4
        exact ⟨e, e', by rw [lp_inl h1]; exact g1, by rw [lp_inl h2]; exact g2, g3⟩
      · exact ⟨e, e', lp_inr h1, lp_inr h2, h3⟩
/-- what starting stripes leaves alone -/
def ab_sf (A A' : ab_S) : Prop := A'.2.2.2 = A.2.2.2 ∧ (∀ w, A'.1 0 0 w = A.1 0 0 w) ∧ (∀ g i w, g = 1 ∨ g = 5 ∨ g = 6 → A'.1 g i w = A.1 g i w)
theorem ab_cl {D S T m n N k f : Nat} {p : Nat → Int32} {A : ab_S} {L : Nat → Bool} {W : Nat → Nat} {F : List Nat} {s4 s5 : cs_S} {s : mo_S} (hk : k < S) (h0 : A.1 4 k 0 = 0) (hst : ab_started A.1 S < 8) (hN : N + 8 ≤ 1000000000000) (H : ab_J D S T m n N p A L W F s4 s5 s) (V : ab_V D S m (some f) A L) :
    ∃ s5' s' W' F' A' L', f_X1_collect s4 s5 (nI k) = some s5' ∧ f_X9_startStripe s (nI k) = some s' ∧ rf_F s s' ∧ ab_J D S T m n (N + 8) p A' L' W' F' s4 s5' s' ∧ ab_V D S m (some f) A' L' ∧ ab_sf A A' ∧ ab_started A'.1 S = ab_started A.1 S + 1 ∧ (A'.1 4 k 0 ≠ 0) ∧ (∀ k', k' ≠ k → A'.1 4 k' 0 = A.1 4 k' 0) := by
  have hp := H.2.1
  have hD := hp.2.2.2.2.1
  have hS := hp.2.2.2.2.2.2.1
  have tot := ab_tot H.2.2.2.2.2.1 V.1 V.2.1 V.2.2.1
  obtain ⟨⟨K1, K2, K3, K4⟩, Vr, Vs, Vn, Vh, Vo⟩ := V
  have Lk : ∀ d, d < 7 → L (7 * k + d) = false := by
    rcases K4 k hk with h | h | h | h
    · exact h.2
    · rw [h0] at h
      exact absurd h.1 (by decide)
    · rw [h0] at h
      exact absurd h.1 (by decide)
    · rw [h0] at h
      exact absurd h.1 (by decide)
  obtain ⟨s51, c1, F1, J1⟩ := ab_J2_st1 (s' := us s 4 k 0 1) hk h0 rfl (ab_J2.of H)
  have st1 : ab_started (ab_v A 4 k 0 1).1 S = ab_started A.1 S + 1 := by
    have := (ab_v4_c A (1 : Int32) hk).1
    rw [h0] at this
    simpa [ab_b2] using this
  have v4 : ∀ g i w, g ≠ 4 → (ab_v A 4 k 0 1).1 g i w = A.1 g i w := fun g i w h => by rw [ab_v_1, if_neg (by omega)]
  unfold f_X1_collect f_X9_startStripe
  simp only [c1, (st_w s 1 (show k < 64 by omega)).1, (st_w s 1 (show k < 64 by omega)).2]
  have K1' : (ab_v A 4 k 0 1).1 0 0 1 = nI f := by rw [v4 _ _ _ (by omega)]; exact K1
  obtain ⟨e, e', h1, h2, W', F', A', B', L', J', fr, ks, hh, st, Fs, sc⟩ := lp2_for (Q := fun e e' => ∃ W' F' A' B' L', ab_J2 D S T m n (N + 8) p A' B' L' W' F' s4 e e' ∧ ab_fr k (ab_v A 4 k 0 1) A' (ab_v A 4 k 0 1) B' L L' ∧ ab_Ks D f B' L' k ∧ (∀ d, B'.1 3 d k = A.1 3 d k) ∧ (B'.1 4 k 0 = 1 ∨ B'.1 4 k 0 = 2) ∧ rf_F s e' ∧ (∀ w, B'.1 0 0 w = A.1 0 0 w)) (B := lb_X1_collect_10 s4) (B' := lb_X9_startStripe_13) D (fun i x y => x.2 = (nI k, nI i) ∧ y.2 = (nI k, nI i) ∧ rf_F s y.1 ∧ ∃ W' F' A' B' L', ab_J2 D S T m n (N + i) p A' B' L' W' F' s4 x.1 y.1 ∧ ab_fr k (ab_v A 4 k 0 1) A' (ab_v A 4 k 0 1) B' L L' ∧ B'.1 = (ab_v A 4 k 0 1).1 ∧ A'.1 = (ab_v A 4 k 0 1).1 ∧ (∀ d, d < 7 → (L' (7 * k + d) = true ↔ d < i ∧ d ≠ f ∧ A.1 3 d k ≠ 1)) ∧ ab_cnt L' 3248 ≤ ab_cnt L 3248 + i) (by unfold pm_fu; omega) (by
    rintro i ⟨x, x2⟩ ⟨y, y2⟩ hi ⟨rfl, rfl, Fs, W1, F1', A1, B1, L1, J1', q1, eB, eA, l1, n1⟩
    simp only [] at J1' Fs
    have hs1 := J1'.2.2.1
    have le : ¬ p 0 ≤ nI i := by
      rw [hp.1]
      exact fun k => absurd ((nI_leI (by omega) (by omega)).mp k) (by omega)
    have f1 : B1.1 0 0 1 = nI f := by rw [eB]; exact K1'
    have fC : x.1 31 0 = nI f := by rw [J1'.2.2.2.1.1.2.1, eA]; exact K1'
    have eqf : nI i = nI f ↔ i = f := nI_eq (by omega) (by omega)
    have e3 : A1.1 3 i k = A.1 3 i k := by rw [eA, v4 _ _ _ (by omega)]
    have e3' : B1.1 3 i k = A.1 3 i k := by rw [eB, v4 _ _ _ (by omega)]
    unfold lb_X1_collect_10 lb_X9_startStripe_13
    simp only [J1'.1.1, disks_w hs1, if_neg le, fC, isSurviving_w hp hs1 (show i < 7 by omega) J1'.2.2.2.2.1, f1, nI_1]
    by_cases u : i = f
    · have sv : (if i < D ∧ nI i ≠ nI f then (1 : Int32) else 0) = 0 := if_neg (fun h => h.2 (eqf.mpr u))
      rw [sv]
      simp only [if_pos (eqf.mpr u), if_true]
      exact ⟨_, _, rfl, rfl, rfl, rfl, Fs, W1, F1', A1, B1, L1, J1'.up (by omega) (by omega), q1, eB, eA, fun d hd => by rw [l1 d hd]; exact ⟨fun h => ⟨by omega, h.2⟩, fun h => ⟨by omega, h.2⟩⟩, by omega⟩
    · have sv : (if i < D ∧ nI i ≠ nI f then (1 : Int32) else 0) = 1 := if_pos ⟨hi, fun h => u (eqf.mp h)⟩
      rw [sv]
      simp only [if_neg (fun h => u (eqf.mp h)), i32_10, if_false, ab_holds_C (show i < 6 by omega) (show k < 64 by omega) J1'.2.2.2.1, isHeldOn_w y (show i < 6 by omega) (show k < 64 by omega), J1'.2.2.2.2.1.2.2.2.2.2.1 i k (by omega) (by omega), e3, e3']
      by_cases v : A.1 3 i k = 1
      · simp only [if_pos v, i32_10, if_false]
        refine ⟨_, _, rfl, rfl, rfl, rfl, Fs, W1, F1', A1, B1, L1, J1'.up (by omega) (by omega), q1, eB, eA, fun d hd => ?_, by omega⟩
        rw [l1 d hd]
        refine ⟨fun h => ⟨by omega, h.2⟩, fun h => ⟨?_, h.2⟩⟩
        have : d ≠ i := fun e => h.2.2 (by rw [e]; exact v)
        omega
      · simp only [if_neg v, if_true]
        have Li : L1 (7 * k + i) = false := by
          cases hl : L1 (7 * k + i) with
          | false => rfl
          | true =>
            have := (l1 i (by omega)).mp hl
            omega
        obtain ⟨s52, s2, W2, F2, A2, B2, a1, a2, a3, J2, a5, a6, a7, a8, a9⟩ := ab_J2_qr (d := i) hk (by omega) Li (by omega) (by omega) J1'
        have dlR := ab_dl_R hp hs1 k J1'.2.2.2.2.1
        rw [if_neg (by omega)] at a2
        have qrr : f_X9_queueRebuildRead y (nI i) (nI k) = some s2 := by
          unfold f_X9_queueRebuildRead
          simp only [dlR, a2]
        simp only [a1, qrr]
        refine ⟨_, _, rfl, rfl, rfl, rfl, Fs.trans a3, W2, F2, A2, B2, _, J2, q1.trans ⟨⟨fun i w => by rw [a5], fun i w => by rw [a5], by rw [a5]⟩, ⟨fun i w => by rw [a6], fun i w => by rw [a6], by rw [a6]⟩, fun g i w _ _ _ => by rw [a6], fun k' _ => ⟨by rw [a6], fun d => by rw [a6]⟩, fun w _ _ _ => by rw [a6], a7, fun c hc => if_neg (by omega)⟩, a6.trans eB, a5.trans eA, fun d hd => ?_, ?_⟩
        · unfold ab_L
          by_cases z : d = i
          · rw [if_pos (by omega)]
            exact ⟨fun _ => ⟨by omega, by omega, by rw [z]; exact v⟩, fun _ => rfl⟩
          · rw [if_neg (by omega), l1 d hd]
            exact ⟨fun h => ⟨by omega, h.2⟩, fun h => ⟨by omega, h.2⟩⟩
        · rw [ab_cnt_up Li, if_pos (by omega)]
          omega) (by
    rintro ⟨x, x2⟩ ⟨y, y2⟩ ⟨rfl, rfl, Fs, W1, F1', A1, B1, L1, J1', q1, eB, eA, l1, n1⟩
    simp only [] at J1' Fs
    have hs1 := J1'.2.2.1
    have e3' : ∀ d, B1.1 3 d k = A.1 3 d k := fun d => by rw [eB, v4 _ _ _ (by omega)]
    obtain ⟨s52, s2, W2, F2, A2, B2, L2, a1, a2, a3, J2, fr2, ks2, hd2, st2, cn2, sc2⟩ := ab_J2_ck (f := f) hk K2 (by rw [eB]; exact K1') (by rw [eB, ab_v4_4, if_pos rfl]) (fun d hd h => K3 d k hd (by omega) (by rw [← e3']; exact h)) (fun d hd => by rw [l1 d hd, e3']) (by omega) (by omega) J1'
    unfold lb_X1_collect_10 lb_X9_startStripe_13
    simp only [J1'.1.1, disks_w hs1, hp.1, Int32.le_refl, if_true, a1, a2]
    exact ⟨_, _, rfl, rfl, W2, F2, A2, B2, L2, J2.up (by omega) (by omega), q1.trans fr2, ks2, fun d => by rw [hd2, e3'], st2, Fs.trans a3, fun w => by rw [sc2, eB, v4 _ _ _ (by omega)]⟩) (x := (s51, nI k, 0)) (y := (us s 4 k 0 1, nI k, 0)) ⟨rfl, rfl, F1, W, F, _, _, L, J1, ab_fr.refl _ _ _ _, rfl, rfl, (fun d hd => by rw [Lk d hd]; exact ⟨(fun h => by cases h), fun h => absurd h.1 (by omega)⟩), by omega⟩
  have AB : B' = A' := ab_E_eq J'.2.2.2.2.2.2.2 (fun i w => (fr.2.1.1 i w).trans (fr.1.1 i w).symm) (fun i w => (fr.2.1.2.1 i w).trans (fr.1.2.1 i w).symm)
  subst AB
  have s1 : ab_started B'.1 S = ab_started A.1 S + 1 := by
    rw [← st1]
    have : ab_s12 (ab_v A 4 k 0 1) B' k := by
      rcases st with h | h
      · exact .inl (by rw [h, ab_v4_4, if_pos rfl])
      · exact .inr ⟨by rw [ab_v4_4, if_pos rfl], h⟩
    exact this.started (fun k' h => (fr.2.2.2.1 k' h).1)
  refine ⟨e, e', W', F', B', L', h1, h2, Fs, ⟨J'.1, J'.2.1, J'.2.2.1, J'.2.2.2.1, J'.2.2.2.2.1, J'.2.2.2.2.2.1, J'.2.2.2.2.2.2.1⟩, ab_V_st hS K1' K2 (fun d k' h1 h2 h3 => K3 d k' h1 h2 (by rw [← v4 _ _ _ (by omega)]; exact h3)) (fun k' h1 h2 => ab_Ks_tr (by rw [ab_v4_4, if_neg h2]) (fun d => ab_v4_3 _ _ _ _ _) (fun _ _ => rfl) (K4 k' h1)) Vr (by omega) (fun d hd => by rw [v4 _ _ _ (by omega)]; exact Vh d hd) (Vo f rfl) hk fr ks (fun d hd h => K3 d k hd (by omega) (by rw [← hh]; exact h)), ⟨fr.2.2.2.2.2.1, sc, fun g i w hg => ?_⟩, s1, ?_, fun k' h => by rw [(fr.2.2.2.1 k' h).1, ab_v4_4, if_neg h]⟩
  · rw [fr.2.2.1 g i w (by omega) (by omega) (by omega), v4 _ _ _ (by omega)]
  · rcases st with h | h
    · rw [h]; decide
    · rw [h]; decide
/-- startStripes -/
theorem ab_ss {D S T m n N f : Nat} {p : Nat → Int32} {A : ab_S} {L : Nat → Bool} {W : Nat → Nat} {F : List Nat} {s4 s5 : cs_S} {s : mo_S} (hN : N + 512 ≤ 1000000000000) (H : ab_J D S T m n N p A L W F s4 s5 s) (V : ab_V D S m (some f) A L) :
    ∃ s5' s' W' F' A' L', f_X1_startStripes s4 s5 = some s5' ∧ f_X9_startStripes s = some s' ∧ rf_F s s' ∧ ab_J D S T m n (N + 512) p A' L' W' F' s4 s5' s' ∧ ab_V D S m (some f) A' L' ∧ ab_sf A A' ∧ ((∀ k, k < S → A'.1 4 k 0 ≠ 0) ∨ p 4 ≤ nI (ab_started A'.1 S)) := by
  have hp := H.2.1
  have hD := hp.2.2.2.2.1
  have hS := hp.2.2.2.2.2.2.1
  obtain ⟨win, w1, w8, pw⟩ := hp.2.2.2.2.2.2.2.2.2.2.2.1
  have fC : ¬ s5.1 31 0 = -1 := by
    rw [H.2.2.2.1.1.2.1, V.1.1]
    exact nI_nm (by have := V.1.2.1; omega)
  unfold f_X1_startStripes f_X9_startStripes
  rw [if_neg fC, underway_w hp H.2.2.1 H.2.2.2.2.1]
  simp only []
  obtain ⟨e, e', h1, h2, Fs, W', F', A', L', J', V', sf, fx⟩ := lp2_wh (Q := fun e e' => rf_F s e' ∧ ∃ W' F' A' L', ab_J D S T m n (N + 512) p A' L' W' F' s4 e e' ∧ ab_V D S m (some f) A' L' ∧ ab_sf A A' ∧ ((∀ k, k < S → A'.1 4 k 0 ≠ 0) ∨ p 4 ≤ nI (ab_started A'.1 S))) (B := lb_X1_startStripes_14 s4) (B' := lb_X9_startStripes_7) (fun mm x y => ∃ i, i + mm = S ∧ x.2 = nI i ∧ rf_F s y.1 ∧ ∃ W' F' A' L', y.2 = (nI (ab_started A'.1 S), nI i) ∧ ab_J D S T m n (N + 8 * i) p A' L' W' F' s4 x.1 y.1 ∧ ab_V D S m (some f) A' L' ∧ ab_sf A A' ∧ (∀ k, k < i → A'.1 4 k 0 ≠ 0)) (by
    rintro mm ⟨x, x2⟩ ⟨y, y2⟩ ⟨i, hi, rfl, Fs, W1, F1, A1, L1, rfl, J1, V1, sf, dn⟩
    simp only [] at J1 Fs
    have hs1 := J1.2.2.1
    have le : p 1 ≤ nI i ↔ S ≤ i := by
      rw [hp.2.1]
      exact nI_leI (by omega) (by omega)
    have k3 : x.1 31 3 = nI (ab_started A1.1 S) := J1.2.2.2.1.2.1.1
    unfold lb_X1_startStripes_14 lb_X9_startStripes_7
    simp only [J1.1.2.1, J1.1.2.2.2.2.1, nb_1_26, nb_4_26, tc_1, tc_4, hs1, k3]
    by_cases u : S ≤ i
    · simp only [if_pos (le.mpr u)]
      exact .inr ⟨_, _, rfl, rfl, Fs, W1, F1, A1, L1, J1.up (by omega) hN, V1, sf, .inl (fun k hk => dn k (by omega))⟩
    · simp only [if_neg (fun h => u (le.mp h))]
      by_cases v : p 4 ≤ nI (ab_started A1.1 S)
      · simp only [if_pos v]
        exact .inr ⟨_, _, rfl, rfl, Fs, W1, F1, A1, L1, J1.up (by omega) hN, V1, sf, .inr v⟩
      · simp only [if_neg v]
        have st8 : ab_started A1.1 S < 8 := by
          have h8 := V1.2.2.1
          apply Classical.byContradiction
          intro h
          apply v
          rw [pw]
          exact (nI_leI (by omega) (by omega)).mpr (by omega)
        have k32 : x.2.1 32 i = A1.1 4 i 0 := (J1.2.2.2.1.2.2.2.2.2.2 i (by omega)).1
        simp (disch := omega) only [nb_nI, nI_clamp, k32, stateOf_w y (show i < 64 by omega), J1.2.2.2.2.1.2.2.2.2.2.2.1 i (by omega), nI_1]
        by_cases w : A1.1 4 i 0 = 0
        · simp only [if_pos w]
          obtain ⟨s52, s2, W2, F2, A2, L2, a1, a2, a3, J2, V2, sf2, st2, z2, o2⟩ := ab_cl (show i < S by omega) w st8 (by omega) J1 V1
          simp only [a1, a2]
          refine .inl ⟨_, _, mm - 1, rfl, rfl, by omega, i + 1, by omega, rfl, Fs.trans a3, W2, F2, A2, L2, by rw [st2], J2.up (by omega) (by omega), V2, ⟨sf2.1.trans sf.1, fun w => (sf2.2.1 w).trans (sf.2.1 w), fun g i w h => (sf2.2.2 g i w h).trans (sf.2.2 g i w h)⟩, fun k hk => ?_⟩
          by_cases z : k = i
          · rw [z]
            exact z2
          · rw [o2 k z]
            exact dn k (by omega)
        · simp only [if_neg w]
          refine .inl ⟨_, _, mm - 1, rfl, rfl, by omega, i + 1, by omega, rfl, Fs, W1, F1, A1, L1, rfl, J1.up (by omega) (by omega), V1, sf, fun k hk => ?_⟩
          by_cases z : k = i
          · rw [z]
            exact w
          · exact dn k (by omega)) S pm_fu (s5, 0) (s, nI (ab_started A.1 S), 0) (by unfold pm_fu; omega) ⟨0, by omega, rfl, rf_F.rfl' s, W, F, A, L, rfl, H, V, ⟨rfl, fun _ => rfl, fun _ _ _ _ => rfl⟩, fun k hk => absurd hk (by omega)⟩
  exact ⟨e, e', W', F', A', L', h1, h2, Fs, J', V', sf, fx⟩
