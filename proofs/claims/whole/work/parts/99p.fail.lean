/-! A disk fails, in both programs: the whole. -/
theorem ab_rl_id {A : ab_S} {d : Nat} (h1 : A.2.2.2 d = none) (h2 : A.1 1 d 1 = -1) : ab_rl A d = A := by
  have e : (ab_rl A d).2 = A.2 := by
    have : (ab_rl A d).2.2.2 = A.2.2.2 := by
      funext d'
      rw [ab_rl_4]
      by_cases z : d' = d
      · rw [if_pos z, z, h1]
      · rw [if_neg z]
    exact Prod.ext rfl (Prod.ext rfl this)
  refine ab_ext (fun g i w => ?_) e
  rw [ab_rl_1]
  by_cases u : g = 1 ∧ i = d ∧ w = 1
  · rw [if_pos u, u.1, u.2.1, u.2.2, h2]
  · rw [if_neg u]
theorem ab_fail {D S T m n N ln cnt d : Nat} {tk : Nat → Nat} {p : Nat → Int32} {A : ab_S} {L : Nat → Bool} {W : Nat → Nat} {F : List Nat} {s4 s5 s6 : cs_S} {s : mo_S} (hd : d < D) (hN : N + 200000 ≤ 1000000000000) (Z : ab_Z D S T m n N ln cnt tk none p A L W F s4 s5 s6 s) :
    ∃ s5' s' W' F' A' L' x, f_X1_loseDisk s4 s5 (nI d) = some (x, s5') ∧ fc_X9_fail_c1 s (nI d) (nI d) 1 = some (x, s') ∧ rf_F s s' ∧ ab_Z D S T m n (N + 200000) ln cnt tk (some d) p A' L' W' F' s4 s5' s6 s' := by
  obtain ⟨H, V, TR, ⟨h3, h11, hln, hl⟩, hu, fx⟩ := Z
  have hp := H.2.1
  have hD := hp.2.2.2.2.1
  have hS := hp.2.2.2.2.2.2.1
  have hT := hp.2.2.2.2.2.2.2.2.1
  obtain ⟨F0, J0'⟩ := ab_J2_0 (w := 1) (x := nI d) (by omega) rfl (ab_J2.of H)
  have J0 : ab_J D S T m n N p (ab_v A 0 0 1 (nI d)) L W F s4 (cs_i s5 31 0 (nI d)) (us s 0 0 1 (nI d)) := ⟨J0'.1, J0'.2.1, J0'.2.2.1, J0'.2.2.2.1, J0'.2.2.2.2.1, J0'.2.2.2.2.2.1, J0'.2.2.2.2.2.2.1⟩
  have v1 : ∀ g i w, ¬ (g = 0 ∧ w = 1) → (ab_v A 0 0 1 (nI d)).1 g i w = A.1 g i w := fun g i w h => by rw [ab_v_1, if_neg (by omega)]
  have w1 : (ab_v A 0 0 1 (nI d)).1 0 0 1 = nI d := by rw [ab_v_1, if_pos ⟨rfl, rfl, rfl⟩]
  obtain ⟨⟨K1, K2, K3, K4⟩, Vr, Vs, Vn, Vh, Vo⟩ := V
  have V1 : ab_V1 D S m d 7 (ab_v A 0 0 1 (nI d)) L := by
    refine ⟨⟨w1, hd, fun d' k h1 h2 h3 => ?_, fun k hk => .inl ⟨by rw [v1 _ _ _ (by omega)]; exact K2 k (by omega), fun d' hd' => K4 _ (by omega)⟩⟩, Vr, ?_, fun d' hd' _ => by rw [v1 _ _ _ (by omega)]; exact Vh d' hd', fun r hr h6 _ => Vn rfl r hr (by rw [← v1 _ _ _ (by omega)]; exact h6), K4⟩
    · rw [v1 _ _ _ (by omega)] at h3
      exact absurd h3 (K3 d' k h1 h2)
    · rw [(ab_cnts (A := A) (A' := ab_v A 0 0 1 (nI d)) (fun i w => v1 _ _ _ (by omega)) (fun i w => v1 _ _ _ (by omega)) S).1]
      exact Vs
  have lines : (ab_v A 0 0 1 (nI d)).1 0 0 3 = nI ln ∧ (ab_v A 0 0 1 (nI d)).1 0 0 11 = 0 := ⟨by rw [v1 _ _ _ (by omega)]; exact h3, by rw [v1 _ _ _ (by omega)]; exact h11⟩
  have hu0 : ∀ d' c, d' ≤ D → (ab_v A 0 0 1 (nI d)).2.2.2 d' = some c → (ab_v A 0 0 1 (nI d)).1 1 d' 1 ≠ nI n := fun d' c h1 h2 => by
    rw [v1 _ _ _ (by omega)]
    exact hu d' c h1 h2
  generalize ab_v A 0 0 1 (nI d) = A0 at *
  have em : mo_a s 3 1 (nI d) = us s 0 0 1 (nI d) := rfl
  -- the loop over the tenants
  have loop : ∀ (A1 : ab_S) (L1 : Nat → Bool) (W1 : Nat → Nat) (F1 : List Nat) (s51 : cs_S) (s1 : mo_S) (x sv : Int32), rf_F s s1 → ab_J D S T m n (N + 7) p A1 L1 W1 F1 s4 s51 s1 → ab_V1 D S m d 7 A1 L1 → A1.2.2.2 d = none → (A1.1 0 0 3 = nI ln ∧ A1.1 0 0 11 = 0) → (∀ d' c, d' ≤ D → A1.2.2.2 d' = some c → A1.1 1 d' 1 ≠ nI n) → ∃ s5' s' W' F' A' L' x', pm_loop pm_fu (lb_X1_loseDisk_35 s4) (s51, nI d, x, sv, 0) = some (x', s5') ∧ pm_loop pm_fu lb_X9_fail_95 (s1, nI d, x, 0) = some (x', s') ∧ rf_F s s' ∧ ab_Z D S T m n (N + 200000) ln cnt tk (some d) p A' L' W' F' s4 s5' s6 s' := by
    intro A1 L1 W1 F1 s51 s1 x sv Fs J1 VV sn lin hu1
    obtain ⟨e, e', g1, g2, s5', s', x', rfl, rfl, Fz, W', F', A', L', Z'⟩ := lp2_for (Q := fun e e' => ∃ s5' s' x', e = (x', s5') ∧ e' = (x', s') ∧ rf_F s s' ∧ ∃ W' F' A' L', ab_Z D S T m n (N + 200000) ln cnt tk (some d) p A' L' W' F' s4 s5' s6 s') (B := lb_X1_loseDisk_35 s4) (B' := lb_X9_fail_95) T (fun i y z => ∃ x', y.2 = (nI d, x', sv, nI i) ∧ z.2 = (nI d, x', nI i) ∧ rf_F s z.1 ∧ ∃ W' F' A' L', ab_Y D S T m n (N + 7 + 21000 * i) d p A1 A' L' W' F' s4 y.1 z.1 ∧ ∀ t, t < i → A'.2.1 (6 * d + t) = []) (by unfold pm_fu; omega) (by
      rintro i ⟨y, y2⟩ ⟨z, z2⟩ hi ⟨x', rfl, rfl, Fz, W2, F2, A2, L2, Y2, em⟩
      simp only [] at Y2 Fz
      have hq : 6 * d + i < 42 := by omega
      have le : ¬ p 6 ≤ nI i := by
        rw [hp.2.2.1]
        exact fun k => absurd ((nI_leI (by omega) (by omega)).mp k) (by omega)
      have le' : ¬ s4.1 0 7 ≤ nI i := by rw [H.1.2.2.2.2.2.2.1]; exact le
      have nbq : pm_inb (nI (6 * d + i)) 42 = true := nb_nI hq (by decide)
      have clq : (nI (6 * d + i)).toNatClampNeg = 6 * d + i := nI_clamp (by omega)
      have N2 : N + 7 + 21000 * i + 21000 ≤ 1000000000000 := by
        have : 21000 * i ≤ 21000 * 5 := Nat.mul_le_mul_left _ (by omega)
        omega
      obtain ⟨s52, s2, W3, F3, A3, L3, x3, a1, a2, a3, Y3, a4⟩ := ab_loseQ (x := x') (sv := sv) (t := i) hi hd N2 Y2
      refine ⟨(s52, nI d, x3, sv, nI (i + 1)), (s2, nI d, x3, nI (i + 1)), ?_, ?_, x3, rfl, rfl, Fz.trans a3, W3, F3, A3, L3, ?_, fun t ht => ?_⟩
      · unfold lb_X1_loseDisk_35
        simp only [if_neg le', numberOf_w, nbq, clq]
        exact a1
      · unfold lb_X9_fail_95
        simp only [nb_6_26, tc_6, Y2.1.2.2.1, if_neg le, queueOf_w]
        exact a2
      · rw [show N + 7 + 21000 * (i + 1) = N + 7 + 21000 * i + 21000 by rw [Nat.mul_add]; omega]
        exact Y3
      · rw [a4 _ (by omega)]
        by_cases u : t = i
        · rw [if_pos (by omega)]
        · rw [if_neg (by omega)]
          exact em t (by omega)) (by
      rintro ⟨y, y2⟩ ⟨z, z2⟩ ⟨x', rfl, rfl, Fz, W2, F2, A2, L2, Y2, em⟩
      simp only [] at Y2 Fz
      obtain ⟨J2, V2, y1, y2, y3⟩ := Y2
      have hB := J2.2.2.2.2.2.1
      have VV2 : ab_V D S m (some d) A2 L2 := by
        refine ⟨V2.1, V2.2.1, V2.2.2.1, (fun h => by cases h), fun d' hd' => V2.2.2.2.1 d' hd' (by omega), fun f' hf c hc e => ?_⟩
        rw [← Option.some.inj hf] at e
        rcases (hB.2.1 c).mp hc with ⟨q, hq, a, ha, hac⟩ | ⟨d', hd', hs⟩
        · have h3 := hB.2.2.1 q a hq ha
          have eq : q = 6 * d + q % 6 := by omega
          rw [eq, em (q % 6) h3.2.2.2] at ha
          cases ha
        · have := (hB.2.2.2.1 d' c hd' hs).1
          rw [show d' = d by omega, y1, sn] at hs
          cases hs
      have N2 : N + 7 + 21000 * T + 512 ≤ N + 200000 := by
        have : 21000 * T ≤ 21000 * 6 := Nat.mul_le_mul_left _ hT
        omega
      obtain ⟨s53, s3, W3, F3, A3, L3, c1, c2, c3, J3, V3, sf, fx3⟩ := ab_ss (Nat.le_trans N2 hN) J2 VV2
      have le' : s4.1 0 7 ≤ nI T := by rw [H.1.2.2.2.2.2.2.1, hp.2.2.1]; exact Int32.le_refl _
      have le : p 6 ≤ nI T := by rw [hp.2.2.1]; exact Int32.le_refl _
      unfold lb_X1_loseDisk_35 lb_X9_fail_95
      simp only [if_pos le', c1, nb_6_26, tc_6, J2.2.2.1, if_pos le, c2]
      refine ⟨_, _, rfl, rfl, s53, s3, x', rfl, rfl, Fz.trans c3, W3, F3, A3, L3, J3.up N2 hN, V3, TR.fr (Fz.trans c3), ⟨by rw [sf.2.1, y2]; exact lin.1, by rw [sf.2.1, y2]; exact lin.2, hln, hl⟩, fun d' c h1 h2 => ?_, fun _ _ => fx3⟩
      rw [sf.1, y1] at h2
      rw [sf.2.2 _ _ _ (.inl rfl), y3]
      exact hu1 d' c h1 h2) (x := (s51, nI d, x, sv, 0)) (y := (s1, nI d, x, 0)) ⟨x, rfl, rfl, Fs, W1, F1, A1, L1, ⟨J1.up (by omega) (by omega), VV, rfl, fun _ => rfl, fun _ _ => rfl⟩, fun t ht => absurd ht (by omega)⟩
    exact ⟨s5', s', W', F', A', L', x', g1, g2, Fz, Z'⟩
  have hBB := J0.2.2.2.2.2.1
  have Rd := (J0.2.2.2.2.1.2.2.2.2.1 d (by omega)).1 (V1.2.2.2.1 d (by omega) (by omega))
  obtain ⟨s51, r1, C1, i1⟩ := ab_C_rl (S := S) (A := A0) (show d < 7 by omega) J0.2.2.2.1
  have Cd := (J0.2.2.2.1.2.2.2.1 d (by omega)).1
  unfold f_X1_loseDisk fc_X9_fail_c1
  simp only [nb_1_18186, em, ofDisk_0 (us s 0 0 1 (nI d)) (show d < 7 by omega), Rd.1, r1, Cd]
  cases hsv : A0.2.2.2 d with
  | none =>
    have idn := ab_rl_id hsv ((hBB.2.2.2.2.2.2.2.1 d (by omega)).1 hsv)
    obtain ⟨s1, s2, q1, q2, F2, R2, _⟩ := ab_R_rl (show d < 7 by omega) J0.2.2.2.2.1
    rw [idn] at C1 R2
    simp only [if_true, q1, q2]
    obtain ⟨s5', s', W', F', A', L', x', g1, g2, g3, Z'⟩ := loop A0 L W F s51 s2 0 (-1) (F0.trans F2) ⟨J0.1, hp, by rw [F2.2.2.1 0 (by decide)]; exact J0.2.2.1, C1, R2, hBB.up (by omega) (by omega), J0.2.2.2.2.2.2⟩ V1 hsv lines hu0
    exact ⟨s5', s', W', F', A', L', x', g1, g2, g3, Z'⟩
  | some c =>
    have hc := hBB.1.2.2.2.2.2.2 d c (by omega) hsv
    have hcd := (hBB.2.2.2.1 d c (by omega) hsv).1
    have lc : ab_live A0 c := .inr ⟨d, by omega, hsv⟩
    have Lc : L c = true := (hBB.2.1 c).mpr lc
    have hge : 448 ≤ c := by
      apply Classical.byContradiction
      intro h
      rw [V1.2.2.2.2.2 c (by omega)] at Lc
      cases Lc
    have hm5 := hBB.2.2.2.2.1 c Lc
    have O := J0.2.2.2.2.1.2.2.2.2.2.2.2.2.2.1 c lc
    have nc : ¬ nI c = -1 := nI_nm (by omega)
    have nW : ¬ nI (W c) = -1 := nI_nm (by have := O.1; omega)
    have lv := fun y => ab_live_rl (A := A0) (show d < 7 by omega) hsv hBB.1 y
    have vh : ∀ g i w, ¬ (g = 1 ∧ i = d ∧ (w = 1 ∨ w = 7)) → (ab_v (ab_rl A0 d) 1 d 7 1).1 g i w = A0.1 g i w := fun g i w h => by rw [ab_v_1, if_neg (by omega), ab_rl_1, if_neg (by omega)]
    have b : ab_B D S T m n N (ab_pm (ab_v (ab_rl A0 d) 1 d 7 1) c) (ab_L L c false) := by
      refine ab_B_rm (A := A0) Lc (fun q x _ hx => by rw [ab_pm_2] at hx; exact hx) (fun q hq => by rw [ab_pm_2]; exact hBB.1.2.1 q hq) (fun q _ => by rw [ab_pm_2]; exact Nat.le_refl _) (by rw [ab_pm_2]; rfl) (fun d' _ => ?_) (fun y => ?_) (fun g i w h h' => ?_) (fun r => ?_) hBB
      · rw [ab_pm_2, ab_pm_1 _ _ _ _ _ (by omega)]
        have e4 : (ab_v (ab_rl A0 d) 1 d 7 1).2.2.2 d' = if d' = d then none else A0.2.2.2 d' := rfl
        by_cases z : d' = d
        · have e1 : (ab_v (ab_rl A0 d) 1 d 7 1).1 1 d' 1 = -1 := by rw [ab_v_1, if_neg (by omega), ab_rl_1, if_pos ⟨rfl, z, rfl⟩]
          rw [e4, if_pos z, e1]
          exact .inr ⟨rfl, rfl⟩
        · rw [e4, if_neg z, vh _ _ _ (by omega)]
          exact .inl ⟨rfl, rfl⟩
      · rw [ab_live_2 (ab_pm_2 _ _)]
        exact lv y
      · rw [ab_pm_1 _ _ _ _ _ (by omega), vh _ _ _ (by omega)]
      · rw [ab_pm_3, vh _ _ _ (by omega)]
    have tks := ab_tks (D := D) (A := A0) (A' := ab_v (ab_rl A0 d) 1 d 7 1) c (fun r w => vh _ _ _ (by omega))
    have Vh1 : ab_V1 D S m d d (ab_v (ab_rl A0 d) 1 d 7 1) L := by
      have Vrl : ab_V1 D S m d 7 (ab_rl A0 d) L := by
        have vr : ∀ g i w, ¬ (g = 1 ∧ i = d ∧ w = 1) → (ab_rl A0 d).1 g i w = A0.1 g i w := fun g i w h => by rw [ab_rl_1, if_neg h]
        obtain ⟨k1, k2, k3, k4, k5, k6⟩ := V1
        refine ⟨⟨by rw [vr _ _ _ (by omega)]; exact k1.1, k1.2.1, fun d' k h1 h2 h3 => k1.2.2.1 d' k h1 h2 (by rw [← vr _ _ _ (by omega)]; exact h3), fun k hk => ab_Ks_tr (vr _ _ _ (by omega)) (fun d => vr _ _ _ (by omega)) (fun _ _ => rfl) (k1.2.2.2 k hk)⟩, k2, ?_, fun e he hne => by rw [vr _ _ _ (by omega)]; exact k4 e he hne, fun r hr h6 => k5 r hr (by rw [← vr _ _ _ (by omega)]; exact h6), k6⟩
        rw [(ab_cnts (A := A0) (A' := ab_rl A0 d) (fun i w => vr _ _ _ (by omega)) (fun i w => vr _ _ _ (by omega)) S).1]
        exact k3
      exact ab_V1_hole d (fun e _ h1 h2 => absurd h2 h1) (.inl rfl) (.inr rfl) Vrl
    obtain ⟨s52, s1, W1, F1, A1, L1, a1, a2, a3, J1, V2, rq, off, qs⟩ := ab_hd (A := ab_v (ab_rl A0 d) 1 d 7 1) (h := d) Lc hge hc hcd (by omega) (by omega) J0.1 hp J0.2.2.1 (ab_C_hole C1) (ab_R_hole J0.2.2.2.2.1) ⟨O.1, by rw [tks.1]; exact O.2.1, by rw [tks.2.1]; exact O.2.2.1, by rw [tks.2.2]; exact O.2.2.2.1, O.2.2.2.2⟩ (J0.2.2.2.2.1.2.2.2.2.2.2.2.2.2.2.2.2.2 c lc) (fun y hy e => ((lv y).mp hy).2 (J0.2.2.2.2.1.2.2.2.2.2.2.2.2.2.2.1 y c ((lv y).mp hy).1 lc e)) b J0.2.2.2.2.2.2 (by rw [vh _ _ _ (by omega)]; exact (hBB.2.2.2.2.2.2.1 _ (by omega)).2.2.2) Vh1
    have sn : A1.2.2.2 d = none := by
      rw [rq.2.1]
      show (ab_rl A0 d).2.2.2 d = none
      rw [ab_rl_4, if_pos rfl]
    have u1 : A1.1 1 d 1 = -1 := by
      rw [rq.1 _ _ _ (by omega) (by omega), ab_v_1, if_neg (by omega), ab_rl_1, if_pos ⟨rfl, rfl, rfl⟩]
    obtain ⟨s2, s3, q1, q2, F3, R3⟩ := ab_R_unhole (show d < 7 by omega) sn u1 J1.2.2.2.2.1
    have vz : ∀ g i w, ¬ (g = 1 ∧ i = d ∧ (w = 1 ∨ w = 7)) → ¬ (g = 5) → g ≠ 6 → (ab_v A1 1 d 7 0).1 g i w = A0.1 g i w := fun g i w h h5 h6 => by
      rw [ab_v_1, if_neg (by omega), rq.1 _ _ _ (by omega) h6, vh _ _ _ (by omega)]
    simp only [if_neg nc, a1, if_neg nW, a2, q1, q2]
    obtain ⟨s5', s', W', F', A', L', x', g1, g2, g3, Z'⟩ := loop (ab_v A1 1 d 7 0) L1 W1 F1 s52 s3 1 (nI c) ((F0.trans a3).trans F3) ⟨J1.1, hp, by rw [F3.2.2.1 0 (by decide)]; exact J1.2.2.1, ab_C_hole J1.2.2.2.1, R3, ab_B_hole J1.2.2.2.2.2.1, J1.2.2.2.2.2.2⟩ (ab_V1_hole 7 (fun e _ _ _ => rfl) (.inr rfl) (.inl rfl) V2) sn ⟨by rw [vz _ _ _ (by omega) (by omega) (by omega)]; exact lines.1, by rw [vz _ _ _ (by omega) (by omega) (by omega)]; exact lines.2⟩ (fun d' c' h1 h2 => by
      have h2' : A1.2.2.2 d' = some c' := h2
      rw [rq.2.1] at h2'
      have h2'' : (ab_rl A0 d).2.2.2 d' = some c' := h2'
      rw [ab_rl_4] at h2''
      by_cases z : d' = d
      · rw [if_pos z] at h2''
        cases h2''
      · rw [if_neg z] at h2''
        rw [vz _ _ _ (by omega) (by omega) (by omega)]
        exact hu0 d' c' h1 h2'')
    exact ⟨s5', s', W', F', A', L', x', g1, g2, g3, Z'⟩
