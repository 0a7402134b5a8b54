/-! The degraded read's operations are queued, in both programs. -/
theorem ab_J.up {D S T m n N M : Nat} {p : Nat → Int32} {A : ab_S} {L : Nat → Bool} {W : Nat → Nat} {F : List Nat} {s4 s5 : cs_S} {s : mo_S} (h : ab_J D S T m n N p A L W F s4 s5 s) (l : N ≤ M) (hM : M ≤ 1000000000000) : ab_J D S T m n M p A L W F s4 s5 s :=
  ⟨h.1, h.2.1, h.2.2.1, h.2.2.2.1, h.2.2.2.2.1, h.2.2.2.2.2.1.up l hM, h.2.2.2.2.2.2⟩
theorem ab_dg {D S T m n N r t k f : Nat} {p : Nat → Int32} {A : ab_S} {L : Nat → Bool} {W : Nat → Nat} {F : List Nat} {s4 s5 : cs_S} {s : mo_S} (hr : r < m) (ht : A.1 5 r 0 = nI t) (ht' : t < T) (hk : A.1 5 r 5 = nI k) (hkS : k < S) (h6 : A.1 5 r 6 = 0) (hf : f < D) (hf1 : A.1 0 0 1 = nI f) (hL0 : ∀ d, d < 7 → L (7 * (64 + r) + d) = false) (hcnt : ab_cnt L 3248 ≤ 2100) (hN : N + 7 ≤ 1000000000000) (H : ab_J D S T m n N p A L W F s4 s5 s) :
    ∃ s5' s1 s' W' F' A' L', f_X1_queueDegradedRead s4 s5 (nI r) = some s5' ∧ f_X9_queueDegraded s (nI r) (nI k) = some s1 ∧ f_X9_checkRequest s1 (nI r) = some s' ∧ rf_F s s' ∧ ab_J D S T m n (N + 7) p A' L' W' F' s4 s5' s' ∧ ab_rq r A A' L L' ∧ (∀ d, d < 7 → L' (7 * (64 + r) + d) = true → d < D ∧ d ≠ f) ∧ (∀ q, q / 6 = f → A'.2.1 q = A.2.1 q) := by
  have hp := H.2.1
  have hD := hp.2.2.2.2.1
  have hS := hp.2.2.2.2.2.2.1
  have hT := hp.2.2.2.2.2.2.2.2.1
  have hm := H.2.2.2.2.2.1.2.2.2.2.2.1.1
  unfold f_X1_queueDegradedRead f_X9_queueDegraded
  obtain ⟨e, e', h1, h2, s', g1, g2, W', F', A', L', g3, g4, g5, g6⟩ := lp2_for (Q := fun e e' => ∃ s', f_X9_checkRequest e' (nI r) = some s' ∧ rf_F s s' ∧ ∃ W' F' A' L', ab_J D S T m n (N + 7) p A' L' W' F' s4 e s' ∧ ab_rq r A A' L L' ∧ (∀ d, d < 7 → L' (7 * (64 + r) + d) = true → d < D ∧ d ≠ f) ∧ (∀ q, q / 6 = f → A'.2.1 q = A.2.1 q)) (B := lb_X1_queueDegradedRead_2 s4) (B' := lb_X9_queueDegraded_2) D (fun i x y => x.2 = (nI r, nI i) ∧ y.2 = (nI r, nI k, nI i) ∧ rf_F s y.1 ∧ ∃ W' F' A' L', ab_J D S T m n (N + i) p A' L' W' F' s4 x.1 y.1 ∧ ab_rq r A A' L L' ∧ (∀ d, d < 7 → L' (7 * (64 + r) + d) = true → d < i ∧ d ≠ f) ∧ ab_cnt L' 3248 ≤ ab_cnt L 3248 + i ∧ (∀ q, q / 6 = f → A'.2.1 q = A.2.1 q)) (by unfold pm_fu; omega) (by
    rintro i ⟨x, x2⟩ ⟨y, y2⟩ hi ⟨rfl, rfl, Fs, W1, F1, A1, L1, J1, q1, l1, c1, x1⟩
    simp only [] at J1 Fs
    have hs1 := J1.2.2.1
    have le : ¬ p 0 ≤ nI i := by
      rw [hp.1]
      exact fun k => absurd ((nI_leI (by omega) (by omega)).mp k) (by omega)
    have f1 : A1.1 0 0 1 = nI f := by rw [q1.1 _ _ _ (by omega) (by omega)]; exact hf1
    have fC : x.1 31 0 = nI f := J1.2.2.2.1.1.2.1.trans f1
    have hc : nI r < A1.1 0 0 2 := by rw [J1.2.2.2.2.2.1.2.2.2.2.2.1.2.1]; exact (nI_ltI (by omega) (by omega)).mpr hr
    have Cr := J1.2.2.2.1.2.2.2.2.2.1 r (by omega) hc
    have t1 : A1.1 5 r 0 = nI t := by rw [q1.1 _ _ _ (by omega) (by omega)]; exact ht
    have k1 : A1.1 5 r 5 = nI k := by rw [q1.1 _ _ _ (by omega) (by omega)]; exact hk
    have w1 : A1.1 5 r 6 = 0 := by rw [q1.1 _ _ _ (by omega) (by omega)]; exact h6
    have k21 : x.2.1 21 r = nI k := by rw [Cr.2.2.2.2.2.1, k1]
    have eqf : nI i = nI f ↔ i = f := nI_eq (by omega) (by omega)
    have R5 := fun w hw => J1.2.2.2.2.1.2.2.2.2.2.2.2.1 r w (by omega) hc hw
    unfold lb_X1_queueDegradedRead_2 lb_X9_queueDegraded_2
    simp (disch := omega) only [J1.1.1, disks_w hs1, if_neg le, fC, nb_nI, nI_clamp, k21, isSurviving_w hp hs1 (show i < 7 by omega) J1.2.2.2.2.1, f1, nI_1]
    have step0 : (∀ d, d < 7 → L1 (7 * (64 + r) + d) = true → d < i + 1 ∧ d ≠ f) := fun d hd h => by
      have := l1 d hd h
      exact ⟨by omega, this.2⟩
    by_cases u : i = f
    · have sv : (if i < D ∧ nI i ≠ nI f then (1 : Int32) else 0) = 0 := if_neg (fun h => h.2 (eqf.mpr u))
      rw [sv]
      simp only [if_pos (eqf.mpr u), if_true]
      exact ⟨_, _, rfl, rfl, rfl, rfl, Fs, W1, F1, A1, L1, J1.up (by omega) (by omega), q1, step0, by omega, x1⟩
    · have sv : (if i < D ∧ nI i ≠ nI f then (1 : Int32) else 0) = 1 := if_pos ⟨hi, fun h => u (eqf.mp h)⟩
      rw [sv]
      simp only [if_neg (fun h => u (eqf.mp h)), i32_10, if_false, ab_holds_C (show i < 6 by omega) (show k < 64 by omega) J1.2.2.2.1, isHeldOn_w y (show i < 6 by omega) (show k < 64 by omega), J1.2.2.2.2.1.2.2.2.2.2.1 i k (by omega) (by omega)]
      by_cases v : A1.1 3 i k = 1
      · simp only [if_pos v, i32_10, if_false]
        exact ⟨_, _, rfl, rfl, rfl, rfl, Fs, W1, F1, A1, L1, J1.up (by omega) (by omega), q1, step0, by omega, x1⟩
      · simp only [if_neg v, if_true]
        have Li : L1 (7 * (64 + r) + i) = false := by
          cases hl : L1 (7 * (64 + r) + i) with
          | false => rfl
          | true =>
            have := l1 i (by omega) hl
            omega
        obtain ⟨s52, s2, W2, F2, a1, a2, a3, J2⟩ := ab_J_qf (d := i) hr (by omega) t1 ht' Li (by omega) (by omega) J1
        rw [w1, k1] at a2
        simp only [a1, ofRequest_0 y (show r < 400 by omega), R5 0 (by decide), ofRequest_2 y (show r < 400 by omega), R5 2 (by decide), a2]
        refine ⟨_, _, rfl, rfl, rfl, rfl, Fs.trans a3, W2, F2, _, _, J2, q1.trans (ab_rq.app (by omega)), fun d hd h => ?_, ?_, fun q hq => ?_⟩
        · unfold ab_L at h
          by_cases z : d = i
          · exact ⟨by omega, by omega⟩
          · rw [if_neg (by omega)] at h
            exact step0 d hd h
        · rw [ab_cnt_up Li, if_pos (by omega)]
          omega
        · obtain ⟨y, y1, y2, _⟩ := ab_app_2 p (ab_pd A1 (7 * (64 + r) + i)) (6 * i + t) t (7 * (64 + r) + i) (A1.1 5 r 2)
          rw [y2, if_neg (by omega), ab_pd_2]
          exact x1 q hq) (by
    rintro ⟨x, x2⟩ ⟨y, y2⟩ ⟨rfl, rfl, Fs, W1, F1, A1, L1, J1, q1, l1, c1, x1⟩
    simp only [] at J1 Fs
    have hs1 := J1.2.2.1
    have t1 : A1.1 5 r 0 = nI t := by rw [q1.1 _ _ _ (by omega) (by omega)]; exact ht
    obtain ⟨s52, s2, A2, a1, a2, a3, J2, q2, q2'⟩ := ab_J_chk hr t1 (by omega) J1
    unfold lb_X1_queueDegradedRead_2 lb_X9_queueDegraded_2
    simp (disch := omega) only [J1.1.1, disks_w hs1, hp.1, Int32.le_refl, if_true, nb_nI, nI_clamp]
    have fin : ∃ e, (if x.2.1 26 r = 0 then (match f_X5_end x (nI r) (x.1 0 4) with | none => none | some s5_6 => some (.inr s5_6)) else some (.inr x) : Option ((cs_S × Int32 × Int32) ⊕ cs_S)) = some (.inr e) ∧ e = s52 := by
      by_cases u : x.2.1 26 r = 0
      · rw [if_pos u] at a1 ⊢
        rw [a1]
        exact ⟨s52, rfl, rfl⟩
      · rw [if_neg u] at a1 ⊢
        rw [← Option.some.inj a1]
        exact ⟨x, rfl, rfl⟩
    obtain ⟨e, fe, rfl⟩ := fin
    exact ⟨e, y, fe, rfl, s2, a2, Fs.trans a3, W1, F1, A2, L1, J2.up (by omega) (by omega), q1.trans q2, (fun d hd h => by have := l1 d hd h; exact ⟨by omega, this.2⟩), fun q hq => by rw [q2']; exact x1 q hq⟩) (x := (s5, nI r, 0)) (y := (s, nI r, nI k, 0)) ⟨rfl, rfl, rf_F.rfl' s, W, F, A, L, H, ab_rq.refl r A L, (fun d hd h => by rw [hL0 d hd] at h; cases h), by omega, fun _ _ => rfl⟩
  exact ⟨e, e', s', W', F', A', L', h1, h2, g1, g2, g3, g4, g5, g6⟩
