/-! The next event: the program's class. -/
theorem ab_ec {D S T m n N d : Nat} {p : Nat → Int32} {A : ab_S} {s4 s : cs_S} {L : Nat → Bool} (hp : ab_pl p D S T) (hP : ab_P p s4) (hd : d < 7) (hB : ab_B D S T m n N A L) (H : ab_C S A s) : ∃ r, f_X3_earliestChoice s4 s (nI d) = some r ∧ ∀ t a l, t < T → A.2.1 (6 * d + t) = a :: l → ab_nb p a r.toInt := by
  have hT := hp.2.2.2.2.2.2.2.2.1
  unfold f_X3_earliestChoice
  refine lp_for (Q := fun r => ∀ t a l, t < T → A.2.1 (6 * d + t) = a :: l → ab_nb p a r.toInt) (B := lb_X3_earliestChoice_7 s4 s) T (fun i x => ∃ r, x = (nI d, r, nI i) ∧ ∀ t a l, t < i → A.2.1 (6 * d + t) = a :: l → ab_nb p a r.toInt) (by unfold pm_fu; omega) ?_ ?_ ⟨1152921504606846976, rfl, fun t a l h => absurd h (by omega)⟩
  · rintro i x hi ⟨r, rfl, hI⟩
    have le : ¬ s4.1 0 7 ≤ nI i := by
      rw [hP.2.2.2.2.2.2.1, hp.2.2.1]
      exact fun k => absurd ((nI_leI (by omega) (by omega)).mp k) (by omega)
    have hq : 6 * d + i < 42 := by omega
    have Q := H.2.2.1 (6 * d + i) hq
    have U4 := hB.1.2.2.2.1 (6 * d + i) hq
    unfold lb_X3_earliestChoice_7
    simp (disch := omega) only [if_neg le, numberOf_w, nb_nI, nI_clamp, Q.1, nI_1, hP.2.2.2.2.2.2.2.1]
    cases hl : A.2.1 (6 * d + i) with
    | nil =>
      have z : nI ([] : List ab_O).length ≤ 0 := by decide
      simp only [if_pos z]
      refine ⟨_, rfl, r, rfl, fun t a l ht h => ?_⟩
      by_cases e : t = i
      · rw [e, hl] at h
        cases h
      · exact hI t a l (by omega) h
    | cons a l =>
      have ma : a ∈ A.2.1 (6 * d + i) := by rw [hl]; exact List.mem_cons_self
      have ha := hB.1.2.2.1 _ a hq ma
      have nz : ¬ nI (a :: l).length ≤ 0 := by
        rw [hl] at U4
        intro h
        have := (nI_le0 (by omega)).mp h
        rw [List.length_cons] at this
        omega
      obtain ⟨r2, c1, c2⟩ := ab_cf_C hp hq ma ha hB.2.2.2.2.2.2.2.2.2.2.2.2 hB.2.2.2.2.2.2.2.2.1 Q
      simp only [if_neg nz, (Q.2.1 a l hl).1, c1]
      refine ⟨_, rfl, _, rfl, fun t b l' ht h => ?_⟩
      have mn := i64_min r2 r
      by_cases e : t = i
      · rw [e, hl] at h
        rw [← (List.cons.inj h).1]
        intro t' h1 h2 w hw
        refine c2 t' h1 ?_ w hw
        rw [mn] at h2
        split at h2 <;> omega
      · intro t' h1 h2 w hw
        refine hI t b l' (by omega) h t' h1 ?_ w hw
        rw [mn] at h2
        split at h2 <;> omega
  · rintro x ⟨r, rfl, hI⟩
    unfold lb_X3_earliestChoice_7
    simp only [hP.2.2.2.2.2.2.1, hp.2.2.1, Int32.le_refl, if_true]
    exact ⟨_, rfl, hI⟩
/-- from the tick n, towards tg: the next tick e at which something may happen -/
theorem ab_ne {D S T m n N ln cnt tg : Nat} {tk : Nat → Nat} {f : Option Nat} {p : Nat → Int32} {A : ab_S} {L : Nat → Bool} {W : Nat → Nat} {F : List Nat} {s4 s5 s6 : cs_S} {s : mo_S} (htg : n < tg) (htg' : tg ≤ 99999) (Z : ab_Z D S T m n N ln cnt tk f p A L W F s4 s5 s6 s) :
    ∃ e, f_X1_nextEvent s4 s5 s6 (nI tg) = some (nI e) ∧ n < e ∧ e ≤ tg ∧ (∀ i, ln ≤ i → i < cnt → e ≤ tk i) ∧ (∀ d c, d ≤ D → A.2.2.2 d = some c → ∃ u, A.1 1 d 1 = nI u ∧ e ≤ u ∧ u ≤ 101000) ∧ (∀ t : Nat, n < t → t < e → ∀ d, d ≤ D → A.2.2.2 d = none → ∀ q, q < T → ∀ a l, A.2.1 (6 * d + q) = a :: l → ∀ w, w < 3 → ab_rk p (nI t) w a = none) := by
  obtain ⟨⟨hP, hp, hs, hC, hR, hB, hF⟩, V, TR, ⟨h3, h11, hln, hl⟩, hu, fx⟩ := Z
  have hD := hp.2.2.2.2.1
  have nowC : s5.1 0 4 = nI n := hC.1.1.trans hB.2.2.2.2.2.1.2.2.2
  have hn := hB.2.2.2.2.2.1.2.2.1
  have k2 : s5.1 0 2 = nI ln := by rw [hC.1.2.2.2.1, h3, h11, Int32.sub_zero]
  obtain ⟨⟨T1, T2, T3, T4⟩, T5⟩ := TR
  have until_ : ∀ d c, d ≤ D → A.2.2.2 d = some c → ∃ u, A.1 1 d 1 = nI u ∧ n < u ∧ u ≤ 101000 := fun d c hd hc => by
    obtain ⟨u, q1, q2, q3⟩ := (hB.2.2.2.2.2.2.2.1 d (by omega)).2.1 c hc
    refine ⟨u, q1, ?_, q3⟩
    have : u ≠ n := fun e => hu d c hd hc (by rw [q1, e])
    omega
  have tg64 : (nI tg).toInt64.toInt = tg := by rw [Int32.toInt_toInt64, nI_toInt (by omega)]
  have loop : ∀ l0 : Int64, l0.toInt ≤ tg → (ln < cnt → l0.toInt ≤ tk ln) → ∃ e, pm_loop pm_fu (lb_X1_nextEvent_38 s4 s5 s6) (nI tg, l0, 0) = some (nI e) ∧ n < e ∧ e ≤ tg ∧ (∀ i, ln ≤ i → i < cnt → e ≤ tk i) ∧ (∀ d c, d ≤ D → A.2.2.2 d = some c → ∃ u, A.1 1 d 1 = nI u ∧ e ≤ u ∧ u ≤ 101000) ∧ (∀ t : Nat, n < t → t < e → ∀ d, d ≤ D → A.2.2.2 d = none → ∀ q, q < T → ∀ a l, A.2.1 (6 * d + q) = a :: l → ∀ w, w < 3 → ab_rk p (nI t) w a = none) := by
    intro l0 b1 b2
    have step := lp_for (Q := fun r => ∃ e, r = nI e ∧ n < e ∧ e ≤ tg ∧ (∀ i, ln ≤ i → i < cnt → e ≤ tk i) ∧ (∀ d c, d ≤ D → A.2.2.2 d = some c → ∃ u, A.1 1 d 1 = nI u ∧ e ≤ u ∧ u ≤ 101000) ∧ (∀ t : Nat, n < t → t < e → ∀ d, d ≤ D → A.2.2.2 d = none → ∀ q, q < T → ∀ a l, A.2.1 (6 * d + q) = a :: l → ∀ w, w < 3 → ab_rk p (nI t) w a = none)) (B := lb_X1_nextEvent_38 s4 s5 s6) (D + 1) (fun i x => ∃ r : Int64, x = (nI tg, r, nI i) ∧ r.toInt ≤ tg ∧ (ln < cnt → r.toInt ≤ tk ln) ∧ (∀ d, d < i → (∀ c u, A.2.2.2 d = some c → A.1 1 d 1 = nI u → u ≤ 101000 → r.toInt ≤ u) ∧ (A.2.2.2 d = none → ∀ q a l, q < T → A.2.1 (6 * d + q) = a :: l → ab_nb p a r.toInt))) (by unfold pm_fu; omega) (by
      rintro i x hi ⟨r, rfl, r1, r2, r3⟩
      have lt : ¬ s4.1 0 0 < nI i := by
        rw [hP.1, hp.1]
        exact fun h => absurd ((nI_ltI (by omega) (by omega)).mp h) (by omega)
      have Cd := hC.2.2.2.1 i (by omega)
      have mono : ∀ (r' : Int64), r'.toInt ≤ r.toInt → r'.toInt ≤ tg ∧ (ln < cnt → r'.toInt ≤ tk ln) ∧ (∀ d, d < i → (∀ c u, A.2.2.2 d = some c → A.1 1 d 1 = nI u → u ≤ 101000 → r'.toInt ≤ u) ∧ (A.2.2.2 d = none → ∀ q a l, q < T → A.2.1 (6 * d + q) = a :: l → ab_nb p a r'.toInt)) := fun r' h => by
        refine ⟨by omega, fun k => by have := r2 k; omega, fun d hd => ⟨fun c u h1 h2 h4 => by have := (r3 d hd).1 c u h1 h2 h4; omega, fun h1 q a l h2 h4 t ht1 ht2 => (r3 d hd).2 h1 q a l h2 h4 t ht1 (by omega)⟩⟩
      unfold lb_X1_nextEvent_38
      simp (disch := omega) only [if_neg lt, nb_nI, nI_clamp, Cd.1, Cd.2.1, nI_1]
      cases hsv : A.2.2.2 i with
      | none =>
        obtain ⟨y, y1, y2⟩ := ab_ec hp hP (show i < 7 by omega) hB hC
        simp only [if_true, y1]
        have mn := i64_min y r
        obtain ⟨m1, m2, m3⟩ := mono (if y < r then y else r) (by rw [mn]; split <;> omega)
        refine ⟨_, rfl, _, rfl, m1, m2, fun d hd => ?_⟩
        by_cases z : d = i
        · rw [z]
          refine ⟨(fun c u h => by rw [hsv] at h; cases h), fun _ q a l hq ha t ht1 ht2 w hw => y2 q a l hq ha t ht1 ?_ w hw⟩
          rw [mn] at ht2
          split at ht2 <;> omega
        · exact m3 d (by omega)
      | some c =>
        obtain ⟨u, q1, q2, q3⟩ := until_ i c (by omega) hsv
        have hc := hB.1.2.2.2.2.2.2 i c (by omega) hsv
        have nc : ¬ nI c = -1 := nI_nm (by omega)
        have u64 : (A.1 1 i 1).toInt64.toInt = u := by rw [q1, Int32.toInt_toInt64, nI_toInt (by omega)]
        simp only [if_neg nc]
        have mn := i64_min (A.1 1 i 1).toInt64 r
        rw [u64] at mn
        obtain ⟨m1, m2, m3⟩ := mono (if (A.1 1 i 1).toInt64 < r then (A.1 1 i 1).toInt64 else r) (by rw [mn]; split <;> omega)
        refine ⟨_, rfl, _, rfl, m1, m2, fun d hd => ?_⟩
        by_cases z : d = i
        · rw [z]
          refine ⟨fun c' u' _ h h' => ?_, fun h => by rw [hsv] at h; cases h⟩
          rw [q1] at h
          have := (nI_eq (by omega) (by omega)).mp h
          rw [mn]
          split <;> omega
        · exact m3 d (by omega)) (by
      rintro x ⟨r, rfl, r1, r2, r3⟩
      have gt : s4.1 0 0 < nI (D + 1) := by
        rw [hP.1, hp.1]
        exact (nI_ltI (by omega) (by omega)).mpr (by omega)
      unfold lb_X1_nextEvent_38
      simp only [if_pos gt, nowC, nI_1]
      have n64 : (nI (n + 1)).toInt64.toInt = ((n + 1 : Nat) : Int) := by rw [Int32.toInt_toInt64, nI_toInt (by omega)]
      by_cases c : (nI (n + 1)).toInt64 < r
      · simp only [if_pos c]
        have c' := Int64.lt_iff_toInt_lt.mp c
        rw [n64] at c'
        have er : r.toInt32 = nI r.toInt.toNat := by
          apply Int32.toInt_inj.mp
          rw [nI_toInt (by omega), Int64.toInt_toInt32]
          rw [show ((r.toInt.toNat : Nat) : Int) = r.toInt by omega]
          exact Int.bmod_eq_of_le (by omega) (by omega)
        refine ⟨_, rfl, r.toInt.toNat, er, by omega, by omega, fun i h1 h2 => ?_, fun d c h1 h2 => ?_, fun t h1 h2 d hd hdn q hq a l ha w hw => ?_⟩
        · have := T4 ln i h1 h2
          have := r2 (by omega)
          omega
        · obtain ⟨u, q1, q2, q3⟩ := until_ d c h1 h2
          have := (r3 d (by omega)).1 c u h2 q1 q3
          exact ⟨u, q1, by omega, q3⟩
        · exact (r3 d (by omega)).2 hdn q a l hq ha t (by omega) (by omega) w hw
      · simp only [if_neg c]
        have er : (nI (n + 1)).toInt64.toInt32 = nI (n + 1) := by
          apply Int32.toInt_inj.mp
          rw [Int64.toInt_toInt32, n64, nI_toInt (by omega)]
          exact Int.bmod_eq_of_le (by omega) (by omega)
        refine ⟨_, rfl, n + 1, er, by omega, by omega, fun i h1 h2 => hl i h1 h2, fun d c h1 h2 => ?_, fun t h1 h2 => absurd h2 (by omega)⟩
        obtain ⟨u, q1, q2, q3⟩ := until_ d c h1 h2
        exact ⟨u, q1, by omega, q3⟩) (x := (nI tg, l0, 0)) ⟨l0, rfl, b1, b2, fun d hd => absurd hd (by omega)⟩
    obtain ⟨r, k1, e, rfl, k3⟩ := step
    exact ⟨e, k1, k3⟩
  unfold f_X1_nextEvent
  rw [T2, k2]
  by_cases u : cnt ≤ ln
  · rw [if_pos ((nI_leI (by omega) (by omega)).mpr u)]
    exact loop _ (by rw [tg64]; omega) (fun h => absurd h (by omega))
  · rw [if_neg (fun h => u ((nI_leI (by omega) (by omega)).mp h))]
    obtain ⟨g1, g2, _⟩ := T5 ln (by omega)
    simp (disch := omega) only [nb_nI, nI_clamp, g2]
    have t64 : (nI (tk ln)).toInt64.toInt = tk ln := by rw [Int32.toInt_toInt64, nI_toInt (by omega)]
    have mn := i64_min (nI (tk ln)).toInt64 (nI tg).toInt64
    rw [t64, tg64] at mn
    refine loop _ ?_ (fun _ => ?_) <;> rw [mn] <;> split <;> omega
