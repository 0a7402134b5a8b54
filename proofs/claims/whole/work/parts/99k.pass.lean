/-! From one event to the next, in both programs. -/
theorem ab_now_eq {A : ab_S} {n : Nat} (h : A.1 0 0 0 = nI n) : ab_v A 0 0 0 (nI n) = A := by
  refine ab_ext (fun g i w => ?_) rfl
  rw [ab_v_1]
  by_cases u : g = 0 ∧ i = 0 ∧ w = 0
  · rw [if_pos u, u.1, u.2.1, u.2.2, h]
  · rw [if_neg u]
/-- an idle tick of the reference: the clock alone -/
theorem ab_pass0 {D S T m n N ln cnt e j : Nat} {tk : Nat → Nat} {f : Option Nat} {p : Nat → Int32} {A : ab_S} {L : Nat → Bool} {W : Nat → Nat} {F : List Nat} {s6 : cs_S} {s : mo_S} (hp : ab_pl p D S T) (hs : s.2.2.1 0 = p) (he : n + j + 1 < e) (he' : e ≤ 99999) (hR : ab_R D (ab_v A 0 0 0 (nI (n + j))) s W F) (hB : ab_B D S T m n N A L) (V : ab_V D S m f A L) (TR : ab_TR D S T cnt tk s6 s) (h3 : A.1 0 0 3 = nI ln) (hln : ln ≤ cnt) (hl : ∀ i, ln ≤ i → i < cnt → e ≤ tk i) (hu : ∀ d c, d ≤ D → A.2.2.2 d = some c → ∃ u, A.1 1 d 1 = nI u ∧ e ≤ u ∧ u ≤ 101000) (fx : ab_fx p S f A) (hc : ∀ t : Nat, n < t → t < e → ∀ d, d ≤ D → A.2.2.2 d = none → ∀ q, q < T → ∀ a l, A.2.1 (6 * d + q) = a :: l → ∀ w, w < 3 → ab_rk p (nI t) w a = none) :
    ∃ s', f_X9_passTick s = some s' ∧ rf_F s s' ∧ ab_R D (ab_v A 0 0 0 (nI (n + (j + 1)))) s' W F := by
  have hD := hp.2.2.2.2.1
  have r0 : s.2.2.1 3 0 = nI (n + j) := (hR.1 0 (by decide)).trans (by rw [ab_v_1, if_pos ⟨rfl, rfl, rfl⟩])
  obtain ⟨s1, c1, F1, n1, t1, q1⟩ := rf_us s (nI (n + (j + 1))) (eb_0 (w := 0) (by decide))
  have R1 := ab_R_0 (by decide) (by decide) n1 t1 q1 hR
  have ee : ab_v (ab_v A 0 0 0 (nI (n + j))) 0 0 0 (nI (n + (j + 1))) = ab_v A 0 0 0 (nI (n + (j + 1))) := by
    refine ab_ext (fun g i w => ?_) rfl
    simp only [ab_v_1]
    by_cases u : g = 0 ∧ i = 0 ∧ w = 0
    · rw [if_pos u, if_pos u]
    · rw [if_neg u, if_neg u, if_neg u]
  rw [ee] at R1
  have v1 : ∀ g i w, ¬ (g = 0 ∧ w = 0) → (ab_v A 0 0 0 (nI (n + (j + 1)))).1 g i w = A.1 g i w := fun g i w h => by rw [ab_v_1, if_neg (by omega)]
  have hs1 : s1.2.2.1 0 = p := by rw [F1.2.2.1 0 (by decide)]; exact hs
  have B' : ab_B D S T m (n + (j + 1)) N (ab_v A 0 0 0 (nI (n + (j + 1)))) L := ab_B_now (by omega) (fun d c hd hc' => by
    have := (hB.2.2.2.1 d c hd hc').2
    obtain ⟨u, q1, q2, q3⟩ := hu d c this hc'
    exact ⟨u, q1, by omega, q3⟩) hB
  have idle := ab_idle (n := n + (j + 1)) (ln := ln) hp hs1 R1 B' (ab_V_0 (by decide) V) (TR.fr F1) (by rw [v1 _ _ _ (by omega)]; exact h3) hln (fun i h1 h2 => by have := hl i h1 h2; omega) (fun d c hd hc' => by
    obtain ⟨u, q1, q2, q3⟩ := hu d c hd hc'
    rw [v1 _ _ _ (by omega), q1]
    exact fun h => absurd ((nI_eq (by omega) (by omega)).mp h) (by omega)) (fun f' hf => by
    rw [(ab_cnts (A := A) (A' := ab_v A 0 0 0 (nI (n + (j + 1)))) (fun i w => v1 _ _ _ (by omega)) (fun i w => v1 _ _ _ (by omega)) S).1]
    rcases fx f' hf with h | h
    · exact .inl (fun k hk => by rw [v1 _ _ _ (by omega)]; exact h k hk)
    · exact .inr h) (fun d hd hdn w q hw hq => by
    unfold ab_cd
    have q2 : (ab_v A 0 0 0 (nI (n + (j + 1)))).2.1 = A.2.1 := rfl
    have q3 : (ab_v A 0 0 0 (nI (n + (j + 1)))).1 0 0 0 = nI (n + (j + 1)) := by rw [ab_v_1, if_pos ⟨rfl, rfl, rfl⟩]
    rw [q2, q3]
    cases hq' : A.2.1 (6 * d + q) with
    | nil => rfl
    | cons a l => exact hc (n + (j + 1)) (by omega) (by omega) d hd hdn q hq a l hq' w hw)
  refine ⟨s1, ?_, F1, R1⟩
  have e0 : mo_a s 3 0 (s.2.2.1 3 0 + 1) = s1 := by
    rw [r0, nI_1, ← c1]
    rfl
  rw [passTick_R, e0]
  exact idle
/-- the tick of the event itself -/
theorem ab_pass1 {D S T m n N ln cnt e j : Nat} {tk : Nat → Nat} {f : Option Nat} {p : Nat → Int32} {A : ab_S} {L : Nat → Bool} {W : Nat → Nat} {F : List Nat} {s4 s5 s6 : cs_S} {s : mo_S} {l1 l2 l3 : Int32} (hP : ab_P p s4) (hp : ab_pl p D S T) (hs : s.2.2.1 0 = p) (he : n + j + 1 = e) (he' : e ≤ 99999) (hN : N + 2000 ≤ 1000000000000) (hC : ab_C S A s5) (hF : F.length + ab_cnt L 3248 = 2200) (hR : ab_R D (ab_v A 0 0 0 (nI (n + j))) s W F) (hB : ab_B D S T m n N A L) (V : ab_V D S m f A L) (TR : ab_TR D S T cnt tk s6 s) (h3 : A.1 0 0 3 = nI ln) (h11 : A.1 0 0 11 = 0) (hln : ln ≤ cnt) (hl : ∀ i, ln ≤ i → i < cnt → e ≤ tk i) (hu : ∀ d c, d ≤ D → A.2.2.2 d = some c → ∃ u, A.1 1 d 1 = nI u ∧ e ≤ u ∧ u ≤ 101000) :
    ∃ s5' s' W' F' A' L' m' ln', pm_loop pm_fu (lb_X1_runTo_44 s4 s6) (cs_i s5 0 4 (nI e), l1, l2, l3, 0) = some (.inl (s5', l1, l2, l3 + 1)) ∧ f_X9_passTick s = some s' ∧ rf_F s s' ∧ ab_Z D S T m' e (N + 2000) ln' cnt tk f p A' L' W' F' s4 s5' s6 s' ∧ A'.1 0 0 9 = A.1 0 0 9 ∧ A'.1 0 0 10 = A.1 0 0 10 ∧ (f = none → A'.1 0 0 7 = A.1 0 0 7) := by
  have hD := hp.2.2.2.2.1
  have r0 : s.2.2.1 3 0 = nI (n + j) := (hR.1 0 (by decide)).trans (by rw [ab_v_1, if_pos ⟨rfl, rfl, rfl⟩])
  obtain ⟨s1, c1, F1, n1, t1, q1⟩ := rf_us s (nI e) (eb_0 (w := 0) (by decide))
  have R1 := ab_R_0 (by decide) (by decide) n1 t1 q1 hR
  have ee : ab_v (ab_v A 0 0 0 (nI (n + j))) 0 0 0 (nI e) = ab_v A 0 0 0 (nI e) := by
    refine ab_ext (fun g i w => ?_) rfl
    simp only [ab_v_1]
    by_cases u : g = 0 ∧ i = 0 ∧ w = 0
    · rw [if_pos u, if_pos u]
    · rw [if_neg u, if_neg u, if_neg u]
  rw [ee] at R1
  have v1 : ∀ g i w, ¬ (g = 0 ∧ w = 0) → (ab_v A 0 0 0 (nI e)).1 g i w = A.1 g i w := fun g i w h => by rw [ab_v_1, if_neg (by omega)]
  have B' : ab_B D S T m e N (ab_v A 0 0 0 (nI e)) L := ab_B_now (by omega) (fun d c hd hc' => by
    have := (hB.2.2.2.1 d c hd hc').2
    obtain ⟨u, q1, q2, q3⟩ := hu d c this hc'
    exact ⟨u, q1, by omega, q3⟩) hB
  have J1 : ab_J D S T m e N p (ab_v A 0 0 0 (nI e)) L W F s4 (cs_i s5 0 4 (nI e)) s1 := ⟨hP, hp, by rw [F1.2.2.1 0 (by decide)]; exact hs, ab_C_0 (w := 0) (by omega) hC, R1, B', hF⟩
  obtain ⟨s5', s', W', F', A', L', m', ln', a1, a2, a3, Z, x9, x10, x7⟩ := ab_tick (l1 := l1) (l2 := l2) (l3 := l3) hN J1 (ab_V_0 (by decide) V) (TR.fr F1) (by rw [v1 _ _ _ (by omega)]; exact h3) (by rw [v1 _ _ _ (by omega)]; exact h11) hln hl
  refine ⟨s5', s', W', F', A', L', m', ln', a1, ?_, F1.trans a3, Z, by rw [x9, v1 _ _ _ (by omega)], by rw [x10, v1 _ _ _ (by omega)], fun h => by rw [x7 h, v1 _ _ _ (by omega)]⟩
  have e0 : mo_a s 3 0 (s.2.2.1 3 0 + 1) = s1 := by
    rw [r0, nI_1, he, ← c1]
    rfl
  rw [passTick_R, e0]
  exact a2
