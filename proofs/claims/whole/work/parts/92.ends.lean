/-! An operation of a request ends: the request's number of open operations, and its end. -/
theorem nI_le0 {j : Nat} (h : j < 2 ^ 31) : nI j ≤ 0 ↔ j = 0 := (nI_leI (b := 0) h (by decide)).trans ⟨fun k => by omega, fun k => by omega⟩
def ab_G (A : ab_S) (c t : Nat) : ab_S := if c < 448 then A else if (ab_pm A c).1 5 (c / 7 - 64) 3 ≤ 0 then ab_en (ab_pm A c) (c / 7 - 64) t else ab_pm A c
theorem ab_G_2 (A : ab_S) (c t : Nat) : (ab_G A c t).2 = A.2 := by
  unfold ab_G
  split
  · rfl
  · split
    · rw [ab_en_2, ab_pm_2]
    · exact ab_pm_2 A c
theorem ab_G_1 (A : ab_S) (c t g i w : Nat) (h5 : ¬ (g = 5 ∧ (w = 3 ∨ w = 4))) (h6 : g ≠ 6) : (ab_G A c t).1 g i w = A.1 g i w := by
  unfold ab_G
  split
  · rfl
  · split
    · rw [ab_en_1 _ _ _ _ _ _ (by omega) (by omega), ab_pm_1 _ _ _ _ _ (by omega)]
    · exact ab_pm_1 _ _ _ _ _ (by omega)
theorem ab_G_3 (A : ab_S) (c t r : Nat) : (ab_G A c t).1 5 r 3 = (ab_pm A c).1 5 r 3 := by
  unfold ab_G
  by_cases u : c < 448
  · rw [if_pos u]
    unfold ab_pm
    rw [if_pos u]
  · rw [if_neg u]
    split
    · rw [ab_en_1 _ _ _ _ _ _ (by omega) (by omega)]
    · rfl
theorem ab_G_E (A : ab_S) (c t : Nat) : ab_E A (ab_G A c t) := ⟨ab_G_2 A c t, fun g i w h h' => ab_G_1 A c t g i w h h'⟩
/-- it looks at the requests' numbers, the statistics and the tick alone -/
theorem ab_G_cg {A A' : ab_S} (h : ab_56 A A') (c t : Nat) : (∀ i w, (ab_G A' c t).1 5 i w = (ab_G A c t).1 5 i w) ∧ (∀ i w, (ab_G A' c t).1 6 i w = (ab_G A c t).1 6 i w) := by
  obtain ⟨h5, h6, h0⟩ := h
  by_cases u : c < 448
  · unfold ab_G
    rw [if_pos u, if_pos u]
    exact ⟨h5, h6⟩
  have pv : ∀ A : ab_S, ab_pm A c = ab_v A 5 (c / 7 - 64) 3 (A.1 5 (c / 7 - 64) 3 - 1) := fun A => by
    unfold ab_pm
    rw [if_neg u]
  have p5 : ∀ i w, (ab_pm A' c).1 5 i w = (ab_pm A c).1 5 i w := fun i w => by
    rw [pv, pv, ab_v_1, ab_v_1, h5, h5]
  have p6 : ∀ i w, (ab_pm A' c).1 6 i w = (ab_pm A c).1 6 i w := fun i w => by
    rw [pv, pv, ab_v_1, ab_v_1, h6, if_neg (by omega), if_neg (by omega)]
  have p0 : (ab_pm A' c).1 0 0 0 = (ab_pm A c).1 0 0 0 := by
    rw [pv, pv, ab_v_1, ab_v_1, h0, if_neg (by omega), if_neg (by omega)]
  have en4 : ∀ g i w, g = 5 ∨ g = 6 → (ab_en4 (ab_pm A' c) (c / 7 - 64) t).1 g i w = (ab_en4 (ab_pm A c) (c / 7 - 64) t).1 g i w := by
    intro g i w hg
    unfold ab_en4
    simp only [ab_v_1, p5, p6, p0]
    rcases hg with rfl | rfl
    · simp only [p5]
    · simp only [p6]
  have en : ∀ g i w, g = 5 ∨ g = 6 → (ab_en (ab_pm A' c) (c / 7 - 64) t).1 g i w = (ab_en (ab_pm A c) (c / 7 - 64) t).1 g i w := by
    intro g i w hg
    unfold ab_en
    rw [p5, p0]
    split
    · exact en4 g i w hg
    · split
      · exact en4 g i w hg
      · rw [ab_v_1, ab_v_1, p6, en4 g i w hg]
  unfold ab_G
  rw [if_neg u, if_neg u, p5]
  split
  · exact ⟨fun i w => en 5 i w (.inl rfl), fun i w => en 6 i w (.inr rfl)⟩
  · exact ⟨p5, p6⟩
theorem ab_E_eq {A B : ab_S} (h : ab_E A B) (h5 : ∀ i w, B.1 5 i w = A.1 5 i w) (h6 : ∀ i w, B.1 6 i w = A.1 6 i w) : B = A := by
  refine ab_ext (fun g i w => ?_) h.1
  by_cases u : g = 5
  · rw [u]
    exact h5 i w
  · by_cases v : g = 6
    · rw [v]
      exact h6 i w
    · exact h.2 g i w (by omega) v
/-- the program's side -/
theorem ab_C_G {S : Nat} {A : ab_S} {s : cs_S} {c r t j : Nat} (hc : c / 7 - 64 = r) (hc' : 448 ≤ c) (hr : r < 400) (hcr : nI r < A.1 0 0 2) (ht : A.1 5 r 0 = nI t) (ht' : t < 6) (hj : A.1 5 r 3 = nI (j + 1)) (hj' : j < 10) (H : ab_C S A s) : ∃ s', f_X5_endOperation s (nI r) (s.1 0 4) = some s' ∧ ab_C S (ab_G A c t) s' := by
  have k26 := (H.2.2.2.2.2.1 r hr hcr).2.2.2.1
  have pv : ab_pm A c = ab_v A 5 r 3 (nI j) := by
    unfold ab_pm
    rw [if_neg (by omega), hc, hj, nI_pred]
  have C1 : ab_C S (ab_pm A c) (cs_a s 26 (nI r) (nI j)) := by
    rw [pv]
    exact ab_C_5 (w := 3) hr (by decide) H
  have r26 : (cs_a s 26 (nI r) (nI j)).2.1 26 r = nI j := by rw [ca_2 (by omega), if_pos ⟨rfl, rfl⟩]
  have p3 : (ab_pm A c).1 5 r 3 = nI j := by rw [pv, ab_v_1, if_pos ⟨rfl, rfl, rfl⟩]
  have c0 : nI j ≤ 0 ↔ j = 0 := nI_le0 (by omega)
  have e0 : nI j = 0 ↔ j = 0 := nI_eq (b := 0) (by omega) (by decide)
  unfold f_X5_endOperation ab_G
  simp (disch := omega) only [nb_nI, nI_clamp, k26, hj, nI_pred, r26, hc, p3]
  rw [if_neg (show ¬ c < 448 by omega)]
  by_cases u : j = 0
  · rw [if_pos (e0.mpr u), if_pos (c0.mpr u)]
    obtain ⟨s', e1, e2⟩ := ab_C_en (t := t) hr (by rw [ab_pm_1 _ _ _ _ _ (by omega)]; exact hcr) (by rw [ab_pm_1 _ _ _ _ _ (by omega)]; exact ht) ht' C1
    have k : (cs_a s 26 (nI r) (nI j)).1 0 4 = s.1 0 4 := rfl
    rw [k] at e1
    exact ⟨s', by simp only [e1], e2⟩
  · rw [if_neg (fun h => u (e0.mp h)), if_neg (fun h => u (c0.mp h))]
    exact ⟨_, rfl, C1⟩
/-- the reference's side -/
theorem ab_R_G {D : Nat} {A : ab_S} {s : mo_S} {W : Nat → Nat} {F : List Nat} {c r t j : Nat} (hc : c / 7 - 64 = r) (hc' : 448 ≤ c) (hr : r < 400) (hcr : nI r < A.1 0 0 2) (ht : A.1 5 r 0 = nI t) (ht' : t < 6) (hj : A.1 5 r 3 = nI (j + 1)) (hj' : j < 10) (H : ab_R D A s W F) : ∃ s1 s2, f_X9_addPending s (nI r) (-1) = some s1 ∧ f_X9_checkRequest s1 (nI r) = some s2 ∧ rf_F s s2 ∧ ab_R D (ab_G A c t) s2 W F := by
  have k3 : vn s 5 r 3 = nI (j + 1) := (H.2.2.2.2.2.2.2.1 r 3 hr hcr (by decide)).trans hj
  have pv : ab_pm A c = ab_v A 5 r 3 (nI j) := by
    unfold ab_pm
    rw [if_neg (by omega), hc, hj, nI_pred]
  have em : nI (j + 1) + (-1) = nI j := by rw [← Int32.sub_eq_add_neg, nI_pred]
  obtain ⟨s1, c1, F1, n1, t1, q1⟩ := rf_us s (nI j) (eb_5 (w := 3) hr (by decide))
  have R1 : ab_R D (ab_pm A c) s1 W F := by
    rw [pv]
    exact ab_R_5 (.inl rfl) n1 t1 q1 H
  have p3 : (ab_pm A c).1 5 r 3 = nI j := by rw [pv, ab_v_1, if_pos ⟨rfl, rfl, rfl⟩]
  have g1 : f_X9_addPending s (nI r) (-1) = some s1 := by rw [addPending_w s hr, k3, em, c1]
  have c0 : nI j ≤ 0 ↔ j = 0 := nI_le0 (by omega)
  unfold ab_G
  rw [if_neg (show ¬ c < 448 by omega), hc, p3]
  by_cases u : j = 0
  · rw [if_pos (c0.mpr u)]
    obtain ⟨s2, e1, e2, e3⟩ := ab_R_en (t := t) hr (by rw [ab_pm_1 _ _ _ _ _ (by omega)]; exact hcr) (by rw [ab_pm_1 _ _ _ _ _ (by omega)]; exact ht) ht' (by rw [p3]; exact c0.mpr u) R1
    exact ⟨s1, s2, g1, e1, F1.trans e2, e3⟩
  · rw [if_neg (fun h => u (c0.mp h))]
    refine ⟨s1, s1, g1, ?_, F1, R1⟩
    have r3 : vn s1 5 r 3 = nI j := by rw [n1, if_pos ⟨rfl, rfl, rfl⟩]
    unfold f_X9_checkRequest
    simp only [ofRequest_3 s1 hr, r3, if_neg (fun h => u (c0.mp h))]
/-- a disk is released, the reference's side -/
theorem ab_R_rl {D d : Nat} {A : ab_S} {s : mo_S} {W : Nat → Nat} {F : List Nat} (hd : d < 7) (H : ab_R D A s W F) : ∃ s1 s2, f_X9_setDisk s (nI d) 0 (-1) = some s1 ∧ f_X9_setDisk s1 (nI d) 1 (-1) = some s2 ∧ rf_F s s2 ∧ ab_R D (ab_rl A d) s2 W F ∧ (∀ g i w, g ≠ 1 → vn s2 g i w = vn s g i w) := by
  obtain ⟨s1, c1, F1, n1, t1, q1⟩ := rf_us s (-1) (eb_1 (w := 0) hd (by decide))
  obtain ⟨s2, c2, F2, n2, t2, q2⟩ := rf_us s1 (-1) (eb_1 (w := 1) hd (by decide))
  have m : ∀ g i w, ¬ (g = 1 ∧ i = d ∧ (w = 0 ∨ w = 1)) → vn s2 g i w = vn s g i w := fun g i w h => by
    rw [n2, if_neg (by omega), n1, if_neg (by omega)]
  have v : ∀ g i w, ¬ (g = 1 ∧ i = d ∧ w = 1) → (ab_rl A d).1 g i w = A.1 g i w := fun g i w h => by rw [ab_rl_1, if_neg h]
  have lv : ∀ y, ab_live (ab_rl A d) y → ab_live A y := by
    rintro y (h | ⟨d', hd', h⟩)
    · exact .inl h
    · rw [ab_rl_4] at h
      by_cases z : d' = d
      · rw [if_pos z] at h
        cases h
      · rw [if_neg z] at h
        exact .inr ⟨d', hd', h⟩
  have K := H
  obtain ⟨R1, R2, R3, R4, R5, R6, R7, R8, R9, R10, R11, R12, R13, R14⟩ := H
  refine ⟨s1, s2, by rw [setDisk_0 s hd, c1], by rw [setDisk_1 s1 hd, c2], F1.trans F2, ab_R_fr K rfl rfl (m _ _ _ (by omega)) (fun i w => m _ _ _ (by omega)) (fun i w => m _ _ _ (by omega)) (fun a b => by rw [t2, t1]) (fun a b => by rw [q2, q1]) ?_ ?_ ?_ ?_ ?_ ?_ ?_ (fun c c' h h' => R11 c c' (lv c h) (lv c' h')) (fun c h => R14 c (lv c h)), fun g i w h => m g i w (by omega)⟩
  · intro w h
    rw [m _ _ _ (by omega), v _ _ _ (by omega)]
    rcases h with h | rfl | rfl
    · exact R1 w h
    · exact R2
    · exact R3
  · intro d' hd'
    have K := R5 d' hd'
    by_cases z : d' = d
    · subst z
      have e1 : (ab_rl A d').1 1 d' 1 = -1 := by rw [ab_rl_1, if_pos ⟨rfl, rfl, rfl⟩]
      rw [ab_rl_4, if_pos rfl, e1, v 1 d' 7 (by omega), v 1 d' 2 (by omega), v 1 d' 3 (by omega), m 1 d' 2 (by omega), m 1 d' 3 (by omega), n2, if_neg (by omega), n1, if_pos ⟨rfl, rfl, rfl⟩, n2, if_pos ⟨rfl, rfl, rfl⟩]
      exact ⟨fun _ => ⟨rfl, rfl, K.2⟩, K.2⟩
    · rw [ab_rl_4, if_neg z, m _ _ _ (by omega), m _ _ _ (by omega), m _ _ _ (by omega), m _ _ _ (by omega), v _ _ _ (by omega), v _ _ _ (by omega), v _ _ _ (by omega), v _ _ _ (by omega)]
      exact K
  · intro d' k h1 h2
    rw [m _ _ _ (by omega), v _ _ _ (by omega)]
    exact R6 d' k h1 h2
  · intro k h1
    rw [m _ _ _ (by omega), v _ _ _ (by omega)]
    exact R7 k h1
  · intro r w h1 h2 h3
    rw [v _ _ _ (by omega)] at h2
    rw [m _ _ _ (by omega), v _ _ _ (by omega)]
    exact R8 r w h1 h2 h3
  · intro t w h1 h2
    rw [m _ _ _ (by omega), v _ _ _ (by omega)]
    exact R9 t w h1 h2
  · intro c h
    have := R10 c (lv c h)
    obtain ⟨g1, g2, g3⟩ := ab_tks (D := D) (A := A) (A' := ab_rl A d) c (fun r w => v _ _ _ (by omega))
    unfold ab_Ro at this ⊢
    rw [m _ _ _ (by omega), m _ _ _ (by omega), m _ _ _ (by omega), m _ _ _ (by omega), g1, g2, g3]
    exact this
