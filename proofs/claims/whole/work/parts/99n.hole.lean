/-! A disk fails, in both programs. -/
theorem ab_C_hole {S d : Nat} {A : ab_S} {s : cs_S} {x : Int32} (H : ab_C S A s) : ab_C S (ab_v A 1 d 7 x) s := by
  obtain ⟨H1, H2, H3, H4, H5, H6, H7⟩ := H
  have v1 : ∀ g i w', ¬ (g = 1 ∧ w' = 7) → (ab_v A 1 d 7 x).1 g i w' = A.1 g i w' := fun g i w' h => by rw [ab_v_1, if_neg (by omega)]
  have cn := ab_cnts (A := A) (A' := ab_v A 1 d 7 x) (fun i w' => v1 3 i w' (by omega)) (fun i w' => v1 4 i w' (by omega)) S
  refine ⟨?_, by rw [cn.1, cn.2.1, cn.2.2]; exact H2, fun q hq => ab_Cq_fr (A := A) (s := s) rfl (fun w => rfl) (fun P k h => rfl) rfl (H3 q hq), fun d' hd => ?_, fun t ht => ab_Ct_fr (A := A) (s := s) (fun w => v1 6 t w (by omega)) (fun P k h => rfl) (H5 t ht), fun r hr hr' => ab_Cr_fr (A := A) (s := s) (fun w => v1 5 r w (by omega)) (fun P h1 h2 => rfl) (H6 r hr (by rw [v1 0 0 2 (by omega)] at hr'; exact hr')), fun k hk => ab_Ch_fr (A := A) (s := s) (v1 4 k 0 (by omega)) (fun d' => v1 3 d' k (by omega)) (fun P h => rfl) (H7 k hk)⟩
  · exact H1
  · have K := H4 d' hd
    unfold ab_Cd at K ⊢
    rw [v1 1 d' 1 (by omega), v1 1 d' 2 (by omega), v1 1 d' 3 (by omega)]
    exact K
theorem ab_R_hole {D d : Nat} {A : ab_S} {s : mo_S} {W : Nat → Nat} {F : List Nat} (H : ab_R D A s W F) : ab_R D (ab_v (ab_rl A d) 1 d 7 1) s W F := by
  have K := H
  obtain ⟨R1, R2, R3, R4, R5, R6, R7, R8, R9, R10, R11, R12, R13, R14⟩ := H
  have v : ∀ g i w, ¬ (g = 1 ∧ i = d ∧ (w = 1 ∨ w = 7)) → (ab_v (ab_rl A d) 1 d 7 1).1 g i w = A.1 g i w := fun g i w h => by rw [ab_v_1, if_neg (by omega), ab_rl_1, if_neg (by omega)]
  have lv : ∀ y, ab_live (ab_v (ab_rl A d) 1 d 7 1) y → ab_live A y := by
    rintro y (h | ⟨d', hd', h⟩)
    · exact .inl h
    · have h' : (ab_rl A d).2.2.2 d' = some y := h
      rw [ab_rl_4] at h'
      by_cases z : d' = d
      · rw [if_pos z] at h'
        cases h'
      · rw [if_neg z] at h'
        exact .inr ⟨d', hd', h'⟩
  refine ab_R_fr K rfl rfl rfl (fun _ _ => rfl) (fun _ _ => rfl) (fun _ _ => rfl) (fun _ _ => rfl) ?_ ?_ ?_ ?_ ?_ ?_ ?_ (fun c c' h h' => R11 c c' (lv c h) (lv c' h')) (fun c h => R14 c (lv c h))
  · intro w h
    rw [v _ _ _ (by omega)]
    rcases h with h | rfl | rfl
    · exact R1 w h
    · exact R2
    · exact R3
  · intro d' hd'
    have K := R5 d' hd'
    by_cases z : d' = d
    · subst z
      have e7 : (ab_v (ab_rl A d') 1 d' 7 1).1 1 d' 7 = 1 := by rw [ab_v_1, if_pos ⟨rfl, rfl, rfl⟩]
      rw [e7, v 1 d' 2 (by omega), v 1 d' 3 (by omega)]
      exact ⟨fun h => absurd h (by decide), K.2⟩
    · have e4 : (ab_v (ab_rl A d) 1 d 7 1).2.2.2 d' = A.2.2.2 d' := by
        show (ab_rl A d).2.2.2 d' = _
        rw [ab_rl_4, if_neg z]
      rw [e4, v _ _ _ (by omega), v _ _ _ (by omega), v _ _ _ (by omega), v _ _ _ (by omega)]
      exact K
  · intro d' k h1 h2
    rw [v _ _ _ (by omega)]
    exact R6 d' k h1 h2
  · intro k h1
    rw [v _ _ _ (by omega)]
    exact R7 k h1
  · intro r w h1 h2 h3
    rw [v _ _ _ (by omega)] at h2 ⊢
    exact R8 r w h1 h2 h3
  · intro t w h1 h2
    rw [v _ _ _ (by omega)]
    exact R9 t w h1 h2
  · intro c h
    have := R10 c (lv c h)
    obtain ⟨g1, g2, g3⟩ := ab_tks (D := D) (A := A) (A' := ab_v (ab_rl A d) 1 d 7 1) c (fun r w => v _ _ _ (by omega))
    unfold ab_Ro at this ⊢
    rw [g1, g2, g3]
    exact this
/-- the disk's words are set at last -/
theorem ab_R_unhole {D d : Nat} {A : ab_S} {s : mo_S} {W : Nat → Nat} {F : List Nat} (hd : d < 7) (hn : A.2.2.2 d = none) (h1 : A.1 1 d 1 = -1) (H : ab_R D A s W F) : ∃ s1 s2, f_X9_setDisk s (nI d) 0 (-1) = some s1 ∧ f_X9_setDisk s1 (nI d) 1 (-1) = some s2 ∧ rf_F s s2 ∧ ab_R D (ab_v A 1 d 7 0) s2 W F := by
  obtain ⟨s1, c1, F1, n1, t1, q1⟩ := rf_us s (-1) (eb_1 (w := 0) hd (by decide))
  obtain ⟨s2, c2, F2, n2, t2, q2⟩ := rf_us s1 (-1) (eb_1 (w := 1) hd (by decide))
  have m : ∀ g i w, ¬ (g = 1 ∧ i = d ∧ (w = 0 ∨ w = 1)) → vn s2 g i w = vn s g i w := fun g i w h => by
    rw [n2, if_neg (by omega), n1, if_neg (by omega)]
  have v : ∀ g i w, ¬ (g = 1 ∧ i = d ∧ w = 7) → (ab_v A 1 d 7 0).1 g i w = A.1 g i w := fun g i w h => by rw [ab_v_1, if_neg h]
  have K := H
  obtain ⟨R1, R2, R3, R4, R5, R6, R7, R8, R9, R10, R11, R12, R13, R14⟩ := H
  refine ⟨s1, s2, by rw [setDisk_0 s hd, c1], by rw [setDisk_1 s1 hd, c2], F1.trans F2, ab_R_fr K rfl rfl (m _ _ _ (by omega)) (fun i w => m _ _ _ (by omega)) (fun i w => m _ _ _ (by omega)) (fun a b => by rw [t2, t1]) (fun a b => by rw [q2, q1]) ?_ ?_ ?_ ?_ ?_ ?_ ?_ R11 R14⟩
  · intro w h
    rw [m _ _ _ (by omega), v _ _ _ (by omega)]
    rcases h with h | rfl | rfl
    · exact R1 w h
    · exact R2
    · exact R3
  · intro d' hd'
    have K := R5 d' hd'
    by_cases z : d' = d
    · subst z
      have e4 : (ab_v A 1 d' 7 0).2.2.2 d' = none := hn
      have a0 : vn s2 1 d' 0 = -1 := by rw [n2, if_neg (by omega), n1, if_pos ⟨rfl, rfl, rfl⟩]
      have a1 : vn s2 1 d' 1 = -1 := by rw [n2, if_pos ⟨rfl, rfl, rfl⟩]
      rw [e4, a0, a1, v 1 d' 1 (by omega), h1, v 1 d' 2 (by omega), v 1 d' 3 (by omega), m 1 d' 2 (by omega), m 1 d' 3 (by omega)]
      exact ⟨fun _ => ⟨rfl, rfl, K.2⟩, K.2⟩
    · rw [m _ _ _ (by omega), m _ _ _ (by omega), m _ _ _ (by omega), m _ _ _ (by omega), v _ _ _ (by omega), v _ _ _ (by omega), v _ _ _ (by omega), v _ _ _ (by omega)]
      exact K
  · intro d' k h1 h2
    rw [m _ _ _ (by omega), v _ _ _ (by omega)]
    exact R6 d' k h1 h2
  · intro k h1
    rw [m _ _ _ (by omega), v _ _ _ (by omega)]
    exact R7 k h1
  · intro r w h1 h2 h3
    rw [v _ _ _ (by omega)] at h2
    rw [m _ _ _ (by omega), v _ _ _ (by omega)]
    exact R8 r w h1 h2 h3
  · intro t w h1 h2
    rw [m _ _ _ (by omega), v _ _ _ (by omega)]
    exact R9 t w h1 h2
  · intro c h
    have := R10 c h
    obtain ⟨g1, g2, g3⟩ := ab_tks (D := D) (A := A) (A' := ab_v A 1 d 7 0) c (fun r w => v _ _ _ (by omega))
    unfold ab_Ro at this ⊢
    rw [m _ _ _ (by omega), m _ _ _ (by omega), m _ _ _ (by omega), m _ _ _ (by omega), g1, g2, g3]
    exact this
theorem ab_B_hole {D S T m n N d : Nat} {A : ab_S} {L : Nat → Bool} {x : Int32} (H : ab_B D S T m n N A L) : ab_B D S T m n N (ab_v A 1 d 7 x) L :=
  ab_B_v (A := A) rfl (by rw [ab_v_1, if_neg (by omega)]) (by rw [ab_v_1, if_neg (by omega)]) (fun r w _ => by rw [ab_v_1, if_neg (by omega)]) (fun d w h => by rw [ab_v_1, if_neg (by omega)]) H
theorem ab_V1_hole {D S m f h d : Nat} {A : ab_S} {L : Nat → Bool} {x : Int32} (h' : Nat) (hx : ∀ e, e < 7 → e ≠ h' → e = d → x = 0) (hh : h = 7 ∨ h = d) (hh' : h' = 7 ∨ h' = d) (V : ab_V1 D S m f h A L) : ab_V1 D S m f h' (ab_v A 1 d 7 x) L := by
  obtain ⟨VK, Vr, Vs, Vh, Vd, Vc⟩ := V
  have v : ∀ g i w, ¬ (g = 1 ∧ i = d ∧ w = 7) → (ab_v A 1 d 7 x).1 g i w = A.1 g i w := fun g i w h => by rw [ab_v_1, if_neg h]
  refine ⟨⟨by rw [v _ _ _ (by omega)]; exact VK.1, VK.2.1, fun d' k h1 h2 h3 => VK.2.2.1 d' k h1 h2 (by rw [← v _ _ _ (by omega)]; exact h3), fun k hk => ab_Ks_tr (v _ _ _ (by omega)) (fun d => v _ _ _ (by omega)) (fun _ _ => rfl) (VK.2.2.2 k hk)⟩, Vr, ?_, fun e he hne => ?_, fun r hr h6 => Vd r hr (by rw [← v _ _ _ (by omega)]; exact h6), Vc⟩
  · rw [(ab_cnts (A := A) (A' := ab_v A 1 d 7 x) (fun i w => v _ _ _ (by omega)) (fun i w => v _ _ _ (by omega)) S).1]
    exact Vs
  · by_cases z : e = d
    · rw [z, ab_v_1, if_pos ⟨rfl, rfl, rfl⟩]
      exact hx e he hne z
    · rw [v _ _ _ (by omega)]
      exact Vh e he (by omega)
