/-! The trace's lines are accepted, in both programs. -/
/-- the trace, in both: cnt lines with the ticks tk -/
def ab_TR (D S T cnt : Nat) (tk : Nat → Nat) (s6 : cs_S) (s : mo_S) : Prop :=
  (cnt ≤ 100 ∧ s6.1 0 0 = nI cnt ∧ s.1 19 = nI cnt ∧ ∀ i j, i ≤ j → j < cnt → tk i ≤ tk j) ∧
  ∀ i, i < cnt → tk i ≤ 99999 ∧ s6.2.1 1 i = nI (tk i) ∧ s.2.2.1 17 (5 * i) = nI (tk i) ∧
    (∃ t, 1 ≤ t ∧ t < T ∧ s6.2.1 2 i = nI t ∧ s.2.2.1 17 (5 * i + 1) = nI t) ∧
    (∃ x : Int32, (x = 0 ∨ x = 1) ∧ s6.2.1 5 i = x ∧ s.2.2.1 17 (5 * i + 2) = x) ∧
    (∃ u, u < S * (D - 1) ∧ s6.2.1 3 i = nI u ∧ s.2.2.1 17 (5 * i + 3) = nI u) ∧
    s6.2.1 4 i = s.2.2.1 17 (5 * i + 4)
theorem ab_TR.fr {D S T cnt : Nat} {tk : Nat → Nat} {s6 : cs_S} {s s' : mo_S} (h : ab_TR D S T cnt tk s6 s) (f : rf_F s s') : ab_TR D S T cnt tk s6 s' := by
  unfold ab_TR at h ⊢
  rw [f.1, f.2.2.1 17 (by decide)]
  exact h
theorem ab_R_11 {D : Nat} {A : ab_S} {s : mo_S} {W : Nat → Nat} {F : List Nat} {x : Int32} (H : ab_R D A s W F) : ab_R D (ab_v A 0 0 11 x) s W F := by
  have v1 : ∀ g i w, ¬ (g = 0 ∧ w = 11) → (ab_v A 0 0 11 x).1 g i w = A.1 g i w := fun g i w h => by rw [ab_v_1, if_neg (by omega)]
  refine ab_R_v H rfl rfl (fun _ _ => rfl) (fun _ _ => rfl) (fun _ _ => rfl) (fun _ _ => rfl) ?_ (fun _ _ => rfl) (fun i w => v1 _ _ _ (by omega)) ?_ ?_ ?_ ?_ (fun c _ => ab_tks c (fun r w => v1 _ _ _ (by omega)))
  · intro w h
    rw [v1 _ _ _ (by omega)]
    rcases h with h | rfl | rfl
    · exact H.1 w h
    · exact H.2.1
    · exact H.2.2.1
  · intro d k h1 h2
    rw [v1 _ _ _ (by omega)]
    exact H.2.2.2.2.2.1 d k h1 h2
  · intro k h1
    rw [v1 _ _ _ (by omega)]
    exact H.2.2.2.2.2.2.1 k h1
  · intro r w h1 h2 h3
    rw [v1 _ _ _ (by omega)] at h2 ⊢
    exact H.2.2.2.2.2.2.2.1 r w h1 h2 h3
  · intro t w h1 h2
    rw [v1 _ _ _ (by omega)]
    exact H.2.2.2.2.2.2.2.2.1 t w h1 h2
theorem ab_B_0 {D S T m n N w : Nat} {A : ab_S} {L : Nat → Bool} {x : Int32} (h0 : w ≠ 0) (h2 : w ≠ 2) (H : ab_B D S T m n N A L) : ab_B D S T m n N (ab_v A 0 0 w x) L :=
  ab_B_v (A := A) rfl (by rw [ab_v_1, if_neg (by omega)]) (by rw [ab_v_1, if_neg (by omega)]) (fun r w _ => by rw [ab_v_1, if_neg (by omega)]) (fun d w _ => by rw [ab_v_1, if_neg (by omega)]) H
theorem ab_V_0 {D S m w : Nat} {f : Option Nat} {A : ab_S} {L : Nat → Bool} {x : Int32} (h1 : w ≠ 1) (V : ab_V D S m f A L) : ab_V D S m f (ab_v A 0 0 w x) L := by
  obtain ⟨VK, Vr, Vs, Vn, Vh, Vo⟩ := V
  have v1 : ∀ g i w', ¬ (g = 0 ∧ w' = w) → (ab_v A 0 0 w x).1 g i w' = A.1 g i w' := fun g i w' h => by rw [ab_v_1, if_neg (by omega)]
  refine ⟨?_, Vr, ?_, ?_, fun d hd => by rw [v1 _ _ _ (by omega)]; exact Vh d hd, Vo⟩
  · cases f with
    | none => exact ⟨by rw [v1 _ _ _ (by omega)]; exact VK.1, fun k hk => by rw [v1 _ _ _ (by omega)]; exact VK.2.1 k hk, fun d k h1 h2 => by rw [v1 _ _ _ (by omega)]; exact VK.2.2.1 d k h1 h2, VK.2.2.2⟩
    | some f => exact ⟨by rw [v1 _ _ _ (by omega)]; exact VK.1, VK.2.1, fun d k h1 h2 h3 => VK.2.2.1 d k h1 h2 (by rw [← v1 _ _ _ (by omega)]; exact h3), fun k hk => ab_Ks_tr (v1 _ _ _ (by omega)) (fun d => v1 _ _ _ (by omega)) (fun d hd => rfl) (VK.2.2.2 k hk)⟩
  · rw [(ab_cnts (A := A) (A' := ab_v A 0 0 w x) (fun i w => v1 _ _ _ (by omega)) (fun i w => v1 _ _ _ (by omega)) S).1]
    exact Vs
  · intro hf r hr h6
    rw [v1 _ _ _ (by omega)] at h6
    exact Vn hf r hr h6
/-- the reference counts its line before, the program behind: the model's line is one ahead -/
theorem ab_ln1 {D S T m n N ln : Nat} {p : Nat → Int32} {A : ab_S} {L : Nat → Bool} {W : Nat → Nat} {F : List Nat} {s4 s5 : cs_S} {s : mo_S} (h3 : A.1 0 0 3 = nI ln) (h11 : A.1 0 0 11 = 0) (H : ab_J D S T m n N p A L W F s4 s5 s) : rf_F s (us s 0 0 3 (nI (ln + 1))) ∧ ab_J D S T m n N p (ab_v (ab_v A 0 0 3 (nI (ln + 1))) 0 0 11 1) L W F s4 s5 (us s 0 0 3 (nI (ln + 1))) := by
  obtain ⟨hP, hp, hs, hC, hR, hB, hF⟩ := H
  obtain ⟨s1, c1, F1, n1, t1, q1⟩ := rf_us s (nI (ln + 1)) (eb_0 (w := 3) (by decide))
  rw [c1]
  refine ⟨F1, hP, hp, by rw [F1.2.2.1 0 (by decide)]; exact hs, ?_, ab_R_11 (ab_R_0 (by decide) (by decide) n1 t1 q1 hR), ab_B_0 (by decide) (by decide) (ab_B_0 (by decide) (by decide) hB), hF⟩
  obtain ⟨H1, H2, H3, H4, H5, H6, H7⟩ := hC
  have v1 : ∀ g i w', ¬ (g = 0 ∧ (w' = 3 ∨ w' = 11)) → (ab_v (ab_v A 0 0 3 (nI (ln + 1))) 0 0 11 1).1 g i w' = A.1 g i w' := fun g i w' h => by rw [ab_v_1, if_neg (by omega), ab_v_1, if_neg (by omega)]
  have w3 : (ab_v (ab_v A 0 0 3 (nI (ln + 1))) 0 0 11 1).1 0 0 3 = nI (ln + 1) := by rw [ab_v_1, if_neg (by omega), ab_v_1, if_pos ⟨rfl, rfl, rfl⟩]
  have w11 : (ab_v (ab_v A 0 0 3 (nI (ln + 1))) 0 0 11 1).1 0 0 11 = 1 := by rw [ab_v_1, if_pos ⟨rfl, rfl, rfl⟩]
  have cn := ab_cnts (A := A) (A' := ab_v (ab_v A 0 0 3 (nI (ln + 1))) 0 0 11 1) (fun i w' => v1 3 i w' (by omega)) (fun i w' => v1 4 i w' (by omega)) S
  refine ⟨?_, by rw [cn.1, cn.2.1, cn.2.2]; exact H2, fun q hq => ab_Cq_fr (A := A) (s := s5) rfl (fun w => rfl) (fun P k h => rfl) rfl (H3 q hq), fun d hd => ab_Cd_fr (A := A) (s := s5) rfl (fun w => v1 1 d w (by omega)) (fun P h => rfl) (H4 d hd), fun t ht => ab_Ct_fr (A := A) (s := s5) (fun w => v1 6 t w (by omega)) (fun P k h => rfl) (H5 t ht), fun r hr hr' => ab_Cr_fr (A := A) (s := s5) (fun w => v1 5 r w (by omega)) (fun P h1 h2 => rfl) (H6 r hr (by rw [v1 0 0 2 (by omega)] at hr'; exact hr')), fun k hk => ab_Ch_fr (A := A) (s := s5) (v1 4 k 0 (by omega)) (fun d' => v1 3 d' k (by omega)) (fun P h => rfl) (H7 k hk)⟩
  rw [w3, w11, nI_pred, v1 0 0 0 (by omega), v1 0 0 1 (by omega), v1 0 0 2 (by omega), v1 0 0 4 (by omega), v1 0 0 5 (by omega), v1 0 0 6 (by omega), v1 0 0 7 (by omega), v1 0 0 9 (by omega), v1 0 0 10 (by omega)]
  rw [h3, h11, Int32.sub_zero] at H1
  exact H1
theorem ab_ln2 {D S T m n N ln : Nat} {p : Nat → Int32} {A : ab_S} {L : Nat → Bool} {W : Nat → Nat} {F : List Nat} {s4 s5 : cs_S} {s : mo_S} (h3 : A.1 0 0 3 = nI (ln + 1)) (h11 : A.1 0 0 11 = 1) (H : ab_J D S T m n N p A L W F s4 s5 s) : s5.1 0 2 = nI ln ∧ ab_J D S T m n N p (ab_v A 0 0 11 0) L W F s4 (cs_i s5 0 2 (nI (ln + 1))) s := by
  obtain ⟨hP, hp, hs, hC, hR, hB, hF⟩ := H
  obtain ⟨H1, H2, H3, H4, H5, H6, H7⟩ := hC
  have k2 : s5.1 0 2 = nI ln := by rw [H1.2.2.2.1, h3, h11, nI_pred]
  refine ⟨k2, hP, hp, hs, ?_, ab_R_11 hR, ab_B_0 (by decide) (by decide) hB, hF⟩
  have v1 : ∀ g i w', ¬ (g = 0 ∧ w' = 11) → (ab_v A 0 0 11 0).1 g i w' = A.1 g i w' := fun g i w' h => by rw [ab_v_1, if_neg (by omega)]
  have w11 : (ab_v A 0 0 11 0).1 0 0 11 = 0 := by rw [ab_v_1, if_pos ⟨rfl, rfl, rfl⟩]
  have cn := ab_cnts (A := A) (A' := ab_v A 0 0 11 0) (fun i w' => v1 3 i w' (by omega)) (fun i w' => v1 4 i w' (by omega)) S
  have i1 : ∀ P j, ¬ (P = 0 ∧ j = 2) → (cs_i s5 0 2 (nI (ln + 1))).1 P j = s5.1 P j := fun P j h => by rw [ci_1, if_neg h]
  refine ⟨?_, by rw [cn.1, cn.2.1, cn.2.2, i1 _ _ (by omega), i1 _ _ (by omega), i1 _ _ (by omega)]; exact H2, fun q hq => ab_Cq_fr (A := A) (s := s5) rfl (fun w => rfl) (fun P k h => rfl) rfl (H3 q hq), fun d hd => ab_Cd_fr (A := A) (s := s5) rfl (fun w => v1 1 d w (by omega)) (fun P h => rfl) (H4 d hd), fun t ht => ab_Ct_fr (A := A) (s := s5) (fun w => v1 6 t w (by omega)) (fun P k h => rfl) (H5 t ht), fun r hr hr' => ab_Cr_fr (A := A) (s := s5) (fun w => v1 5 r w (by omega)) (fun P h1 h2 => rfl) (H6 r hr (by rw [v1 0 0 2 (by omega)] at hr'; exact hr')), fun k hk => ab_Ch_fr (A := A) (s := s5) (v1 4 k 0 (by omega)) (fun d' => v1 3 d' k (by omega)) (fun P h => rfl) (H7 k hk)⟩
  rw [w11, i1 0 4 (by omega), i1 31 0 (by omega), i1 19 0 (by omega), i1 0 3 (by omega), i1 31 7 (by omega), i1 31 8 (by omega), i1 31 6 (by omega), i1 31 10 (by omega), i1 31 9 (by omega), ci_1, if_pos ⟨rfl, rfl⟩, v1 0 0 0 (by omega), v1 0 0 1 (by omega), v1 0 0 2 (by omega), v1 0 0 3 (by omega), v1 0 0 4 (by omega), v1 0 0 5 (by omega), v1 0 0 6 (by omega), v1 0 0 7 (by omega), v1 0 0 9 (by omega), v1 0 0 10 (by omega), h3, Int32.sub_zero]
  exact ⟨H1.1, H1.2.1, H1.2.2.1, rfl, H1.2.2.2.2⟩
