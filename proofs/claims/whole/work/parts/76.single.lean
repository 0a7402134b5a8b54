/-! Single numbers changed, on both sides. -/
def ab_w5 (w : Nat) : Nat := match w with | 0 => 20 | 1 => 24 | 2 => 23 | 3 => 26 | 4 => 25 | 5 => 21 | _ => 22
theorem ab_C_5 {S : Nat} {A : ab_S} {s : cs_S} {r w : Nat} {x : Int32} (hr : r < 400) (hw : w < 7) (H : ab_C S A s) : ab_C S (ab_v A 5 r w x) (cs_a s (ab_w5 w) (nI r) x) := by
  obtain ⟨H1, H2, H3, H4, H5, H6, H7⟩ := H
  have v1 : ∀ g i w', g ≠ 5 → (ab_v A 5 r w x).1 g i w' = A.1 g i w' := fun g i w' h => by
    rw [ab_v_1, if_neg (by omega)]
  have w5 : 20 ≤ ab_w5 w ∧ ab_w5 w ≤ 26 := by
    unfold ab_w5
    split <;> omega
  have oth : ∀ P k, P < 20 ∨ 26 < P → (cs_a s (ab_w5 w) (nI r) x).2.1 P k = s.2.1 P k := fun P k h => by
    rw [ca_2 (by omega), if_neg (by omega)]
  have cn := ab_cnts (A := A) (A' := ab_v A 5 r w x) (fun i w' => v1 3 i w' (by omega)) (fun i w' => v1 4 i w' (by omega)) S
  refine ⟨H1, ?_, fun q hq => ab_Cq_fr (A := A) (s := s) rfl (fun w => rfl) (fun P k h => oth P k (by omega)) rfl (H3 q hq), fun d hd => ab_Cd_fr (A := A) (s := s) rfl (fun w => v1 1 d w (by omega)) (fun P h => oth P d (by omega)) (H4 d hd), fun t ht => ab_Ct_fr (A := A) (s := s) (fun w => v1 6 t w (by omega)) (fun P k h => oth P k (by omega)) (H5 t ht), ?_, fun k hk => ab_Ch_fr (A := A) (s := s) (v1 4 k 0 (by omega)) (fun d' => v1 3 d' k (by omega)) (fun P h => oth P k (by omega)) (H7 k hk)⟩
  · rw [cn.1, cn.2.1, cn.2.2]
    exact H2
  · intro r' hr' hc
    rw [v1 0 0 2 (by omega)] at hc
    have K := H6 r' hr' hc
    by_cases z : r' = r
    · subst z
      obtain ⟨k0, k1, k2, k3, k4, k5, k6⟩ := K
      have c2 : ∀ P, (cs_a s (ab_w5 w) (nI r') x).2.1 P r' = if P = ab_w5 w then x else s.2.1 P r' := fun P => by
        rw [ca_2 (by omega)]
        by_cases u : P = ab_w5 w
        · rw [if_pos ⟨u, rfl⟩, if_pos u]
        · rw [if_neg (fun k => u k.1), if_neg u]
      have a2 : ∀ w', (ab_v A 5 r' w x).1 5 r' w' = if w' = w then x else A.1 5 r' w' := fun w' => by
        rw [ab_v_1]
        by_cases u : w' = w
        · rw [if_pos ⟨rfl, rfl, u⟩, if_pos u]
        · rw [if_neg (fun k => u k.2.2), if_neg u]
      unfold ab_Cr
      simp only [c2, a2]
      rcases (show w = 0 ∨ w = 1 ∨ w = 2 ∨ w = 3 ∨ w = 4 ∨ w = 5 ∨ w = 6 by omega) with rfl | rfl | rfl | rfl | rfl | rfl | rfl <;> simp only [ab_w5] <;> simp [k0, k1, k2, k3, k4, k5, k6]
    · refine ab_Cr_fr (A := A) (s := s) (fun w' => ?_) (fun P h1 h2 => ?_) K
      · rw [ab_v_1, if_neg (by omega)]
      · rw [ca_2 (by omega), if_neg (by omega)]
theorem ab_C_6 {S : Nat} {A : ab_S} {s : cs_S} {t w : Nat} {x : Int32} (ht : t < 6) (hw : w < 4) (H : ab_C S A s) : ab_C S (ab_v A 6 t w x) (cs_a s (27 + w) (nI t) x) := by
  obtain ⟨H1, H2, H3, H4, H5, H6, H7⟩ := H
  have v1 : ∀ g i w', g ≠ 6 → (ab_v A 6 t w x).1 g i w' = A.1 g i w' := fun g i w' h => by
    rw [ab_v_1, if_neg (by omega)]
  have oth : ∀ P k, P < 27 ∨ 30 < P → (cs_a s (27 + w) (nI t) x).2.1 P k = s.2.1 P k := fun P k h => by
    rw [ca_2 (by omega), if_neg (by omega)]
  have cn := ab_cnts (A := A) (A' := ab_v A 6 t w x) (fun i w' => v1 3 i w' (by omega)) (fun i w' => v1 4 i w' (by omega)) S
  refine ⟨H1, ?_, fun q hq => ab_Cq_fr (A := A) (s := s) rfl (fun w => rfl) (fun P k h => oth P k (by omega)) rfl (H3 q hq), fun d hd => ab_Cd_fr (A := A) (s := s) rfl (fun w => v1 1 d w (by omega)) (fun P h => oth P d (by omega)) (H4 d hd), ?_, fun r hr hr' => ab_Cr_fr (A := A) (s := s) (fun w => v1 5 r w (by omega)) (fun P h1 h2 => oth P r (by omega)) (H6 r hr (by rw [v1 0 0 2 (by omega)] at hr'; exact hr')), fun k hk => ab_Ch_fr (A := A) (s := s) (v1 4 k 0 (by omega)) (fun d' => v1 3 d' k (by omega)) (fun P h => oth P k (by omega)) (H7 k hk)⟩
  · rw [cn.1, cn.2.1, cn.2.2]
    exact H2
  · intro t' ht'
    obtain ⟨h1, h2, h3, h4, h5, h6, h7⟩ := H5 t' ht'
    have c2 : ∀ w', w' < 4 → s.2.1 (27 + w') t' = A.1 6 t' w' → (cs_a s (27 + w) (nI t) x).2.1 (27 + w') t' = (ab_v A 6 t w x).1 6 t' w' := fun w' hw' h => by
      rw [ca_2 (by omega), ab_v_1]
      by_cases u : w' = w ∧ t' = t
      · rw [if_pos ⟨by omega, u.2⟩, if_pos ⟨rfl, u.2, u.1⟩]
      · rw [if_neg (by omega), if_neg (by omega), h]
    have g : ∀ w', 4 ≤ w' → (ab_v A 6 t w x).1 6 t' w' = A.1 6 t' w' := fun w' h => by
      rw [ab_v_1, if_neg (by omega)]
    unfold ab_Ct
    rw [oth 18 _ (by omega), oth 18 _ (by omega), oth 18 _ (by omega), g 4 (by omega), g 5 (by omega), g 6 (by omega)]
    exact ⟨c2 0 (by omega) h1, c2 1 (by omega) h2, c2 2 (by omega) h3, c2 3 (by omega) h4, h5, h6, h7⟩
theorem ci_1 (s : cs_S) (p k : Nat) (v : Int32) (p' k' : Nat) : (cs_i s p k v).1 p' k' = if p' = p ∧ k' = k then v else s.1 p' k' := cs_i_1 s p p' k k' v
def ab_w0 (w : Nat) : Nat × Nat := match w with | 0 => (0, 4) | 1 => (31, 0) | 3 => (0, 2) | 4 => (0, 3) | 5 => (31, 7) | 6 => (31, 8) | 7 => (31, 6) | 9 => (31, 10) | _ => (31, 9)
theorem ab_C_0 {S : Nat} {A : ab_S} {s : cs_S} {w : Nat} {x : Int32} (hw : w = 0 ∨ w = 1 ∨ w = 4 ∨ w = 5 ∨ w = 6 ∨ w = 7 ∨ w = 9 ∨ w = 10) (H : ab_C S A s) : ab_C S (ab_v A 0 0 w x) (cs_i s (ab_w0 w).1 (ab_w0 w).2 x) := by
  obtain ⟨H1, H2, H3, H4, H5, H6, H7⟩ := H
  have v1 : ∀ g i w', g ≠ 0 → (ab_v A 0 0 w x).1 g i w' = A.1 g i w' := fun g i w' h => by
    rw [ab_v_1, if_neg (by omega)]
  have v2 : (ab_v A 0 0 w x).1 0 0 2 = A.1 0 0 2 := by
    rw [ab_v_1, if_neg (by omega)]
  have cn := ab_cnts (A := A) (A' := ab_v A 0 0 w x) (fun i w' => v1 3 i w' (by omega)) (fun i w' => v1 4 i w' (by omega)) S
  refine ⟨?_, ?_, fun q hq => ab_Cq_fr (A := A) (s := s) rfl (fun w => rfl) (fun P k h => rfl) rfl (H3 q hq), fun d hd => ab_Cd_fr (A := A) (s := s) rfl (fun w => v1 1 d w (by omega)) (fun P h => rfl) (H4 d hd), fun t ht => ab_Ct_fr (A := A) (s := s) (fun w => v1 6 t w (by omega)) (fun P k h => rfl) (H5 t ht), fun r hr hr' => ab_Cr_fr (A := A) (s := s) (fun w => v1 5 r w (by omega)) (fun P h1 h2 => rfl) (H6 r hr (by rw [v2] at hr'; exact hr')), fun k hk => ab_Ch_fr (A := A) (s := s) (v1 4 k 0 (by omega)) (fun d' => v1 3 d' k (by omega)) (fun P h => rfl) (H7 k hk)⟩
  · obtain ⟨k0, k1, k2, k3, k4, k5, k6, k7, k9, k10⟩ := H1
    rcases hw with rfl | rfl | rfl | rfl | rfl | rfl | rfl | rfl <;> simp only [ab_w0, ci_1, ab_v_1] <;> simp [k0, k1, k2, k3, k4, k5, k6, k7, k9, k10]
  · rw [cn.1, cn.2.1, cn.2.2]
    have e : ∀ k, k = 3 ∨ k = 4 ∨ k = 5 → (cs_i s (ab_w0 w).1 (ab_w0 w).2 x).1 31 k = s.1 31 k := fun k hk => by
      rw [ci_1]
      rcases hw with rfl | rfl | rfl | rfl | rfl | rfl | rfl | rfl <;> simp only [ab_w0] <;> exact if_neg (by omega)
    rw [e 3 (by omega), e 4 (by omega), e 5 (by omega)]
    exact H2
/-- the reference's side -/
theorem ab_R_5 {D : Nat} {A : ab_S} {s s' : mo_S} {W : Nat → Nat} {F : List Nat} {r w : Nat} {x : Int32} (hw : w = 3 ∨ w = 4) (hn : ∀ g' i' w', vn s' g' i' w' = if g' = 5 ∧ i' = r ∧ w' = w then x else vn s g' i' w') (ht : ∀ o w, vt s' o w = vt s o w) (hq : ∀ o w, vq s' o w = vq s o w) (H : ab_R D A s W F) : ab_R D (ab_v A 5 r w x) s' W F := by
  have K := H
  obtain ⟨R1, R2, R3, R4, R5, R6, R7, R8, R9, R10, R11, R12, R13, R14⟩ := H
  have m1 : ∀ g i w', g ≠ 5 → vn s' g i w' = vn s g i w' := fun g i w' h => by rw [hn, if_neg (by omega)]
  have v1 : ∀ g i w', g ≠ 5 → (ab_v A 5 r w x).1 g i w' = A.1 g i w' := fun g i w' h => by rw [ab_v_1, if_neg (by omega)]
  refine ab_R_v K rfl (m1 _ _ _ (by omega)) (fun i w => m1 _ _ _ (by omega)) (fun i w => m1 _ _ _ (by omega)) ht hq ?_ (fun i w => m1 _ _ _ (by omega)) (fun i w => v1 _ _ _ (by omega)) ?_ ?_ ?_ ?_ ?_
  · intro w' h
    rw [m1 _ _ _ (by omega), v1 _ _ _ (by omega)]
    rcases h with h | rfl | rfl
    · exact R1 w' h
    · exact R2
    · exact R3
  · intro d k h1 h2
    rw [m1 _ _ _ (by omega), v1 _ _ _ (by omega)]
    exact R6 d k h1 h2
  · intro k h1
    rw [m1 _ _ _ (by omega), v1 _ _ _ (by omega)]
    exact R7 k h1
  · intro r' w' h1 h2 h3
    rw [v1 _ _ _ (by omega)] at h2
    rw [hn, ab_v_1, R8 r' w' h1 h2 h3]
  · intro t w' h1 h2
    rw [m1 _ _ _ (by omega), v1 _ _ _ (by omega)]
    exact R9 t w' h1 h2
  · intro c _
    have e : ∀ i w', w' ≠ 3 → w' ≠ 4 → (ab_v A 5 r w x).1 5 i w' = A.1 5 i w' := fun i w' h1 h2 => by rw [ab_v_1, if_neg (by omega)]
    unfold ab_ten ab_kind ab_stripe
    rw [e _ _ (by omega) (by omega), e _ _ (by omega) (by omega), e _ _ (by omega) (by omega)]
    exact ⟨rfl, rfl, rfl⟩
theorem ab_R_6 {D : Nat} {A : ab_S} {s s' : mo_S} {W : Nat → Nat} {F : List Nat} {r w : Nat} {x : Int32} (hn : ∀ g' i' w', vn s' g' i' w' = if g' = 6 ∧ i' = r ∧ w' = w then x else vn s g' i' w') (ht : ∀ o w, vt s' o w = vt s o w) (hq : ∀ o w, vq s' o w = vq s o w) (H : ab_R D A s W F) : ab_R D (ab_v A 6 r w x) s' W F := by
  have K := H
  obtain ⟨R1, R2, R3, R4, R5, R6, R7, R8, R9, R10, R11, R12, R13, R14⟩ := H
  have m1 : ∀ g i w', g ≠ 6 → vn s' g i w' = vn s g i w' := fun g i w' h => by rw [hn, if_neg (by omega)]
  have v1 : ∀ g i w', g ≠ 6 → (ab_v A 6 r w x).1 g i w' = A.1 g i w' := fun g i w' h => by rw [ab_v_1, if_neg (by omega)]
  refine ab_R_v K rfl (m1 _ _ _ (by omega)) (fun i w => m1 _ _ _ (by omega)) (fun i w => m1 _ _ _ (by omega)) ht hq ?_ (fun i w => m1 _ _ _ (by omega)) (fun i w => v1 _ _ _ (by omega)) ?_ ?_ ?_ ?_ (fun c _ => ab_tks c (fun r w => v1 _ _ _ (by omega)))
  · intro w' h
    rw [m1 _ _ _ (by omega), v1 _ _ _ (by omega)]
    rcases h with h | rfl | rfl
    · exact R1 w' h
    · exact R2
    · exact R3
  · intro d k h1 h2
    rw [m1 _ _ _ (by omega), v1 _ _ _ (by omega)]
    exact R6 d k h1 h2
  · intro k h1
    rw [m1 _ _ _ (by omega), v1 _ _ _ (by omega)]
    exact R7 k h1
  · intro r' w' h1 h2 h3
    rw [v1 _ _ _ (by omega)] at h2
    rw [m1 _ _ _ (by omega), v1 _ _ _ (by omega)]
    exact R8 r' w' h1 h2 h3
  · intro t w' h1 h2
    rw [hn, ab_v_1, R9 t w' h1 h2]
theorem ab_R_0 {D : Nat} {A : ab_S} {s s' : mo_S} {W : Nat → Nat} {F : List Nat} {w : Nat} {x : Int32} (hw : w ≠ 2) (hw8 : w ≠ 8) (hn : ∀ g' i' w', vn s' g' i' w' = if g' = 0 ∧ i' = 0 ∧ w' = w then x else vn s g' i' w') (ht : ∀ o w, vt s' o w = vt s o w) (hq : ∀ o w, vq s' o w = vq s o w) (H : ab_R D A s W F) : ab_R D (ab_v A 0 0 w x) s' W F := by
  have K := H
  obtain ⟨R1, R2, R3, R4, R5, R6, R7, R8, R9, R10, R11, R12, R13, R14⟩ := H
  have m1 : ∀ g i w', g ≠ 0 → vn s' g i w' = vn s g i w' := fun g i w' h => by rw [hn, if_neg (by omega)]
  have v1 : ∀ g i w', g ≠ 0 → (ab_v A 0 0 w x).1 g i w' = A.1 g i w' := fun g i w' h => by rw [ab_v_1, if_neg (by omega)]
  refine ab_R_v K rfl (by rw [hn, if_neg (by omega)]) (fun i w => m1 _ _ _ (by omega)) (fun i w => m1 _ _ _ (by omega)) ht hq ?_ (fun i w => m1 _ _ _ (by omega)) (fun i w => v1 _ _ _ (by omega)) ?_ ?_ ?_ ?_ (fun c _ => ab_tks c (fun r w => v1 _ _ _ (by omega)))
  · intro w' h
    have e : vn s 0 0 w' = A.1 0 0 w' := by
      rcases h with h | rfl | rfl
      · exact R1 w' h
      · exact R2
      · exact R3
    rw [hn, ab_v_1, e]
  · intro d k h1 h2
    rw [m1 _ _ _ (by omega), v1 _ _ _ (by omega)]
    exact R6 d k h1 h2
  · intro k h1
    rw [m1 _ _ _ (by omega), v1 _ _ _ (by omega)]
    exact R7 k h1
  · intro r' w' h1 h2 h3
    rw [ab_v_1, if_neg (by omega)] at h2
    rw [m1 _ _ _ (by omega), v1 _ _ _ (by omega)]
    exact R8 r' w' h1 h2 h3
  · intro t w' h1 h2
    rw [m1 _ _ _ (by omega), v1 _ _ _ (by omega)]
    exact R9 t w' h1 h2
