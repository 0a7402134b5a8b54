/-! An operation goes: the disk is released, the reference's place is free again, the base. -/
def ab_rl (A : ab_S) (d : Nat) : ab_S := ab_v (ab_d A d none) 1 d 1 (-1)
def ab_pm (A : ab_S) (c : Nat) : ab_S := if c < 448 then A else ab_v A 5 (c / 7 - 64) 3 (A.1 5 (c / 7 - 64) 3 - 1)
theorem ab_rl_1 (A : ab_S) (d g i w : Nat) : (ab_rl A d).1 g i w = if g = 1 ∧ i = d ∧ w = 1 then -1 else A.1 g i w := rfl
theorem ab_rl_4 (A : ab_S) (d d' : Nat) : (ab_rl A d).2.2.2 d' = if d' = d then none else A.2.2.2 d' := rfl
theorem ab_pm_2 (A : ab_S) (c : Nat) : (ab_pm A c).2 = A.2 := by
  unfold ab_pm
  split <;> rfl
theorem ab_pm_1 (A : ab_S) (c g i w : Nat) (h : g ≠ 5 ∨ w ≠ 3) : (ab_pm A c).1 g i w = A.1 g i w := by
  unfold ab_pm
  split
  · rfl
  · rw [ab_v_1, if_neg (by omega)]
theorem ab_pm_3 (A : ab_S) (c r : Nat) : (ab_pm A c).1 5 r 3 = if 448 ≤ c ∧ r = c / 7 - 64 then A.1 5 r 3 - 1 else A.1 5 r 3 := by
  unfold ab_pm
  by_cases u : c < 448
  · rw [if_pos u, if_neg (by omega)]
  · rw [if_neg u, ab_v_1]
    by_cases v : r = c / 7 - 64
    · rw [if_pos ⟨rfl, v, rfl⟩, if_pos ⟨by omega, v⟩, v]
    · rw [if_neg (by omega), if_neg (by omega)]
/-- the program's disk is released -/
theorem ab_C_rl {S : Nat} {A : ab_S} {s : cs_S} {d : Nat} (hd : d < 7) (H : ab_C S A s) : ∃ s', f_X0_release s (nI d) = some (s.2.1 14 d, s') ∧ ab_C S (ab_rl A d) s' ∧ s'.1 = s.1 := by
  obtain ⟨H1, H2, H3, H4, H5, H6, H7⟩ := H
  refine ⟨cs_a (cs_a s 14 (nI d) (-1)) 15 (nI d) (-1), ?_, ?_, rfl⟩
  · unfold f_X0_release
    simp (disch := omega) only [fc_X0_release_c1, nb_nI, nI_clamp]
  have oth : ∀ P k, (P ≠ 14 ∧ P ≠ 15) ∨ k ≠ d → (cs_a (cs_a s 14 (nI d) (-1)) 15 (nI d) (-1)).2.1 P k = s.2.1 P k := fun P k h => by
    rw [ca_2 (by omega), if_neg (by omega), ca_2 (by omega), if_neg (by omega)]
  have v1 : ∀ g i w, ¬ (g = 1 ∧ i = d) → (ab_rl A d).1 g i w = A.1 g i w := fun g i w h => by
    rw [ab_rl_1, if_neg (by omega)]
  have cn := ab_cnts (A := A) (A' := ab_rl A d) (fun i w' => v1 3 i w' (by omega)) (fun i w' => v1 4 i w' (by omega)) S
  refine ⟨H1, ?_, fun q hq => ab_Cq_fr (A := A) (s := s) rfl (fun w => rfl) (fun P k h => oth P k (by omega)) rfl (H3 q hq), ?_, fun t ht => ab_Ct_fr (A := A) (s := s) (fun w => v1 6 t w (by omega)) (fun P k h => oth P k (by omega)) (H5 t ht), fun r hr hr' => ab_Cr_fr (A := A) (s := s) (fun w => v1 5 r w (by omega)) (fun P h1 h2 => oth P r (by omega)) (H6 r hr (by rw [v1 0 0 2 (by omega)] at hr'; exact hr')), fun k hk => ab_Ch_fr (A := A) (s := s) (v1 4 k 0 (by omega)) (fun d' => v1 3 d' k (by omega)) (fun P h => oth P k (by omega)) (H7 k hk)⟩
  · rw [cn.1, cn.2.1, cn.2.2]
    exact H2
  · intro d' hd'
    by_cases u : d' = d
    · subst u
      have K := H4 d' hd'
      unfold ab_Cd at K ⊢
      rw [ab_rl_4, if_pos rfl, ab_rl_1, if_pos ⟨rfl, rfl, rfl⟩, ab_rl_1, if_neg (by omega), ab_rl_1, if_neg (by omega)]
      refine ⟨?_, ?_, ?_, ?_⟩
      · rw [ca_2 (by omega), if_neg (by omega), ca_2 (by omega), if_pos ⟨rfl, rfl⟩]
      · rw [ca_2 (by omega), if_pos ⟨rfl, rfl⟩]
      · rw [oth _ _ (by omega)]
        exact K.2.2.1
      · rw [oth _ _ (by omega)]
        exact K.2.2.2
    · exact ab_Cd_fr (A := A) (s := s) (by rw [ab_rl_4, if_neg u]) (fun w => v1 1 d' w (by omega)) (fun P h => oth P d' (by omega)) (H4 d' hd')
/-- the reference's place is free again -/
theorem ab_R_rel {D : Nat} {A : ab_S} {s : mo_S} {W : Nat → Nat} {F : List Nat} {c : Nat} (hc : W c < 2200) (hF : ¬ W c ∈ F) (hl : ∀ y, ab_live A y → W y ≠ W c) (H : ab_R D A s W F) : ∃ s', f_X9_release s (nI (W c)) = some s' ∧ rf_F s s' ∧ ab_R D A s' W (W c :: F) ∧ (∀ g i w, ¬ (g = 7 ∧ i = W c ∧ w = 5) → ¬ (g = 0 ∧ w = 8) → vn s' g i w = vn s g i w) := by
  obtain ⟨R1, R2, R3, R4, R5, R6, R7, R8, R9, R10, R11, R12, R13, R14⟩ := H
  obtain ⟨s1, c1, F1, n1, t1, q1⟩ := rf_us s (vn s 0 0 8) (eb_7 (w := 5) hc (by decide))
  obtain ⟨s2, c2, F2, n2, t2, q2⟩ := rf_us s1 (nI (W c)) (eb_0 (w := 8) (by decide))
  have m : ∀ g i w, ¬ (g = 7 ∧ i = W c ∧ w = 5) → ¬ (g = 0 ∧ w = 8) → vn s2 g i w = vn s g i w := fun g i w h h' => by
    rw [n2, if_neg (by omega), n1, if_neg (by omega)]
  refine ⟨s2, by rw [release_w s hc, c1, c2], F1.trans F2, ⟨fun w hw => by rw [m _ _ _ (by omega) (by omega)]; exact R1 w hw, by rw [m _ _ _ (by omega) (by omega)]; exact R2, by rw [m _ _ _ (by omega) (by omega)]; exact R3, ?_, fun d hd => by rw [m _ _ _ (by omega) (by omega), m _ _ _ (by omega) (by omega), m _ _ _ (by omega) (by omega), m _ _ _ (by omega) (by omega)]; exact R5 d hd, fun d k h1 h2 => by rw [m _ _ _ (by omega) (by omega)]; exact R6 d k h1 h2, fun k h1 => by rw [m _ _ _ (by omega) (by omega)]; exact R7 k h1, fun r w h1 h2 h3 => by rw [m _ _ _ (by omega) (by omega)]; exact R8 r w h1 h2 h3, fun t w h1 h2 => by rw [m _ _ _ (by omega) (by omega)]; exact R9 t w h1 h2, ?_, R11, ?_, List.nodup_cons.mpr ⟨hF, R13⟩, ?_⟩, m⟩
  · intro q hq
    have K := R4 q hq
    have ne : ∀ a, a ∈ A.2.1 q → W a.1 ≠ W c := fun a ha => hl a.1 (.inl ⟨q, hq, a, ha, rfl⟩)
    unfold ab_Rq at K ⊢
    refine ⟨by rw [m _ _ _ (by omega) (by omega)]; exact K.1, ?_, ab_ch_eq _ K.2.2.1 (fun a ha => m 7 _ _ (fun h => ne a ha h.2.1) (by omega)), ?_, ?_⟩
    · have k2 := K.2.1
      rw [m _ _ _ (by omega) (by omega), m _ _ _ (by omega) (by omega)]
      cases hQ : A.2.1 q with
      | nil =>
        rw [hQ] at k2
        exact k2
      | cons a l =>
        rw [hQ] at k2
        refine ⟨k2.1, k2.2.1, ?_⟩
        rw [m 7 _ _ (fun h => ne _ (by rw [hQ]; exact List.getLast_mem _) h.2.1) (by omega)]
        exact k2.2.2
    · intro a ha
      rw [m 7 _ _ (fun h => ne a ha h.2.1) (by omega), m 7 _ _ (fun h => ne a ha h.2.1) (by omega), t2, t1, t2, t1, t2, t1]
      exact K.2.2.2.1 a ha
    · intro w hw
      rw [m _ _ _ (by omega) (by omega), q2, q1]
      exact K.2.2.2.2 w hw
  · intro y hy
    have := R10 y hy
    unfold ab_Ro at this ⊢
    rw [m 7 _ _ (fun h => hl y hy h.2.1) (by omega), m 7 _ _ (fun h => hl y hy h.2.1) (by omega), m 7 _ _ (fun h => hl y hy h.2.1) (by omega), m 7 _ _ (fun h => hl y hy h.2.1) (by omega)]
    exact this
  · refine ⟨by rw [n2, if_pos ⟨rfl, rfl, rfl⟩], hc, ?_⟩
    have e : vn s2 7 (W c) 5 = vn s 0 0 8 := by rw [n2, if_neg (by omega), n1, if_pos ⟨rfl, rfl, rfl⟩]
    show ab_fl (fun o => vn s2 7 o 5) (vn s2 7 (W c) 5) F
    rw [e]
    have gen : ∀ (l : List Nat) (x : Int32), ¬ W c ∈ l → ab_fl (fun o => vn s 7 o 5) x l → ab_fl (fun o => vn s2 7 o 5) x l := by
      intro l
      induction l with
      | nil => exact fun x _ h => h
      | cons o l ih =>
        intro x hn h
        refine ⟨h.1, h.2.1, ?_⟩
        show ab_fl _ (vn s2 7 o 5) l
        rw [m 7 _ _ (fun h => hn (by rw [← h.2.1]; exact List.mem_cons_self)) (by omega)]
        exact ih _ (fun k => hn (List.mem_cons_of_mem _ k)) h.2.2
    exact gen F _ hF R12
  · intro y hy hm
    rcases List.mem_cons.mp hm with h | h
    · exact hl y hy h
    · exact R14 y hy h
/-- the base, when an operation has gone -/
theorem ab_B_rm {D S T m n N c : Nat} {A A' : ab_S} {L : Nat → Bool} (hL : L c = true) (h1 : ∀ q x, q < 42 → x ∈ A'.2.1 q → x ∈ A.2.1 q) (h2 : ∀ q, q < 42 → ((A'.2.1 q).map (fun a => a.1)).Nodup) (h3 : ∀ q, q < 42 → (A'.2.1 q).length ≤ (A.2.1 q).length) (h4 : A'.2.2.1 = A.2.2.1) (h5 : ∀ d, d < 7 → (A'.2.2.2 d = A.2.2.2 d ∧ A'.1 1 d 1 = A.1 1 d 1) ∨ (A'.2.2.2 d = none ∧ A'.1 1 d 1 = -1)) (h6 : ∀ y, ab_live A' y ↔ ab_live A y ∧ y ≠ c) (h7 : ∀ g i w, ¬ (g = 5 ∧ w = 3) → ¬ (g = 1 ∧ (w = 1 ∨ w = 7)) → A'.1 g i w = A.1 g i w) (h8 : ∀ r, A'.1 5 r 3 = if 448 ≤ c ∧ r = c / 7 - 64 then A.1 5 r 3 - 1 else A.1 5 r 3) (H : ab_B D S T m n N A L) : ab_B D S T m n N A' (ab_L L c false) := by
  obtain ⟨B1, B2, B3, B4, B5, B6, B7, B8, B9, B10⟩ := H
  obtain ⟨U1, U2, U3, U4, U5, U6, U7⟩ := B1
  have dd : ∀ d y, d < 7 → A'.2.2.2 d = some y → A.2.2.2 d = some y := fun d y hd h => by
    rcases h5 d hd with k | k
    · rw [← k.1]
      exact h
    · rw [k.1] at h
      cases h
  have LL : ∀ y, ab_L L c false y = true → L y = true := fun y hy => by
    unfold ab_L at hy
    split at hy
    · cases hy
    · exact hy
  refine ⟨⟨fun q q' a a' hq hq' ha ha' e => U1 q q' a a' hq hq' (h1 q a hq ha) (h1 q' a' hq' ha') e, h2, fun q a hq ha => U3 q a hq (h1 q a hq ha), fun q hq => Nat.lt_of_le_of_lt (h3 q hq) (U4 q hq), fun d y q a hd hq hy ha => U5 d y q a hd hq (dd d y hd hy) (h1 q a hq ha), fun d d' y hd hd' hy hy' => U6 d d' y hd hd' (dd d y hd hy) (dd d' y hd' hy'), fun d y hd hy => U7 d y hd (dd d y hd hy)⟩, ?_, ?_, fun d y hd hy => B4 d y hd (dd d y hd hy), fun y hy => B5 y (LL y hy), ?_, ?_, ?_, ?_, B10⟩
  · intro y
    rw [h6, ← B2]
    unfold ab_L
    by_cases u : y = c
    · rw [if_pos u]
      exact ⟨(fun k => by cases k), fun k => absurd u k.2⟩
    · rw [if_neg u]
      exact ⟨fun k => ⟨k, u⟩, fun k => k.1⟩
  · intro q a hq ha
    have := B3 q a hq (h1 q a hq ha)
    unfold ab_ten at this ⊢
    rw [h7 _ _ _ (by omega) (by omega)]
    exact this
  · rw [h7 _ _ _ (by omega) (by omega), h7 _ _ _ (by omega) (by omega)]
    exact B6
  · intro r hr
    obtain ⟨g1, g2, g3, g4⟩ := B7 r hr
    rw [h7 _ _ _ (by omega) (by omega), h7 _ _ _ (by omega) (by omega), h7 _ _ _ (by omega) (by omega), h8]
    refine ⟨g1, g2, g3, ?_⟩
    by_cases u : 448 ≤ c ∧ r = c / 7 - 64
    · have e : 64 + r = c / 7 := by omega
      rw [if_pos u, g4, e, ab_row_dn hL, nI_pred]
    · rw [if_neg u, g4, ab_row_L (by omega)]
  · intro d hd
    have K := B8 d hd
    have e2 : A'.1 1 d 2 = A.1 1 d 2 := h7 1 d 2 (by omega) (by omega)
    rw [e2]
    rcases h5 d hd with k | k
    · rw [k.1, k.2]
      exact K
    · rw [k.1, k.2]
      exact ⟨fun _ => rfl, (fun y hy => by cases hy), K.2.2⟩
  · intro q hq
    rw [h4]
    exact ⟨fun a ha => (B9 q hq).1 a (h1 q a hq ha), (B9 q hq).2⟩
