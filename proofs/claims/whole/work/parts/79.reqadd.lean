/-! A request is added, in both programs. -/
def ab_ad (A : ab_S) (r : Nat) (x0 x2 x5 x6 : Int32) : ab_S :=
  (fun g i w => if g = 5 ∧ i = r then (match w with | 0 => x0 | 1 => A.1 0 0 0 | 2 => x2 | 3 => 0 | 4 => -1 | 5 => x5 | 6 => x6 | _ => A.1 g i w) else if g = 0 ∧ i = 0 ∧ w = 2 then nI (r + 1) else A.1 g i w, A.2)
theorem ab_ad_o (A : ab_S) (r : Nat) (x0 x2 x5 x6 : Int32) (g i w : Nat) (h1 : ¬ (g = 5 ∧ i = r)) (h2 : ¬ (g = 0 ∧ i = 0 ∧ w = 2)) : (ab_ad A r x0 x2 x5 x6).1 g i w = A.1 g i w := by
  show (if g = 5 ∧ i = r then _ else if g = 0 ∧ i = 0 ∧ w = 2 then _ else A.1 g i w) = _
  rw [if_neg h1, if_neg h2]
theorem ab_ad_m (A : ab_S) (r : Nat) (x0 x2 x5 x6 : Int32) : (ab_ad A r x0 x2 x5 x6).1 0 0 2 = nI (r + 1) := by
  unfold ab_ad
  simp
theorem ab_ad_5 (A : ab_S) (r : Nat) (x0 x2 x5 x6 : Int32) (w : Nat) : (ab_ad A r x0 x2 x5 x6).1 5 r w = (match w with | 0 => x0 | 1 => A.1 0 0 0 | 2 => x2 | 3 => 0 | 4 => -1 | 5 => x5 | 6 => x6 | _ => A.1 5 r w) := if_pos ⟨rfl, rfl⟩
theorem ab_C_ad {S : Nat} {A : ab_S} {s : cs_S} {r : Nat} {x0 x2 x5 y : Int32} (hr : r < 400) (hm : A.1 0 0 2 = nI r) (H : ab_C S A s) : ∃ s', f_X5_add s x0 x5 y x2 (s.1 0 4) = some (nI r, s') ∧ ab_C S (ab_ad A r x0 x2 x5 (if y = 0 then 0 else 1)) s' := by
  obtain ⟨H1, H2, H3, H4, H5, H6, H7⟩ := H
  have k19 : s.1 19 0 = nI r := by rw [H1.2.2.1, hm]
  have n0 := H1.1
  let s' := cs_a (cs_a (cs_a (cs_a (cs_a (cs_a (cs_a (cs_i s 19 0 (nI (r + 1))) 20 (nI r) x0) 21 (nI r) x5) 22 (nI r) (if y = 0 then 0 else 1)) 23 (nI r) x2) 24 (nI r) (A.1 0 0 0)) 25 (nI r) (-1)) 26 (nI r) 0
  have e1 : f_X5_add s x0 x5 y x2 (s.1 0 4) = some (nI r, s') := by
    unfold f_X5_add
    simp (disch := omega) only [fc_X5_add_c1, fc_X5_add_c2, fc_X5_add_c3, fc_X5_add_c4, fc_X5_add_c5, fc_X5_add_c6, fc_X5_add_c7, nb_nI, k19, n0, nI_1]
    by_cases u : y = 0
    · simp only [if_pos u, s']
    · simp only [if_neg u, s']
  have e2 : ∀ P k, s'.2.1 P k = if P = 26 ∧ k = r then 0 else if P = 25 ∧ k = r then -1 else if P = 24 ∧ k = r then A.1 0 0 0 else if P = 23 ∧ k = r then x2 else if P = 22 ∧ k = r then (if y = 0 then 0 else 1) else if P = 21 ∧ k = r then x5 else if P = 20 ∧ k = r then x0 else s.2.1 P k := by
    intro P k
    simp (disch := omega) only [s', ca_2]
    rfl
  have e3 : ∀ P k, s'.1 P k = if P = 19 ∧ k = 0 then nI (r + 1) else s.1 P k := fun P k => ci_1 s 19 0 _ P k
  have e4 : s'.2.2 = s.2.2 := rfl
  clear_value s'
  have oth : ∀ P k, P < 20 ∨ 26 < P ∨ k ≠ r → s'.2.1 P k = s.2.1 P k := fun P k h => by
    rw [e2, if_neg (by omega), if_neg (by omega), if_neg (by omega), if_neg (by omega), if_neg (by omega), if_neg (by omega), if_neg (by omega)]
  generalize (if y = 0 then (0 : Int32) else 1) = x6 at e2 ⊢
  have v1 : ∀ g i w, g ≠ 5 → g ≠ 0 → (ab_ad A r x0 x2 x5 x6).1 g i w = A.1 g i w := fun g i w h h' => ab_ad_o A r x0 x2 x5 x6 g i w (by omega) (by omega)
  have v0 : ∀ w, w ≠ 2 → (ab_ad A r x0 x2 x5 x6).1 0 0 w = A.1 0 0 w := fun w h' => ab_ad_o A r x0 x2 x5 x6 0 0 w (by omega) (by omega)
  have cn := ab_cnts (A := A) (A' := ab_ad A r x0 x2 x5 x6) (fun i w' => v1 3 i w' (by omega) (by omega)) (fun i w' => v1 4 i w' (by omega) (by omega)) S
  refine ⟨s', e1, ?_, ?_, fun q hq => ab_Cq_fr (A := A) (s := s) rfl (fun w => rfl) (fun P k h => oth P k (by omega)) e4 (H3 q hq), fun d hd => ab_Cd_fr (A := A) (s := s) rfl (fun w => v1 1 d w (by omega) (by omega)) (fun P h => oth P d (by omega)) (H4 d hd), fun t ht => ab_Ct_fr (A := A) (s := s) (fun w => v1 6 t w (by omega) (by omega)) (fun P k h => oth P k (by omega)) (H5 t ht), ?_, fun k hk => ab_Ch_fr (A := A) (s := s) (v1 4 k 0 (by omega) (by omega)) (fun d' => v1 3 d' k (by omega) (by omega)) (fun P h => oth P k (by omega)) (H7 k hk)⟩
  · have i1 : ∀ P k, ¬ (P = 19 ∧ k = 0) → s'.1 P k = s.1 P k := fun P k h => by rw [e3, if_neg h]
    have i2 : s'.1 19 0 = nI (r + 1) := by rw [e3, if_pos ⟨rfl, rfl⟩]
    rw [i1 0 4 (by omega), i1 31 0 (by omega), i2, i1 0 2 (by omega), i1 0 3 (by omega), i1 31 7 (by omega), i1 31 8 (by omega), i1 31 6 (by omega), i1 31 10 (by omega), i1 31 9 (by omega), ab_ad_m, v0 0 (by omega), v0 1 (by omega), v0 3 (by omega), v0 11 (by omega), v0 4 (by omega), v0 5 (by omega), v0 6 (by omega), v0 7 (by omega), v0 9 (by omega), v0 10 (by omega)]
    exact ⟨H1.1, H1.2.1, rfl, H1.2.2.2⟩
  · have i1 : ∀ P k, ¬ (P = 19 ∧ k = 0) → s'.1 P k = s.1 P k := fun P k h => by rw [e3, if_neg h]
    rw [cn.1, cn.2.1, cn.2.2, i1 31 3 (by omega), i1 31 4 (by omega), i1 31 5 (by omega)]
    exact H2
  · intro r' hr' hc
    by_cases z : r' = r
    · subst z
      unfold ab_Cr
      simp only [ab_ad_5]
      refine ⟨?_, ?_, ?_, ?_, ?_, ?_, ?_⟩ <;> rw [e2] <;> simp
    · rw [ab_ad_m] at hc
      have h1 := (nI_ltI (by omega) (by omega)).mp hc
      refine ab_Cr_fr (A := A) (s := s) (fun w => ab_ad_o _ _ _ _ _ _ _ _ _ (by omega) (by omega)) (fun P _ _ => oth P r' (by omega)) (H6 r' hr' ?_)
      rw [hm]
      exact (nI_ltI (by omega) (by omega)).mpr (by omega)
/-- the reference's side -/
theorem ab_R_ad {D : Nat} {A : ab_S} {s : mo_S} {W : Nat → Nat} {F : List Nat} {r : Nat} {x0 x2 x5 x6 : Int32} (hr : r < 400) (hm : A.1 0 0 2 = nI r) (hl : ∀ c, ab_live A c → c < 448 ∨ c / 7 - 64 ≠ r) (H : ab_R D A s W F) : ∃ s1 s2 s3 s4 s5, s.2.2.1 3 2 = nI r ∧ f_X9_setRequest (mo_a s 3 2 (nI r + 1)) (nI r) 0 x0 = some s1 ∧ f_X9_setRequest s1 (nI r) 1 (s1.2.2.1 3 0) = some s2 ∧ f_X9_setRequest s2 (nI r) 2 x2 = some s3 ∧ f_X9_setRequest s3 (nI r) 3 0 = some s4 ∧ f_X9_setRequest s4 (nI r) 4 (-1) = some s5 ∧ rf_F s s5 ∧ ab_R D (ab_ad A r x0 x2 x5 x6) s5 W F := by
  have K := H
  obtain ⟨R1, R2, R3, R4, R5, R6, R7, R8, R9, R10, R11, R12, R13, R14⟩ := H
  have h2 : s.2.2.1 3 2 = nI r := (R1 2 (by decide)).trans hm
  obtain ⟨s0, c0, F0, n0, t0, q0⟩ := rf_us s (nI r + 1) (eb_0 (w := 2) (by decide))
  obtain ⟨s1, c1, F1, n1, t1, q1⟩ := rf_us s0 x0 (eb_5 (w := 0) hr (by decide))
  obtain ⟨s2, c2, F2, n2, t2, q2⟩ := rf_us s1 (s1.2.2.1 3 0) (eb_5 (w := 1) hr (by decide))
  obtain ⟨s3, c3, F3, n3, t3, q3⟩ := rf_us s2 x2 (eb_5 (w := 2) hr (by decide))
  obtain ⟨s4, c4, F4, n4, t4, q4⟩ := rf_us s3 0 (eb_5 (w := 3) hr (by decide))
  obtain ⟨s5, c5, F5, n5, t5, q5⟩ := rf_us s4 (-1) (eb_5 (w := 4) hr (by decide))
  have k0 : s1.2.2.1 3 0 = A.1 0 0 0 := by
    show vn s1 0 0 0 = _
    rw [n1, if_neg (by omega), n0, if_neg (by omega)]
    exact R1 0 (by decide)
  rw [k0] at n2
  have d1 : f_X9_setRequest (mo_a s 3 2 (nI r + 1)) (nI r) 0 x0 = some s1 := by
    show f_X9_setRequest (us s 0 0 2 (nI r + 1)) (nI r) 0 x0 = some s1
    rw [c0, setRequest_0 s0 hr, c1]
  refine ⟨s1, s2, s3, s4, s5, h2, d1, by rw [setRequest_1 s1 hr, c2], by rw [setRequest_2 s2 hr, c3], by rw [setRequest_3 s3 hr, c4], by rw [setRequest_4 s4 hr, c5], ((((F0.trans F1).trans F2).trans F3).trans F4).trans F5, ?_⟩
  have m1 : ∀ g i w, g ≠ 5 → ¬ (g = 0 ∧ i = 0 ∧ w = 2) → vn s5 g i w = vn s g i w := fun g i w h h' => by
    rw [n5, if_neg (by omega), n4, if_neg (by omega), n3, if_neg (by omega), n2, if_neg (by omega), n1, if_neg (by omega), n0, if_neg (by omega)]
  have v1 : ∀ g i w, g ≠ 5 → ¬ (g = 0 ∧ i = 0 ∧ w = 2) → (ab_ad A r x0 x2 x5 x6).1 g i w = A.1 g i w := fun g i w h h' => ab_ad_o A r x0 x2 x5 x6 g i w (by omega) h'
  refine ab_R_v K rfl (m1 _ _ _ (by omega) (by omega)) (fun i w => m1 _ _ _ (by omega) (by omega)) (fun i w => m1 _ _ _ (by omega) (by omega)) (fun a b => by rw [t5, t4, t3, t2, t1, t0]) (fun a b => by rw [q5, q4, q3, q2, q1, q0]) ?_ (fun i w => m1 _ _ _ (by omega) (by omega)) (fun i w => v1 _ _ _ (by omega) (by omega)) ?_ ?_ ?_ ?_ ?_
  · intro w h
    by_cases u : w = 2
    · subst u
      rw [ab_ad_m, n5, if_neg (by omega), n4, if_neg (by omega), n3, if_neg (by omega), n2, if_neg (by omega), n1, if_neg (by omega), n0, if_pos ⟨rfl, rfl, rfl⟩, nI_1]
    · rw [m1 _ _ _ (by omega) (by omega), v1 _ _ _ (by omega) (by omega)]
      rcases h with h | rfl | rfl
      · exact R1 w h
      · exact R2
      · exact R3
  · intro d k h1 h2
    rw [m1 _ _ _ (by omega) (by omega), v1 _ _ _ (by omega) (by omega)]
    exact R6 d k h1 h2
  · intro k h1
    rw [m1 _ _ _ (by omega) (by omega), v1 _ _ _ (by omega) (by omega)]
    exact R7 k h1
  · intro r' w h1 h2 h3
    by_cases z : r' = r
    · subst z
      rw [ab_ad_5, n5, n4, n3, n2, n1]
      rcases (show w = 0 ∨ w = 1 ∨ w = 2 ∨ w = 3 ∨ w = 4 by omega) with rfl | rfl | rfl | rfl | rfl <;> simp
    · rw [ab_ad_m] at h2
      have h4 := (nI_ltI (by omega) (by omega)).mp h2
      rw [ab_ad_o _ _ _ _ _ _ _ _ _ (by omega) (by omega), n5, if_neg (by omega), n4, if_neg (by omega), n3, if_neg (by omega), n2, if_neg (by omega), n1, if_neg (by omega), n0, if_neg (by omega)]
      refine R8 r' w h1 ?_ h3
      rw [hm]
      exact (nI_ltI (by omega) (by omega)).mpr (by omega)
  · intro t w h1 h2
    rw [m1 _ _ _ (by omega) (by omega), v1 _ _ _ (by omega) (by omega)]
    exact R9 t w h1 h2
  · intro c h
    have hh := hl c h
    unfold ab_ten ab_kind ab_stripe
    by_cases u : c < 448
    · simp only [if_pos u]
      exact ⟨trivial, trivial, trivial⟩
    · simp only [if_neg u]
      rw [ab_ad_o _ _ _ _ _ _ _ _ _ (by omega) (by omega), ab_ad_o _ _ _ _ _ _ _ _ _ (by omega) (by omega), ab_ad_o _ _ _ _ _ _ _ _ _ (by omega) (by omega)]
      exact ⟨rfl, rfl, rfl⟩
theorem ab_row_0 {L : Nat → Bool} {i : Nat} (h : ∀ d, d < 7 → L (7 * i + d) = false) : ab_row L i = 0 := by
  unfold ab_row
  rw [ab_cnt_eq (g := fun _ => false) 7 h]
  rfl
theorem ab_B_ad {D S T m n N t k : Nat} {A : ab_S} {L : Nat → Bool} {x2 x6 : Int32} (hm : m < 400) (ht : 1 ≤ t) (ht' : t < T) (hk : k < S) (h6 : x6 = 0 ∨ x6 = 1) (H : ab_B D S T m n N A L) : ab_B D S T (m + 1) n N (ab_ad A m (nI t) x2 (nI k) x6) L := by
  obtain ⟨B1, B2, B3, B4, B5, B6, B7, B8, B9, B10⟩ := H
  have o : ∀ g i w, ¬ (g = 5 ∧ i = m) → ¬ (g = 0 ∧ i = 0 ∧ w = 2) → (ab_ad A m (nI t) x2 (nI k) x6).1 g i w = A.1 g i w := fun g i w h h' => ab_ad_o A m _ _ _ _ g i w h h'
  have row : ab_row L (64 + m) = 0 := ab_row_0 (fun d hd => by
    cases hh : L (7 * (64 + m) + d) with
    | false => rfl
    | true =>
      have := B5 _ hh
      omega)
  refine ⟨B1, B2, ?_, B4, ?_, ?_, ?_, ?_, B9, B10⟩
  · intro q a hq ha
    have hL := (B2 a.1).mpr (.inl ⟨q, hq, a, ha, rfl⟩)
    have h5 := B5 a.1 hL
    have h3 := B3 q a hq ha
    unfold ab_ten at h3 ⊢
    by_cases u : a.1 < 448
    · rw [if_pos u] at h3 ⊢
      exact h3
    · rw [if_neg u] at h3 ⊢
      rw [o _ _ _ (by omega) (by omega)]
      exact h3
  · intro c hc
    have := B5 c hc
    omega
  · rw [ab_ad_m, o _ _ _ (by omega) (by omega)]
    exact ⟨by omega, rfl, B6.2.2⟩
  · intro r hr
    by_cases z : r = m
    · subst z
      simp only [ab_ad_5]
      exact ⟨⟨t, ht, ht', rfl⟩, ⟨k, hk, rfl⟩, h6, by rw [row]; rfl⟩
    · rw [o _ _ _ (by omega) (by omega), o _ _ _ (by omega) (by omega), o _ _ _ (by omega) (by omega), o _ _ _ (by omega) (by omega)]
      exact B7 r (by omega)
  · intro d hd
    rw [o _ _ _ (by omega) (by omega), o _ _ _ (by omega) (by omega)]
    exact B8 d hd
