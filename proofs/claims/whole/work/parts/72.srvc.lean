/-! Serving the first operation of a queue, the program's side. -/
theorem ab_C_sv {S : Nat} {A : ab_S} {s4 s : cs_S} {p : Nat → Int32} {d t way c : Nat} {st : Int32} (hd : d < 7) (ht : t < 6) (hw : way < 3) (hP : ab_P p s4) (H : ab_C S A s) : ∃ s', f_X0_serve s4 s (nI d) (nI c) st (s.1 0 4) = some s' ∧ ab_C S (ab_sv p A d t way c st) (cs_a s' 18 (nI (t * 3 + way)) (s'.2.1 18 (t * 3 + way) + 1)) := by
  obtain ⟨H1, H2, H3, H4, H5, H6, H7⟩ := H
  obtain ⟨s', e1, e2, e3, e4⟩ := sv_cls s4 s (nI c) st (s.1 0 4) hd
  have D := H4 d hd
  rw [hP.2.2.1, hP.2.2.2.1, D.2.2.1, D.2.2.2] at e4
  change ∀ P k, s'.2.1 P k = if P = 17 ∧ k = d then A.1 1 d 3 + ab_tk p (A.1 1 d 2) st else if P = 16 ∧ k = d then st else if P = 15 ∧ k = d then s.1 0 4 + ab_tk p (A.1 1 d 2) st else if P = 14 ∧ k = d then nI c else s.2.1 P k at e4
  have e5 : ∀ P k, (cs_a s' 18 (nI (t * 3 + way)) (s'.2.1 18 (t * 3 + way) + 1)).2.1 P k = if P = 18 ∧ k = t * 3 + way then s.2.1 18 (t * 3 + way) + 1 else s'.2.1 P k := by
    intro P k
    have e18 : s'.2.1 18 (t * 3 + way) = s.2.1 18 (t * 3 + way) := by
      rw [e4, if_neg (by omega), if_neg (by omega), if_neg (by omega), if_neg (by omega)]
    rw [ca_2 (by omega), e18]
  have oth : ∀ P k, ¬ (14 ≤ P ∧ P ≤ 18) → (cs_a s' 18 (nI (t * 3 + way)) (s'.2.1 18 (t * 3 + way) + 1)).2.1 P k = s.2.1 P k := by
    intro P k h
    rw [e5, if_neg (by omega), e4, if_neg (by omega), if_neg (by omega), if_neg (by omega), if_neg (by omega)]
  have v1 : ∀ g i w, ¬ (g = 1 ∧ i = d) → ¬ (g = 6 ∧ i = t) → (ab_sv p A d t way c st).1 g i w = A.1 g i w := by
    intro g i w h1 h2
    rw [ab_sv_1, if_neg (by omega), if_neg (by omega), if_neg (by omega), if_neg (by omega)]
  have cn := ab_cnts (A := A) (A' := ab_sv p A d t way c st) (fun i w => v1 3 i w (by omega) (by omega)) (fun i w => v1 4 i w (by omega) (by omega)) S
  refine ⟨s', e1, ?_, ?_, ?_, ?_, ?_, ?_, ?_⟩
  · show (s'.1 0 4 = _ ∧ s'.1 31 0 = _ ∧ s'.1 19 0 = _ ∧ s'.1 0 2 = _ ∧ s'.1 0 3 = _ ∧ s'.1 31 7 = _ ∧ s'.1 31 8 = _ ∧ s'.1 31 6 = _ ∧ s'.1 31 10 = _ ∧ s'.1 31 9 = _)
    rw [e2]
    simp (disch := omega) only [v1]
    exact H1
  · show (s'.1 31 3 = _ ∧ s'.1 31 4 = _ ∧ s'.1 31 5 = _)
    rw [e2, cn.1, cn.2.1, cn.2.2]
    exact H2
  · exact fun q hq => ab_Cq_fr (A := A) (s := s) rfl (fun w => rfl) (fun P k h => oth P k (by omega)) (by rw [cs_a_3, e3]) (H3 q hq)
  · intro d' hd'
    by_cases z : d' = d
    · subst z
      unfold ab_Cd
      have f : ∀ P, P ≠ 18 → (cs_a s' 18 (nI (t * 3 + way)) (s'.2.1 18 (t * 3 + way) + 1)).2.1 P d' = s'.2.1 P d' := fun P h => by rw [e5, if_neg (by omega)]
      rw [ab_sv_4, if_pos rfl, f 14 (by decide), f 15 (by decide), f 16 (by decide), f 17 (by decide)]
      refine ⟨?_, ?_, ?_, ?_⟩
      · rw [e4, if_neg (by omega), if_neg (by omega), if_neg (by omega), if_pos ⟨rfl, rfl⟩]
      · rw [e4, if_neg (by omega), if_neg (by omega), if_pos ⟨rfl, rfl⟩, ab_sv_1, if_neg (by omega), if_neg (by omega), if_neg (by omega), if_pos ⟨rfl, rfl, rfl⟩, H1.1]
      · rw [e4, if_neg (by omega), if_pos ⟨rfl, rfl⟩, ab_sv_1, if_neg (by omega), if_neg (by omega), if_pos ⟨rfl, rfl, rfl⟩]
      · rw [e4, if_pos ⟨rfl, rfl⟩, ab_sv_1, if_neg (by omega), if_pos ⟨rfl, rfl, rfl⟩]
    · refine ab_Cd_fr (A := A) (s := s) (by rw [ab_sv_4, if_neg z]) (fun w => v1 1 d' w (by omega) (by omega)) (fun P h => ?_) (H4 d' hd')
      rw [e5, if_neg (by omega), e4, if_neg (by omega), if_neg (by omega), if_neg (by omega), if_neg (by omega)]
  · intro t' ht'
    obtain ⟨h1, h2, h3, h4, h5, h6, h7⟩ := H5 t' ht'
    have w4 : ∀ w, w < 4 → (ab_sv p A d t way c st).1 6 t' w = A.1 6 t' w := fun w hw => by
      rw [ab_sv_1, if_neg (by omega), if_neg (by omega), if_neg (by omega), if_neg (by omega)]
    have g : ∀ w, w < 3 → s.2.1 18 (3 * t' + w) = A.1 6 t' (4 + w) → (cs_a s' 18 (nI (t * 3 + way)) (s'.2.1 18 (t * 3 + way) + 1)).2.1 18 (3 * t' + w) = (ab_sv p A d t way c st).1 6 t' (4 + w) := by
      intro w hw' h
      by_cases z : t' = t ∧ w = way
      · obtain ⟨rfl, rfl⟩ := z
        rw [e5, if_pos ⟨rfl, by omega⟩, ab_sv_1, if_pos ⟨rfl, rfl, rfl⟩, ← h, Nat.mul_comm]
      · rw [e5, if_neg (by omega), e4, if_neg (by omega), if_neg (by omega), if_neg (by omega), if_neg (by omega), ab_sv_1, if_neg (by omega), if_neg (by omega), if_neg (by omega), if_neg (by omega)]
        exact h
    unfold ab_Ct
    rw [oth 27 _ (by omega), oth 28 _ (by omega), oth 29 _ (by omega), oth 30 _ (by omega), w4 0 (by omega), w4 1 (by omega), w4 2 (by omega), w4 3 (by omega)]
    exact ⟨h1, h2, h3, h4, g 0 (by omega) h5, g 1 (by omega) h6, g 2 (by omega) h7⟩
  · intro r hr hr'
    rw [v1 0 0 2 (by omega) (by omega)] at hr'
    exact ab_Cr_fr (A := A) (s := s) (fun w => v1 5 r w (by omega) (by omega)) (fun P h1 h2 => oth P r (by omega)) (H6 r hr hr')
  · exact fun k hk => ab_Ch_fr (A := A) (s := s) (v1 4 k 0 (by omega) (by omega)) (fun d' => v1 3 d' k (by omega) (by omega)) (fun P h => oth P k (by omega)) (H7 k hk)
theorem ab_C_srv {S : Nat} {A : ab_S} {s4 s : cs_S} {p : Nat → Int32} {d t way : Nat} {a : ab_O} {l : List ab_O} (hd : d < 7) (ht : t < 6) (hw : way < 3) (hP : ab_P p s4) (hl : A.2.1 (6 * d + t) = a :: l) (hU : ab_U A) (hT : ab_nt A) (hr : 448 ≤ a.1 → nI (a.1 / 7 - 64) < A.1 0 0 2) (H : ab_C S A s) : ∃ s', f_X1_serveFirst s4 s (nI d) (nI t) (nI way) = some s' ∧ ab_C S (ab_srv p A d t way a l) s' := by
  have hq : 6 * d + t < 42 := by omega
  have ha : a ∈ A.2.1 (6 * d + t) := by rw [hl]; exact List.mem_cons_self
  have hc := hU.2.2.1 _ a hq ha
  obtain ⟨s1, e1, C1⟩ := ab_C_pop hq hl hU H
  obtain ⟨V1, V2, V3⟩ := ab_U_q hq hl hU
  have hst : f_X5_stripeBehind s1 (nI a.1) = some (ab_stripe A a.1) := by
    rw [stripeBehind_w hc]
    unfold ab_stripe
    by_cases u : a.1 < 448
    · rw [if_pos u, if_pos u]
    · rw [if_neg u, if_neg u]
      have := (C1.2.2.2.2.2.1 (a.1 / 7 - 64) (by omega) (hr (by omega))).2.2.2.2.2.1
      rw [this]
      rfl
  obtain ⟨s2, e2, C2⟩ := ab_C_sv (S := S) (A := ab_q A (6 * d + t) l) (s4 := s4) (s := s1) (p := p) (c := a.1) (st := ab_stripe A a.1) hd ht hw hP C1
  have V4 : ab_U (ab_sv p (ab_q A (6 * d + t) l) d t way a.1 (ab_stripe A a.1)) := ab_U_sv hc (fun q x hq' hx => (V2 q x hq' hx).2) V3 V1
  have ei : nI t * 3 + nI way = nI (t * 3 + way) := by
    rw [show nI t * 3 = nI (t * 3) from nI_mul t 3, nI_add]
  have ne : ¬ nI a.1 = -1 := nI_nm (by omega)
  have hs : s4.2.1 1 t = p (8 + 3 * t) := (hP.2.2.2.2.2.2.2.2 t ht).1
  unfold ab_srv
  have w1 : nI way = 1 ↔ way = 1 := nI_eq (b := 1) (by omega) (by decide)
  simp (disch := omega) only [f_X1_serveFirst, numberOf_w, e1, if_neg ne, hst, e2, ei, nb_nI, nI_clamp, hs]
  by_cases u : way = 1
  · rw [if_pos (w1.mpr u), if_pos (.inl u)]
    exact ⟨_, rfl, C2⟩
  · rw [if_neg (fun k => u (w1.mp k))]
    by_cases v : p (8 + 3 * t) ≤ 0
    · rw [if_pos v, if_pos (.inr v)]
      exact ⟨_, rfl, C2⟩
    · rw [if_neg v, if_neg (fun k => k.elim u v)]
      have T := hT (6 * d + t) hq
      obtain ⟨s3, e3, C3⟩ := ab_C_cr (R := p (8 + 3 * t)) hq v V4 (fun x hx => T.1 x (V2 _ x hq hx).1) T.2 C2
      rw [e3]
      exact ⟨_, rfl, C3⟩
