/-! A disk fails: one lost operation, in both programs. -/
/-- what is so while a disk's operations are being lost; h: the disk that the reference still shows busy, or 7 -/
def ab_V1 (D S m f h : Nat) (A : ab_S) (L : Nat → Bool) : Prop :=
  ab_K D S (some f) A L ∧ (∀ r, r < m → ab_row L (64 + r) ≤ 5) ∧ ab_started A.1 S ≤ 8 ∧ (∀ d, d < 7 → d ≠ h → A.1 1 d 7 = 0) ∧ (∀ r, r < m → A.1 5 r 6 = 0 → L (7 * (64 + r) + f) = true → ab_row L (64 + r) ≤ 1) ∧ (∀ c, c < 448 → L c = false)
theorem ab_tot1 {D S T m n N f h : Nat} {A : ab_S} {L : Nat → Bool} (hB : ab_B D S T m n N A L) (V : ab_V1 D S m f h A L) : ab_cnt L 3248 ≤ 2056 := ab_tot hB V.1 V.2.1 V.2.2.1
/-- a step of one request -/
theorem ab_V1_rq {D S m r f h : Nat} {A A' : ab_S} {L L' : Nat → Bool} (hS : S ≤ 64) (hD : D ≤ 6) (V : ab_V1 D S m f h A L) (rq : ab_rq r A A' L L') (h5 : ab_row L' (64 + r) ≤ 5) (h1 : A.1 5 r 6 = 0 → L' (7 * (64 + r) + f) = true → ab_row L' (64 + r) ≤ 1) : ab_V1 D S m f h A' L' := by
  obtain ⟨VK, Vr, Vs, Vh, Vd, Vc⟩ := V
  obtain ⟨q1, q2, q3⟩ := rq
  have row : ∀ r', r' ≠ r → ab_row L' (64 + r') = ab_row L (64 + r') := fun r' hr => ab_cnt_eq 7 (fun d hd => q3 _ (by omega))
  refine ⟨⟨by rw [q1 _ _ _ (by omega) (by omega)]; exact VK.1, VK.2.1, fun d k h1 h2 h3 => VK.2.2.1 d k h1 h2 (by rw [← q1 _ _ _ (by omega) (by omega)]; exact h3), fun k hk => ab_Ks_tr (q1 _ _ _ (by omega) (by omega)) (fun d => q1 _ _ _ (by omega) (by omega)) (fun d hd => q3 _ (by omega)) (VK.2.2.2 k hk)⟩, ?_, ?_, fun d hd hh => by rw [q1 _ _ _ (by omega) (by omega)]; exact Vh d hd hh, ?_, fun c hc => by rw [q3 c (by omega)]; exact Vc c hc⟩
  · intro r' hr'
    by_cases u : r' = r
    · rw [u]
      exact h5
    · rw [row r' u]
      exact Vr r' hr'
  · rw [(ab_cnts (A := A) (A' := A') (fun i w => q1 _ _ _ (by omega) (by omega)) (fun i w => q1 _ _ _ (by omega) (by omega)) S).1]
    exact Vs
  · intro r' hr' h6 hl
    rw [q1 _ _ _ (by omega) (by omega)] at h6
    by_cases u : r' = r
    · rw [u] at h6 hl ⊢
      exact h1 h6 hl
    · rw [row r' u]
      have := VK.2.1
      rw [q3 _ (by omega)] at hl
      exact Vd r' hr' h6 hl
theorem ab_rq.pm {c r : Nat} {A : ab_S} {L : Nat → Bool} {b : Bool} (hc : 448 ≤ c) (hr : c / 7 - 64 = r) : ab_rq r A (ab_pm A c) L (ab_L L c b) := by
  refine ⟨fun g i w h1 h2 => ?_, by rw [ab_pm_2], fun y hy => if_neg (by omega)⟩
  by_cases u : g = 5 ∧ w = 3
  · rw [u.1, u.2, ab_pm_3, if_neg (by omega)]
  · exact ab_pm_1 _ _ _ _ _ (by omega)
theorem ab_rq.G {c r t : Nat} {A : ab_S} {L : Nat → Bool} {b : Bool} (hc : 448 ≤ c) (hr : c / 7 - 64 = r) : ab_rq r A (ab_G A c t) L (ab_L L c b) := by
  have e : ab_G A c t = if (ab_pm A c).1 5 r 3 ≤ 0 then ab_en (ab_pm A c) r t else ab_pm A c := by
    unfold ab_G
    rw [if_neg (by omega), hr]
  rw [e]
  split
  · exact (ab_rq.pm hc hr).trans ab_rq.en
  · exact ab_rq.pm hc hr
/-- one lost operation: it has left its place already -/
theorem ab_hd {D S T m n N c f h : Nat} {p : Nat → Int32} {A : ab_S} {L : Nat → Bool} {W : Nat → Nat} {F : List Nat} {s4 s5 : cs_S} {s : mo_S} (hcL : L c = true) (hc : 448 ≤ c) (hc' : c < 3248) (hcf : c % 7 = f) (hcm : c / 7 - 64 < m) (hN : N + 7 ≤ 1000000000000) (hP : ab_P p s4) (hp : ab_pl p D S T) (hs : s.2.2.1 0 = p) (hC : ab_C S A s5) (hR : ab_R D A s W F) (hO : ab_Ro D A s W c) (hWF : ¬ W c ∈ F) (hWl : ∀ y, ab_live A y → W y ≠ W c) (hB : ab_B D S T m n N (ab_pm A c) (ab_L L c false)) (hF : F.length + ab_cnt L 3248 = 2200) (hrow : A.1 5 (c / 7 - 64) 3 = nI (ab_row L (64 + (c / 7 - 64)))) (V : ab_V1 D S m f h A L) :
    ∃ s5' s' W' F' A' L', f_X1_loseOperation s4 s5 (nI c) = some s5' ∧ f_X9_handle s (nI (W c)) = some s' ∧ rf_F s s' ∧ ab_J D S T m n (N + 7) p A' L' W' F' s4 s5' s' ∧ ab_V1 D S m f h A' L' ∧ ab_rq (c / 7 - 64) A A' L L' ∧ (∀ d, d < 7 → L' (7 * (64 + (c / 7 - 64)) + d) = true → d = f → False) ∧ (∀ q, q / 6 = f → A'.2.1 q = A.2.1 q) := by
  have hD := hp.2.2.2.2.1
  have hS := hp.2.2.2.2.2.2.1
  have hT := hp.2.2.2.2.2.2.2.2.1
  generalize hr : c / 7 - 64 = r at *
  have c7 : c / 7 = 64 + r := by omega
  have hm := hB.2.2.2.2.2.1.1
  have pm1 : ∀ g i w, g ≠ 5 ∨ w ≠ 3 → (ab_pm A c).1 g i w = A.1 g i w := fun g i w h => ab_pm_1 A c g i w h
  obtain ⟨⟨t, t1, t2, t3⟩, ⟨k, k1, k2⟩, knd, _⟩ := hB.2.2.2.2.2.2.1 r hcm
  rw [pm1 _ _ _ (by omega)] at t3 k2 knd
  have cnt2 : nI r < A.1 0 0 2 := by
    have := hB.2.2.2.2.2.1.2.1
    rw [pm1 _ _ _ (by omega)] at this
    rw [this]
    exact (nI_ltI (by omega) (by omega)).mpr hcm
  have rowd := ab_row_dn hcL
  rw [c7] at rowd
  have j7 := ab_row_le (ab_L L c false) (64 + r)
  have tot := ab_tot1 (h := h) (A := A) (L := L) (D := D) (S := S) (T := T) (m := m) (n := n) (N := N) (f := f)
  have cdn := ab_cnt_dn hcL 3248 hc'
  have hF' : (W c :: F).length + ab_cnt (ab_L L c false) 3248 = 2200 := by
    rw [List.length_cons]
    omega
  obtain ⟨s1, g1, F1, R1, o1⟩ := ab_R_rel (c := c) hO.1 hWF hWl hR
  have stp : ab_stripe A c = nI k := by unfold ab_stripe; rw [if_neg (by omega), hr, k2]
  have knc : ab_kind D A c = A.1 5 r 6 := by unfold ab_kind; rw [if_neg (by omega), hr]
  have rqc : ab_req c = nI r := by unfold ab_req; rw [if_neg (by omega), hr]
  have rqb : f_X3_requestBehind (nI c) = some (nI r) := by rw [requestBehind_w hc' hc, hr]
  have cr := hC.2.2.2.2.2.1 r (by omega) cnt2
  have isr : f_X3_isOfRebuild (nI c) = some 0 := by rw [isOfRebuild_w hc', if_neg (by omega)]
  have k01 : ¬ (0 : Int32) = 1 := by decide
  have k10 : ¬ (1 : Int32) = 0 := by decide
  have Lr : ∀ d, d < 7 → ab_L L c false (7 * (64 + r) + d) = true → d ≠ f := fun d hd hl e => by
    unfold ab_L at hl
    rw [if_pos (by omega)] at hl
    cases hl
  unfold f_X1_loseOperation f_X9_handle
  simp (disch := omega) only [isr, if_true, rqb, nb_nI, nI_clamp, cr.2.2.2.2.2.2, of_4 s hO.1, of_2 s hO.1, of_1 s hO.1, hO.2.2.2.2, hO.2.2.2.1, hO.2.2.1, rqc, stp, knc, g1]
  rcases knd with h6 | h6
  · -- a read
    have r1 : ab_row L (64 + r) ≤ 1 := V.2.2.2.2.1 r hcm h6 (by rw [show 7 * (64 + r) + f = c by omega]; exact hcL)
    have row0 : ab_row (ab_L L c false) (64 + r) = 0 := by omega
    have L0 : ∀ d, d < 7 → ab_L L c false (7 * (64 + r) + d) = false := fun d hd => by
      cases hl : ab_L L c false (7 * (64 + r) + d) with
      | false => rfl
      | true =>
        have := ab_row_pos hd hl
        omega
    have pv : ab_pm A c = ab_v A 5 r 3 (nI 0) := by
      unfold ab_pm
      rw [if_neg (by omega), hr, hrow, rowd, nI_pred, row0]
    have em : A.1 5 r 3 + (-1) = nI 0 := by rw [hrow, rowd, ← Int32.sub_eq_add_neg, nI_pred, row0]
    have em' : A.1 5 r 3 - 1 = nI 0 := by rw [hrow, rowd, nI_pred, row0]
    have C1 : ab_C S (ab_pm A c) (cs_a s5 26 (nI r) (nI 0)) := by
      rw [pv]
      exact ab_C_5 (w := 3) (by omega) (by decide) hC
    have k3 : vn s1 5 r 3 = A.1 5 r 3 := R1.2.2.2.2.2.2.2.1 r 3 (by omega) cnt2 (by decide)
    obtain ⟨s2, c2, F2, n2, t2', q2⟩ := rf_us s1 (nI 0) (eb_5 (i := r) (w := 3) (by omega) (by decide))
    have R2 : ab_R D (ab_pm A c) s2 W (W c :: F) := by
      rw [pv]
      exact ab_R_5 (.inl rfl) n2 t2' q2 R1
    have ap : f_X9_addPending s1 (nI r) (-1) = some s2 := by rw [addPending_w s1 (by omega), k3, em, c2]
    have J1 : ab_J D S T m n N p (ab_pm A c) (ab_L L c false) W (W c :: F) s4 (cs_a s5 26 (nI r) (nI 0)) s2 := ⟨hP, hp, by rw [(F1.trans F2).2.2.1 0 (by decide)]; exact hs, C1, R2, hB, hF'⟩
    have f1 : (ab_pm A c).1 0 0 1 = nI f := by rw [pm1 _ _ _ (by omega)]; exact V.1.1
    have tot' : ab_cnt (ab_L L c false) 3248 ≤ 2056 := by
      refine ab_tot hB (f := some f) ?_ ?_ ?_
      · exact ⟨f1, V.1.2.1, fun d k h1 h2 h3 => V.1.2.2.1 d k h1 h2 (by rw [← pm1 _ _ _ (by omega)]; exact h3), fun k hk => ab_Ks_tr (pm1 _ _ _ (by omega)) (fun d => pm1 _ _ _ (by omega)) (fun d hd => if_neg (by omega)) (V.1.2.2.2 k hk)⟩
      · intro r' hr'
        by_cases u : r' = r
        · rw [u]
          omega
        · rw [ab_row_L (by omega)]
          exact V.2.1 r' hr'
      · rw [(ab_cnts (A := A) (A' := ab_pm A c) (fun i w => pm1 _ _ _ (by omega)) (fun i w => pm1 _ _ _ (by omega)) S).1]
        exact V.2.2.1
    obtain ⟨s5', s3, s', W', F', A', L', d1, d2, d3, d4, J', q, lo, xq⟩ := ab_dg (r := r) (f := f) (k := k) (t := t) hcm (by rw [pm1 _ _ _ (by omega)]; exact t3) t2 (by rw [pm1 _ _ _ (by omega)]; exact k2) k1 (by rw [pm1 _ _ _ (by omega)]; exact h6) V.1.2.1 f1 L0 (by omega) hN J1
    have e26 : s5.2.1 26 r = A.1 5 r 3 := cr.2.2.2.1
    simp only [h6, if_neg k01, if_true, e26, em', ap, d1, d2, d3]
    have qq := (ab_rq.pm (A := A) (L := L) (b := false) hc hr).trans q
    exact ⟨_, _, W', F', A', L', rfl, rfl, (F1.trans F2).trans d4, J', ab_V1_rq hS hD V qq (ab_row5 hD V.1.2.1 lo) (fun _ hl => absurd rfl (lo f (by have := V.1.2.1; omega) hl).2), qq, fun d hd hl e => (lo d hd hl).2 e, fun q hq => by rw [xq q hq, ab_pm_2]⟩
  · -- a write
    obtain ⟨s5', f1, C1⟩ := ab_C_G (S := S) (A := A) (s := s5) (c := c) (r := r) (t := t) (j := ab_row (ab_L L c false) (64 + r)) hr hc (by omega) cnt2 t3 (by omega) (by rw [hrow, rowd]) (by omega) hC
    obtain ⟨s2, s3, p1, p2, F2, R2⟩ := ab_R_G (c := c) (r := r) (t := t) (j := ab_row (ab_L L c false) (64 + r)) hr hc (by omega) cnt2 t3 (by omega) (by rw [hrow, rowd]) (by omega) R1
    simp only [h6, if_true, if_neg k10, f1, p1, p2]
    have BG : ab_B D S T m n N (ab_G A c t) (ab_L L c false) := by
      refine ab_B_v (A := ab_pm A c) (by rw [ab_G_2, ab_pm_2]) (by rw [ab_G_1 _ _ _ _ _ _ (by omega) (by omega), pm1 _ _ _ (by omega)]) (by rw [ab_G_1 _ _ _ _ _ _ (by omega) (by omega), pm1 _ _ _ (by omega)]) (fun r' w hw => ?_) (fun d' w hw => by rw [ab_G_1 _ _ _ _ _ _ (by omega) (by omega), pm1 _ _ _ (by omega)]) hB
      by_cases u : w = 3
      · rw [u, ab_G_3]
      · rw [ab_G_1 _ _ _ _ _ _ (by omega) (by omega), pm1 _ _ _ (by omega)]
    have qq := ab_rq.G (A := A) (L := L) (b := false) (t := t) hc hr
    have v5 := V.2.1 r hcm
    refine ⟨_, _, W, W c :: F, ab_G A c t, ab_L L c false, rfl, rfl, F1.trans F2, ⟨hP, hp, by rw [(F1.trans F2).2.2.1 0 (by decide)]; exact hs, C1, R2, BG.up (by omega) hN, hF'⟩, ab_V1_rq hS hD V qq (by omega) (fun h0 => absurd h0 (by rw [h6]; decide)), qq, fun d hd hl e => Lr d hd hl e, fun q _ => by rw [ab_G_2]⟩
