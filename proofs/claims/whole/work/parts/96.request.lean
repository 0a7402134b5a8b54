/-! Steps of one request; the degraded read, in both programs. -/
theorem lp2_for {X E Y E' : Type} {B : X → Option (X ⊕ E)} {B' : Y → Option (Y ⊕ E')} {Q : E → E' → Prop} (n : Nat) (I : Nat → X → Y → Prop) (hn : n < pm_fu) (step : ∀ i x y, i < n → I i x y → ∃ x' y', B x = some (.inl x') ∧ B' y = some (.inl y') ∧ I (i + 1) x' y') (fin : ∀ x y, I n x y → ∃ e e', B x = some (.inr e) ∧ B' y = some (.inr e') ∧ Q e e') {x : X} {y : Y} (h0 : I 0 x y) : ∃ e e', pm_loop pm_fu B x = some e ∧ pm_loop pm_fu B' y = some e' ∧ Q e e' := by
  have gen : ∀ j fu x y i, i + j = n → j < fu → I i x y → ∃ e e', pm_loop fu B x = some e ∧ pm_loop fu B' y = some e' ∧ Q e e' := by
    intro j
    induction j with
    | zero =>
      intro fu x y i hi hf hI
      obtain ⟨e, e', h1, h2, h3⟩ := fin x y (by rw [show n = i by omega]; exact hI)
      cases fu with
      | zero => omega
      | succ fu => exact ⟨e, e', lp_inr h1, lp_inr h2, h3⟩
    | succ j ih =>
      intro fu x y i hi hf hI
      obtain ⟨x', y', h1, h2, h3⟩ := step i x y (by omega) hI
      cases fu with
      | zero => omega
      | succ fu =>
        obtain ⟨e, e', g1, g2, g3⟩ := ih fu x' y' (i + 1) (by omega) (by omega) h3
        exact ⟨e, e', by rw [lp_inl h1]; exact g1, by rw [lp_inl h2]; exact g2, g3⟩
  exact gen n pm_fu x y 0 (by omega) hn h0
/-- what a step of request r leaves alone -/
def ab_rq (r : Nat) (A A' : ab_S) (L L' : Nat → Bool) : Prop := (∀ g i w, ¬ (g = 5 ∧ i = r ∧ (w = 3 ∨ w = 4)) → g ≠ 6 → A'.1 g i w = A.1 g i w) ∧ A'.2.2.2 = A.2.2.2 ∧ ∀ c, c / 7 ≠ 64 + r → L' c = L c
theorem ab_rq.refl (r : Nat) (A : ab_S) (L : Nat → Bool) : ab_rq r A A L L := ⟨fun _ _ _ _ _ => rfl, rfl, fun _ _ => rfl⟩
theorem ab_rq.trans {r : Nat} {A A' A'' : ab_S} {L L' L'' : Nat → Bool} (h : ab_rq r A A' L L') (g : ab_rq r A' A'' L' L'') : ab_rq r A A'' L L'' :=
  ⟨fun a b c d e => (g.1 a b c d e).trans (h.1 a b c d e), g.2.1.trans h.2.1, fun c hc => (g.2.2 c hc).trans (h.2.2 c hc)⟩
theorem ab_rq.app {r t d : Nat} {p : Nat → Int32} {A : ab_S} {L : Nat → Bool} {due : Int32} {q : Nat} (hd : d < 7) : ab_rq r A (ab_app p (ab_pd A (7 * (64 + r) + d)) q t (7 * (64 + r) + d) due) L (ab_L L (7 * (64 + r) + d) true) := by
  refine ⟨fun g i w h1 h2 => ?_, ?_, fun c hc => if_neg (by omega)⟩
  · show (ab_pd A (7 * (64 + r) + d)).1 g i w = _
    by_cases u : g = 5 ∧ w = 3
    · rw [u.1, u.2, ab_pd_3, if_neg (by omega)]
    · exact ab_pd_1 _ _ _ _ _ (by omega)
  · show (ab_pd A (7 * (64 + r) + d)).2.2.2 = _
    rw [ab_pd_2]
theorem ab_rq.en {r t : Nat} {A : ab_S} {L : Nat → Bool} : ab_rq r A (ab_en A r t) L L := by
  refine ⟨fun g i w h1 h2 => ?_, by rw [ab_en_2], fun _ _ => rfl⟩
  by_cases u : g = 5 ∧ w = 4
  · unfold ab_en
    have e4 : (ab_en4 A r t).1 g i w = A.1 g i w := by
      unfold ab_en4
      rw [ab_v_1, if_neg (by omega), ab_v_1, if_neg (by omega), ab_v_1, if_neg (by omega), ab_v_1, if_neg (by omega)]
    split
    · exact e4
    · split
      · exact e4
      · rw [ab_v_1, if_neg (by omega)]
        exact e4
  · exact ab_en_1 _ _ _ _ _ _ u (by omega)
theorem ab_B_en {D S T m n N r t : Nat} {A : ab_S} {L : Nat → Bool} (H : ab_B D S T m n N A L) : ab_B D S T m n N (ab_en A r t) L :=
  ab_B_v (A := A) (ab_en_2 A r t) (ab_en_1 _ _ _ _ _ _ (by omega) (by omega)) (ab_en_1 _ _ _ _ _ _ (by omega) (by omega)) (fun r' w h => ab_en_1 _ _ _ _ _ _ (by omega) (by omega)) (fun d w _ => ab_en_1 _ _ _ _ _ _ (by omega) (by omega)) H
/-- what is between the steps is kept by a step of one request -/
theorem ab_V_rq {D S m r : Nat} {f : Option Nat} {A A' : ab_S} {L L' : Nat → Bool} (hS : S ≤ 64) (V : ab_V D S m f A L) (rq : ab_rq r A A' L L') (h5 : ab_row L' (64 + r) ≤ 5) (h1 : f = none → A.1 5 r 6 = 0 → ab_row L' (64 + r) ≤ 1) (off : ∀ f', f = some f' → ∀ d, d < 7 → L' (7 * (64 + r) + d) = true → d ≠ f') : ab_V D S m f A' L' := by
  obtain ⟨VK, Vr, Vs, Vn, Vh, Vo⟩ := V
  obtain ⟨q1, q2, q3⟩ := rq
  have row : ∀ r', r' ≠ r → ab_row L' (64 + r') = ab_row L (64 + r') := fun r' hr => ab_cnt_eq 7 (fun d hd => q3 _ (by omega))
  refine ⟨?_, ?_, ?_, ?_, fun d hd => by rw [q1 _ _ _ (by omega) (by omega)]; exact Vh d hd, ?_⟩
  · cases f with
    | none => exact ⟨by rw [q1 _ _ _ (by omega) (by omega)]; exact VK.1, fun k hk => by rw [q1 _ _ _ (by omega) (by omega)]; exact VK.2.1 k hk, fun d k h1 h2 => by rw [q1 _ _ _ (by omega) (by omega)]; exact VK.2.2.1 d k h1 h2, fun c hc => by rw [q3 c (by omega)]; exact VK.2.2.2 c hc⟩
    | some f => exact ⟨by rw [q1 _ _ _ (by omega) (by omega)]; exact VK.1, VK.2.1, fun d k h1 h2 h3 => VK.2.2.1 d k h1 h2 (by rw [← q1 _ _ _ (by omega) (by omega)]; exact h3), fun k hk => ab_Ks_tr (q1 _ _ _ (by omega) (by omega)) (fun d => q1 _ _ _ (by omega) (by omega)) (fun d hd => q3 _ (by omega)) (VK.2.2.2 k hk)⟩
  · intro r' hr'
    by_cases u : r' = r
    · rw [u]
      exact h5
    · rw [row r' u]
      exact Vr r' hr'
  · rw [(ab_cnts (A := A) (A' := A') (fun i w => q1 _ _ _ (by omega) (by omega)) (fun i w => q1 _ _ _ (by omega) (by omega)) S).1]
    exact Vs
  · intro hf r' hr' h6
    rw [q1 _ _ _ (by omega) (by omega)] at h6
    by_cases u : r' = r
    · rw [u] at h6 ⊢
      exact h1 hf h6
    · rw [row r' u]
      exact Vn hf r' hr' h6
  · intro f' hf c hc
    by_cases u : c / 7 = 64 + r
    · have e : c = 7 * (64 + r) + c % 7 := by omega
      rw [e] at hc
      exact off f' hf _ (by omega) hc
    · rw [q3 c u] at hc
      exact Vo f' hf c hc
/-- a request with operations on surviving disks alone has at most five -/
theorem ab_row5 {D f i : Nat} {L : Nat → Bool} (hD : D ≤ 6) (hf : f < D) (h : ∀ d, d < 7 → L (7 * i + d) = true → d < D ∧ d ≠ f) : ab_row L i ≤ 5 := by
  have c1 := ab_cnt_ch (f := fun j => decide (j < 6)) (f' := fun j => decide (j < 6 ∧ j ≠ f)) (k := f) (fun i hi => by simp [hi]) 7
  have c2 : ab_cnt (fun j => decide (j < 6)) 7 = 6 := by decide
  simp [show f < 7 by omega, show f < 6 by omega] at c1
  have c3 : ab_row L i ≤ ab_cnt (fun j => decide (j < 6 ∧ j ≠ f)) 7 := by
    unfold ab_row
    have gen : ∀ n, n ≤ 7 → ab_cnt (fun d => L (7 * i + d)) n ≤ ab_cnt (fun j => decide (j < 6 ∧ j ≠ f)) n := by
      intro n
      induction n with
      | zero => exact fun _ => Nat.le_refl 0
      | succ n ih =>
        intro hn
        have := ih (by omega)
        rw [ab_cnt_s, ab_cnt_s]
        by_cases u : L (7 * i + n) = true
        · have := h n (by omega) u
          rw [if_pos u, if_pos (decide_eq_true (by omega))]
          omega
        · rw [if_neg u]
          split <;> omega
    exact gen 7 (Nat.le_refl 7)
  have e : ab_cnt (fun j => decide (j < 6 ∧ j ≠ f)) 7 = ab_cnt (fun j => decide (j < 6) && !decide (j = f)) 7 := ab_cnt_eq 7 (fun j _ => by simp)
  omega
/-- the check behind the queueing of a request's operations -/
theorem ab_J_chk {D S T m n N r t : Nat} {p : Nat → Int32} {A : ab_S} {L : Nat → Bool} {W : Nat → Nat} {F : List Nat} {s4 s5 : cs_S} {s : mo_S} (hr : r < m) (ht : A.1 5 r 0 = nI t) (ht' : t < 6) (H : ab_J D S T m n N p A L W F s4 s5 s) : ∃ s5' s' A', (if s5.2.1 26 r = 0 then f_X5_end s5 (nI r) (s5.1 0 4) else some s5) = some s5' ∧ f_X9_checkRequest s (nI r) = some s' ∧ rf_F s s' ∧ ab_J D S T m n N p A' L W F s4 s5' s' ∧ ab_rq r A A' L L ∧ A'.2 = A.2 := by
  obtain ⟨hP, hp, hs, hC, hR, hB, hF⟩ := H
  have hm := hB.2.2.2.2.2.1.1
  have hc : nI r < A.1 0 0 2 := by rw [hB.2.2.2.2.2.1.2.1]; exact (nI_ltI (by omega) (by omega)).mpr hr
  have pnd := (hB.2.2.2.2.2.2.1 r hr).2.2.2
  have k26 : s5.2.1 26 r = nI (ab_row L (64 + r)) := by rw [(hC.2.2.2.2.2.1 r (by omega) hc).2.2.2.1, pnd]
  have le := ab_row_le L (64 + r)
  have c0 : nI (ab_row L (64 + r)) ≤ 0 ↔ ab_row L (64 + r) = 0 := nI_le0 (by omega)
  have e0 : nI (ab_row L (64 + r)) = 0 ↔ ab_row L (64 + r) = 0 := nI_eq (b := 0) (by omega) (by decide)
  rw [k26]
  by_cases u : ab_row L (64 + r) = 0
  · rw [if_pos (e0.mpr u)]
    obtain ⟨s5', f1, f2⟩ := ab_C_en (t := t) (show r < 400 by omega) hc ht ht' hC
    obtain ⟨s', g1, g2, g3⟩ := ab_R_en (t := t) (show r < 400 by omega) hc ht ht' (by rw [pnd]; exact c0.mpr u) hR
    exact ⟨s5', s', _, f1, g1, g2, ⟨hP, hp, by rw [g2.2.2.1 0 (by decide)]; exact hs, f2, g3, ab_B_en hB, hF⟩, ab_rq.en, ab_en_2 A r t⟩
  · rw [if_neg (fun h => u (e0.mp h))]
    refine ⟨s5, s, A, rfl, ?_, rf_F.rfl' s, ⟨hP, hp, hs, hC, hR, hB, hF⟩, ab_rq.refl r A L, rfl⟩
    have k3 : vn s 5 r 3 = nI (ab_row L (64 + r)) := (hR.2.2.2.2.2.2.2.1 r 3 (by omega) hc (by decide)).trans pnd
    unfold f_X9_checkRequest
    simp only [ofRequest_3 s (show r < 400 by omega), k3, if_neg (fun h => u (c0.mp h))]
