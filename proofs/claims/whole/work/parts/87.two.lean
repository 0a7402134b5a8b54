/-! Both programs at two states of the model that differ in the requests' ends alone. -/
def ab_E (A B : ab_S) : Prop := B.2 = A.2 ∧ ∀ g i w, ¬ (g = 5 ∧ (w = 3 ∨ w = 4)) → g ≠ 6 → B.1 g i w = A.1 g i w
/-- the requests' numbers and the statistics are as they were -/
def ab_56 (A A' : ab_S) : Prop := (∀ i w, A'.1 5 i w = A.1 5 i w) ∧ (∀ i w, A'.1 6 i w = A.1 6 i w) ∧ A'.1 0 0 0 = A.1 0 0 0
theorem ab_56.refl (A : ab_S) : ab_56 A A := ⟨fun _ _ => rfl, fun _ _ => rfl, rfl⟩
theorem ab_56.trans {A B C : ab_S} (h : ab_56 A B) (k : ab_56 B C) : ab_56 A C := ⟨fun i w => (k.1 i w).trans (h.1 i w), fun i w => (k.2.1 i w).trans (h.2.1 i w), k.2.2.trans h.2.2⟩
theorem ab_E.v {A B : ab_S} (h : ab_E A B) (g i w : Nat) (x : Int32) : ab_E (ab_v A g i w x) (ab_v B g i w x) := by
  refine ⟨h.1, fun g' i' w' h1 h2 => ?_⟩
  rw [ab_v_1, ab_v_1, h.2 g' i' w' h1 h2]
theorem ab_56.v {A : ab_S} {g i w : Nat} {x : Int32} (h5 : g ≠ 5) (h6 : g ≠ 6) (h0 : ¬ (g = 0 ∧ w = 0)) : ab_56 A (ab_v A g i w x) :=
  ⟨fun i' w' => by rw [ab_v_1, if_neg (by omega)], fun i' w' => by rw [ab_v_1, if_neg (by omega)], by rw [ab_v_1, if_neg (by omega)]⟩
def ab_J2 (D S T m n N : Nat) (p : Nat → Int32) (A B : ab_S) (L : Nat → Bool) (W : Nat → Nat) (F : List Nat) (s4 s5 : cs_S) (s : mo_S) : Prop :=
  ab_P p s4 ∧ ab_pl p D S T ∧ s.2.2.1 0 = p ∧ ab_C S A s5 ∧ ab_R D B s W F ∧ ab_B D S T m n N B L ∧ F.length + ab_cnt L 3248 = 2200 ∧ ab_E A B
theorem ab_J2.of {D S T m n N : Nat} {p : Nat → Int32} {A : ab_S} {L : Nat → Bool} {W : Nat → Nat} {F : List Nat} {s4 s5 : cs_S} {s : mo_S} (h : ab_J D S T m n N p A L W F s4 s5 s) : ab_J2 D S T m n N p A A L W F s4 s5 s :=
  ⟨h.1, h.2.1, h.2.2.1, h.2.2.2.1, h.2.2.2.2.1, h.2.2.2.2.2.1, h.2.2.2.2.2.2, rfl, fun _ _ _ _ _ => rfl⟩
/-- an operation of the rebuild is queued -/
theorem ab_J2_qr {D S T m n N d k : Nat} {p : Nat → Int32} {A B : ab_S} {L : Nat → Bool} {W : Nat → Nat} {F : List Nat} {s4 s5 : cs_S} {s : mo_S} (hk : k < S) (hd : d ≤ D) (hf : L (7 * k + d) = false) (hL : ab_cnt L 3248 < 2200) (hN : N + 1 ≤ 1000000000000) (H : ab_J2 D S T m n N p A B L W F s4 s5 s) :
    ∃ s5' s' W' F' A' B', f_X1_queueForRebuild s4 s5 (nI k) (nI d) = some s5' ∧ f_X9_queue s (nI d) 0 (if d = D then 1 else 0) (nI k) (ab_dl p B k) (-1) = some s' ∧ rf_F s s' ∧ ab_J2 D S T m n (N + 1) p A' B' (ab_L L (7 * k + d) true) W' F' s4 s5' s' ∧ A'.1 = A.1 ∧ B'.1 = B.1 ∧ B'.2.2.2 = B.2.2.2 ∧ (∀ q, q ≠ 6 * d → B'.2.1 q = B.2.1 q) ∧ (∃ x, x.1 = 7 * k + d ∧ B'.2.1 (6 * d) = B.2.1 (6 * d) ++ [x]) := by
  obtain ⟨hP, hp, hs, hC, hR, hB, hF, hE⟩ := H
  obtain ⟨B1, B2, B3, B4, B5, B6, B7, B8, B9, B10⟩ := hB
  have hm := B6.1
  have dlE : ab_dl p B k = ab_dl p A k := by
    unfold ab_dl
    rw [hE.2 0 0 10 (by omega) (by omega), hE.2 0 0 9 (by omega) (by omega)]
  generalize hcc : 7 * k + d = c at hf ⊢
  have c7 : c / 7 = k := by omega
  have cm : c % 7 = d := by omega
  have c4 : c < 448 := by omega
  have nl : ¬ ab_live B c := fun h => by
    rw [(B2 c).mpr h] at hf
    cases hf
  have ten : ab_ten B c = nI 0 := by
    unfold ab_ten
    rw [if_pos c4]
    rfl
  have knd : ab_kind D B c = if d = D then 1 else 0 := by
    unfold ab_kind
    rw [if_pos c4, cm]
  have stp : ab_stripe B c = nI k := by
    unfold ab_stripe
    rw [if_pos c4, c7]
  have req : ab_req c = -1 := by
    unfold ab_req
    rw [if_pos c4]
  have pdv : ab_pd B c = B := by
    unfold ab_pd
    rw [if_pos c4]
  have hT : 0 < T := hp.2.2.2.2.2.2.2.1
  have nA : A.1 0 0 0 = nI n := by rw [← hE.2 0 0 0 (by omega) (by omega)]; exact B6.2.2.2
  cases F with
  | nil =>
    rw [List.length_nil] at hF
    omega
  | cons o F =>
    obtain ⟨s', e1, e2, e3⟩ := ab_R_app (p := p) (d := d) (t := 0) (c := c) (due := ab_dl p B k) B6.2.2.2 (by omega) (by omega) (fun w _ => by rw [hs]) (hp.w hT) B1 nl (.inl c4) ten hR
    rw [knd, stp, req] at e1
    rw [pdv] at e3
    have hq6 : (6 * d + 0) % 6 = 0 := by omega
    have sh := hP.2.2.2.2.2.2.2.2 0 (by omega)
    have UA : ab_U A := ab_U_2 hE.1.symm B1
    obtain ⟨s5', f1, f2⟩ := ab_C_app (S := S) (A := A) (s4 := s4) (s := s5) (p := p) (q := 6 * d + 0) (c := c) (n := n) (due := ab_dl p B k) nA B6.2.2.1 (by omega) (by omega) UA (fun q' a h1 h2 e => nl (.inl ⟨q', h1, a, by rw [hE.1]; exact h2, e⟩)) (by rw [hq6]; exact sh.1) (by rw [hq6]; exact sh.2.1) (by rw [hq6]; exact sh.2.2) (by rw [hq6]; exact hp.w hT) hC
    rw [hq6] at f2
    have b := ab_B_app (p := p) (due := ab_dl p B k) hd hT cm (hp.w hT) hf (.inl ⟨c4, by omega⟩) ten hN (by omega) ⟨B1, B2, B3, B4, B5, B6, B7, B8, B9, B10⟩
    rw [pdv] at b
    obtain ⟨x, x1, x2, x3⟩ := ab_app_2 p B (6 * d + 0) 0 c (ab_dl p B k)
    refine ⟨s5', s', _, F, _, _, ?_, e1, e2, ⟨hP, hp, by rw [e2.2.2.1 0 (by decide)]; exact hs, f2, e3, b, ?_, ?_, hE.2⟩, rfl, rfl, rfl, fun q hq => by rw [x2, if_neg (by omega)], x, x1, by rw [x2, if_pos (by omega)]; rfl⟩
    · unfold f_X1_queueForRebuild
      rw [dlE] at f1
      simp only [rebuildOperation_w, hcc, hP.2.1, ab_dl_C hp k hC, show f_X3_numberOf (nI d) 0 = some (nI (6 * d + 0)) from numberOf_w d 0, f1]
    · rw [ab_cnt_up hf, if_pos (by omega)]
      rw [List.length_cons] at hF
      omega
    · unfold ab_app
      simp only []
      rw [hE.1, nA, B6.2.2.2]
/-- hold -/
theorem ab_J2_hold {D S T m n N d k : Nat} {p : Nat → Int32} {A B : ab_S} {L : Nat → Bool} {W : Nat → Nat} {F : List Nat} {s4 s5 : cs_S} {s : mo_S} (hk : k < S) (hd : d < D) (h : B.1 3 d k ≠ 1) (H : ab_J2 D S T m n N p A B L W F s4 s5 s) :
    ∃ s5' s', f_X4_hold s5 (nI d) (nI k) = some s5' ∧ f_X9_setHeld s (nI d) (nI k) 1 = some s' ∧ rf_F s s' ∧ ab_J2 D S T m n N p (ab_v A 3 d k 1) (ab_v B 3 d k 1) L W F s4 s5' s' := by
  obtain ⟨hP, hp, hs, hC, hR, hB, hF, hE⟩ := H
  have hD := hp.2.2.2.2.1
  have hS := hp.2.2.2.2.2.2.1
  obtain ⟨s5', e1, e2⟩ := ab_C_hold (S := S) (d := d) (k := k) (A := A) (by omega) hk hS (by rw [← hE.2 3 d k (by omega) (by omega)]; exact h) hC
  obtain ⟨s', c1, F1, n1, t1, q1⟩ := rf_us s 1 (eb_3 (i := d) (w := k) (by omega) (by omega))
  refine ⟨s5', s', e1, by rw [setHeld_w s (by omega) (by omega), c1], F1, hP, hp, by rw [F1.2.2.1 0 (by decide)]; exact hs, e2, ab_R_3 n1 t1 q1 hR, ab_B_v (A := B) rfl (by rw [ab_v_1, if_neg (by omega)]) (by rw [ab_v_1, if_neg (by omega)]) (fun r w _ => by rw [ab_v_1, if_neg (by omega)]) (fun d w _ => by rw [ab_v_1, if_neg (by omega)]) hB, hF, hE.v 3 d k 1⟩
/-- forget -/
theorem ab_J2_forget {D S T m n N d k : Nat} {p : Nat → Int32} {A B : ab_S} {L : Nat → Bool} {W : Nat → Nat} {F : List Nat} {s4 s5 : cs_S} {s : mo_S} (hk : k < S) (hd : d < D) (h : B.1 3 d k = 1) (H : ab_J2 D S T m n N p A B L W F s4 s5 s) :
    ∃ s5' s', f_X4_forget s5 (nI d) (nI k) = some s5' ∧ f_X9_setHeld s (nI d) (nI k) 0 = some s' ∧ rf_F s s' ∧ ab_J2 D S T m n N p (ab_v A 3 d k 0) (ab_v B 3 d k 0) L W F s4 s5' s' := by
  obtain ⟨hP, hp, hs, hC, hR, hB, hF, hE⟩ := H
  have hD := hp.2.2.2.2.1
  have hS := hp.2.2.2.2.2.2.1
  obtain ⟨s5', e1, e2⟩ := ab_C_forget (S := S) (d := d) (k := k) (A := A) (by omega) hk hS (by rw [← hE.2 3 d k (by omega) (by omega)]; exact h) hC
  obtain ⟨s', c1, F1, n1, t1, q1⟩ := rf_us s 0 (eb_3 (i := d) (w := k) (by omega) (by omega))
  refine ⟨s5', s', e1, by rw [setHeld_w s (by omega) (by omega), c1], F1, hP, hp, by rw [F1.2.2.1 0 (by decide)]; exact hs, e2, ab_R_3 n1 t1 q1 hR, ab_B_v (A := B) rfl (by rw [ab_v_1, if_neg (by omega)]) (by rw [ab_v_1, if_neg (by omega)]) (fun r w _ => by rw [ab_v_1, if_neg (by omega)]) (fun d w _ => by rw [ab_v_1, if_neg (by omega)]) hB, hF, hE.v 3 d k 0⟩
/-- numbers among the scalars -/
theorem ab_J2_0 {D S T m n N w : Nat} {p : Nat → Int32} {A B : ab_S} {L : Nat → Bool} {W : Nat → Nat} {F : List Nat} {s4 s5 : cs_S} {s s' : mo_S} {x : Int32} (hw : w = 1 ∨ w = 4 ∨ w = 5 ∨ w = 6 ∨ w = 7 ∨ w = 9 ∨ w = 10) (hs' : us s 0 0 w x = s') (H : ab_J2 D S T m n N p A B L W F s4 s5 s) :
    rf_F s s' ∧ ab_J2 D S T m n N p (ab_v A 0 0 w x) (ab_v B 0 0 w x) L W F s4 (cs_i s5 (ab_w0 w).1 (ab_w0 w).2 x) s' := by
  obtain ⟨hP, hp, hs, hC, hR, hB, hF, hE⟩ := H
  obtain ⟨s1, c1, F1, n1, t1, q1⟩ := rf_us s x (eb_0 (w := w) (by omega))
  rw [hs'] at c1
  subst c1
  refine ⟨F1, hP, hp, by rw [F1.2.2.1 0 (by decide)]; exact hs, ab_C_0 (by omega) hC, ab_R_0 (by omega) (by omega) n1 t1 q1 hR, ab_B_v (A := B) rfl (by rw [ab_v_1, if_neg (by omega)]) (by rw [ab_v_1, if_neg (by omega)]) (fun r w _ => by rw [ab_v_1, if_neg (by omega)]) (fun d w _ => by rw [ab_v_1, if_neg (by omega)]) hB, hF, hE.v 0 0 w x⟩
/-- a stripe goes over to writing -/
theorem ab_J2_st2 {D S T m n N k : Nat} {p : Nat → Int32} {A B : ab_S} {L : Nat → Bool} {W : Nat → Nat} {F : List Nat} {s4 s5 : cs_S} {s s' : mo_S} (hk : k < S) (h0 : B.1 4 k 0 = 1) (hs' : us s 4 k 0 2 = s') (H : ab_J2 D S T m n N p A B L W F s4 s5 s) :
    rf_F s s' ∧ ab_J2 D S T m n N p (ab_v A 4 k 0 2) (ab_v B 4 k 0 2) L W F s4 (cs_a s5 32 (nI k) 2) s' := by
  obtain ⟨hP, hp, hs, hC, hR, hB, hF, hE⟩ := H
  have hS := hp.2.2.2.2.2.2.1
  obtain ⟨s1, c1, F1, n1, t1, q1⟩ := rf_us s 2 (eb_4 (i := k) (by omega))
  rw [hs'] at c1
  subst c1
  refine ⟨F1, hP, hp, by rw [F1.2.2.1 0 (by decide)]; exact hs, ab_C_st2 hk hS (by rw [← hE.2 4 k 0 (by omega) (by omega)]; exact h0) hC, ab_R_4 n1 t1 q1 hR, ab_B_v (A := B) rfl (by rw [ab_v_1, if_neg (by omega)]) (by rw [ab_v_1, if_neg (by omega)]) (fun r w _ => by rw [ab_v_1, if_neg (by omega)]) (fun d w _ => by rw [ab_v_1, if_neg (by omega)]) hB, hF, hE.v 4 k 0 2⟩
/-- a stripe begins to be collected -/
theorem ab_J2_st1 {D S T m n N k : Nat} {p : Nat → Int32} {A B : ab_S} {L : Nat → Bool} {W : Nat → Nat} {F : List Nat} {s4 s5 : cs_S} {s s' : mo_S} (hk : k < S) (h0 : B.1 4 k 0 = 0) (hs' : us s 4 k 0 1 = s') (H : ab_J2 D S T m n N p A B L W F s4 s5 s) :
    ∃ s5', f_X4_collect s5 (nI k) = some s5' ∧ rf_F s s' ∧ ab_J2 D S T m n N p (ab_v A 4 k 0 1) (ab_v B 4 k 0 1) L W F s4 s5' s' := by
  obtain ⟨hP, hp, hs, hC, hR, hB, hF, hE⟩ := H
  have hS := hp.2.2.2.2.2.2.1
  obtain ⟨s1, c1, F1, n1, t1, q1⟩ := rf_us s 1 (eb_4 (i := k) (by omega))
  rw [hs'] at c1
  subst c1
  obtain ⟨s5', e1, e2⟩ := ab_C_collect hk hS (show A.1 4 k 0 = 0 by rw [← hE.2 4 k 0 (by omega) (by omega)]; exact h0) hC
  refine ⟨s5', e1, F1, hP, hp, by rw [F1.2.2.1 0 (by decide)]; exact hs, e2, ab_R_4 n1 t1 q1 hR, ab_B_v (A := B) rfl (by rw [ab_v_1, if_neg (by omega)]) (by rw [ab_v_1, if_neg (by omega)]) (fun r w _ => by rw [ab_v_1, if_neg (by omega)]) (fun d w _ => by rw [ab_v_1, if_neg (by omega)]) hB, hF, hE.v 4 k 0 1⟩
