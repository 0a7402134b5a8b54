/-! Both programs at one state of the model; append in both at once. -/
/-- the plan's numbers -/
def ab_pl (p : Nat → Int32) (D S T : Nat) : Prop :=
  p 0 = nI D ∧ p 1 = nI S ∧ p 6 = nI T ∧ 3 ≤ D ∧ D ≤ 6 ∧ 1 ≤ S ∧ S ≤ 64 ∧ 1 ≤ T ∧ T ≤ 6 ∧
  (∃ b, 1 ≤ b ∧ b ≤ 50 ∧ p 2 = nI b) ∧ (∃ k, k ≤ 99 ∧ p 3 = nI k) ∧ (∃ k, 1 ≤ k ∧ k ≤ 8 ∧ p 4 = nI k) ∧ (∃ k, k ≤ 64 ∧ p 5 = nI k) ∧ (∃ k, k ≤ 500 ∧ p 7 = nI k) ∧
  (∀ t, t < T → (∃ r, r ≤ 1000 ∧ p (8 + 3 * t) = nI r) ∧ (∃ w, 1 ≤ w ∧ w ≤ 100 ∧ p (8 + 3 * t + 1) = nI w) ∧ (∃ l, l ≤ 1000 ∧ p (8 + 3 * t + 2) = nI l))
theorem ab_pl.w {p : Nat → Int32} {D S T t : Nat} (h : ab_pl p D S T) (ht : t < T) : ¬ p (8 + 3 * t + 1) ≤ 0 := by
  obtain ⟨w, h1, h2, h3⟩ := (h.2.2.2.2.2.2.2.2.2.2.2.2.2.2 t ht).2.1
  rw [h3]
  intro k
  have := (nI_leI (b := 0) (by omega) (by decide)).mp k
  omega
theorem ab_pl.r {p : Nat → Int32} {D S T t : Nat} (h : ab_pl p D S T) (ht : t < T) : ¬ p (8 + 3 * t) < 0 := by
  obtain ⟨w, h1, h3⟩ := (h.2.2.2.2.2.2.2.2.2.2.2.2.2.2 t ht).1
  rw [h3]
  exact nI_pos (by omega)
/-- both at A -/
def ab_J (D S T m n N : Nat) (p : Nat → Int32) (A : ab_S) (L : Nat → Bool) (W : Nat → Nat) (F : List Nat) (s4 s5 : cs_S) (s : mo_S) : Prop :=
  ab_P p s4 ∧ ab_pl p D S T ∧ s.2.2.1 0 = p ∧ ab_C S A s5 ∧ ab_R D A s W F ∧ ab_B D S T m n N A L ∧ F.length + ab_cnt L 3248 = 2200
theorem requestOperation_w (r d : Nat) : f_X3_requestOperation (nI r) (nI d) = some (nI (7 * (64 + r) + d)) := by
  unfold f_X3_requestOperation
  rw [show (64 : Int32) + nI r = nI (64 + r) from nI_add 64 r, show nI (64 + r) * 7 = nI ((64 + r) * 7) from nI_mul _ 7, nI_add, Nat.mul_comm]
theorem rebuildOperation_w (k d : Nat) : f_X3_rebuildOperation (nI k) (nI d) = some (nI (7 * k + d)) := by
  unfold f_X3_rebuildOperation
  rw [show nI k * 7 = nI (k * 7) from nI_mul _ 7, nI_add, Nat.mul_comm]
/-- an operation of a request is queued -/
theorem ab_J_qf {D S T m n N d r t : Nat} {p : Nat → Int32} {A : ab_S} {L : Nat → Bool} {W : Nat → Nat} {F : List Nat} {s4 s5 : cs_S} {s : mo_S} (hr : r < m) (hd : d ≤ D) (ht : A.1 5 r 0 = nI t) (ht' : t < T) (hf : L (7 * (64 + r) + d) = false) (hL : ab_cnt L 3248 < 2200) (hN : N + 1 ≤ 1000000000000) (H : ab_J D S T m n N p A L W F s4 s5 s) :
    ∃ s5' s' W' F', f_X1_queueFor s4 s5 (nI r) (nI d) = some s5' ∧ f_X9_queue s (nI d) (A.1 5 r 0) (A.1 5 r 6) (A.1 5 r 5) (A.1 5 r 2) (nI r) = some s' ∧ rf_F s s' ∧ ab_J D S T m n (N + 1) p (ab_app p (ab_pd A (7 * (64 + r) + d)) (6 * d + t) t (7 * (64 + r) + d) (A.1 5 r 2)) (ab_L L (7 * (64 + r) + d) true) W' F' s4 s5' s' := by
  obtain ⟨hP, hp, hs, hC, hR, hB, hF⟩ := H
  obtain ⟨B1, B2, B3, B4, B5, B6, B7, B8, B9, B10⟩ := hB
  have hm := B6.1
  generalize hcc : 7 * (64 + r) + d = c at hf ⊢
  have c7 : c / 7 = 64 + r := by omega
  have cm : c % 7 = d := by omega
  have cr : c / 7 - 64 = r := by omega
  have c4 : ¬ c < 448 := by omega
  have hcnt : nI r < A.1 0 0 2 := by
    rw [B6.2.1]
    exact (nI_ltI (by omega) (by omega)).mpr hr
  have nl : ¬ ab_live A c := fun h => by
    rw [(B2 c).mpr h] at hf
    cases hf
  have ten : ab_ten A c = nI t := by
    unfold ab_ten
    rw [if_neg c4, cr, ht]
  have knd : ab_kind D A c = A.1 5 r 6 := by
    unfold ab_kind
    rw [if_neg c4, cr]
  have stp : ab_stripe A c = A.1 5 r 5 := by
    unfold ab_stripe
    rw [if_neg c4, cr]
  have req : ab_req c = nI r := by
    unfold ab_req
    rw [if_neg c4, cr]
  cases F with
  | nil =>
    rw [List.length_nil] at hF
    omega
  | cons o F =>
    obtain ⟨s', e1, e2, e3⟩ := ab_R_app (p := p) (d := d) (t := t) (c := c) (due := A.1 5 r 2) B6.2.2.2 (by omega) (by omega) (fun w _ => by rw [hs]) (hp.w ht') B1 nl (.inr ⟨by omega, by omega, by rw [cr]; exact hcnt⟩) ten hR
    rw [knd, stp, req, ← ht] at e1
    have pdv : ab_pd A c = ab_v A 5 r 3 (A.1 5 r 3 + 1) := by
      unfold ab_pd
      rw [if_neg c4, cr]
    have Cr := hC.2.2.2.2.2.1 r (by omega) hcnt
    have C1 : ab_C S (ab_pd A c) (cs_a s5 26 (nI r) (A.1 5 r 3 + 1)) := by
      rw [pdv]
      exact ab_C_5 (w := 3) (by omega) (by decide) hC
    have hq6 : (6 * d + t) % 6 = t := by omega
    have sh := hP.2.2.2.2.2.2.2.2 t (by omega)
    obtain ⟨s5', f1, f2⟩ := ab_C_app (S := S) (A := ab_pd A c) (s4 := s4) (s := cs_a s5 26 (nI r) (A.1 5 r 3 + 1)) (p := p) (q := 6 * d + t) (c := c) (n := n) (due := A.1 5 r 2) (by rw [ab_pd_1 _ _ _ _ _ (by omega)]; exact B6.2.2.2) B6.2.2.1 (by omega) (by omega) (ab_U_2 (ab_pd_2 A c) B1) (fun q' a h1 h2 e => nl (.inl ⟨q', h1, a, by rw [ab_pd_2] at h2; exact h2, e⟩)) (by rw [hq6]; exact sh.1) (by rw [hq6]; exact sh.2.1) (by rw [hq6]; exact sh.2.2) (by rw [hq6]; exact hp.w ht') C1
    rw [hq6] at f2
    refine ⟨s5', s', _, F, ?_, e1, e2, hP, hp, by rw [e2.2.2.1 0 (by decide)]; exact hs, f2, e3, ab_B_app hd ht' cm (hp.w ht') hf (.inr ⟨by omega, by omega⟩) ten hN (by omega) ⟨B1, B2, B3, B4, B5, B6, B7, B8, B9, B10⟩, ?_⟩
    · have k20 : (cs_a s5 26 (nI r) (A.1 5 r 3 + 1)).2.1 20 r = nI t := by
        rw [ca_2 (by omega), if_neg (by omega), Cr.1, ht]
      have k23 : (cs_a s5 26 (nI r) (A.1 5 r 3 + 1)).2.1 23 r = A.1 5 r 2 := by
        rw [ca_2 (by omega), if_neg (by omega), Cr.2.2.1]
      unfold f_X1_queueFor
      simp (disch := omega) only [nb_nI, nI_clamp, Cr.2.2.2.1, k20, k23, numberOf_w, requestOperation_w, hcc, f1]
    · rw [ab_cnt_up hf, if_pos (by omega)]
      rw [List.length_cons] at hF
      omega
/-- a stripe's deadline -/
def ab_dl (p : Nat → Int32) (A : ab_S) (k : Nat) : Int32 := if A.1 0 0 10 = -1 then -1 else A.1 0 0 9 + (A.1 0 0 10 - A.1 0 0 9) * (nI k + 1) / p 1
theorem ab_dl_C {S : Nat} {p : Nat → Int32} {A : ab_S} {s5 : cs_S} {D T : Nat} (hp : ab_pl p D S T) (k : Nat) (H : ab_C S A s5) : f_X4_deadlineOf s5 (nI k) (p 1) = some (ab_dl p A k) := by
  have h9 := H.1.2.2.2.2.2.2.2.2.1
  have h10 := H.1.2.2.2.2.2.2.2.2.2
  have hS : 0 < p 1 := by
    rw [hp.2.1]
    exact (nI_ltI (a := 0) (by decide) (by have := hp.2.2.2.2.2.2.1; omega)).mpr (by have := hp.2.2.2.2.2.1; omega)
  have hS' : ¬ p 1 = 0 := fun e => by
    rw [e] at hS
    exact absurd hS (by decide)
  unfold f_X4_deadlineOf ab_dl
  rw [h9, h10, if_pos hS, if_neg hS']
  split <;> rfl
theorem ab_dl_R {p : Nat → Int32} {A : ab_S} {s : mo_S} {D S T : Nat} {W : Nat → Nat} {F : List Nat} (hp : ab_pl p D S T) (hs : s.2.2.1 0 = p) (k : Nat) (H : ab_R D A s W F) : f_X9_deadlineOf s (nI k) = some (ab_dl p A k) := by
  have h9 : s.2.2.1 3 9 = A.1 0 0 9 := H.2.1
  have h10 : s.2.2.1 3 10 = A.1 0 0 10 := H.2.2.1
  have hS' : ¬ p 1 = 0 := by
    rw [hp.2.1]
    exact nI_ne0 (by have := hp.2.2.2.2.2.1; omega) (by have := hp.2.2.2.2.2.2.1; omega)
  unfold f_X9_deadlineOf ab_dl
  simp only [nb_10_18186, nb_9_18186, nb_1_26, tc_10, tc_9, tc_1, h9, h10, hs, if_neg hS']
  split <;> rfl
/-- an operation of the rebuild is queued -/
theorem ab_J_qr {D S T m n N d k : Nat} {p : Nat → Int32} {A : ab_S} {L : Nat → Bool} {W : Nat → Nat} {F : List Nat} {s4 s5 : cs_S} {s : mo_S} (hk : k < S) (hd : d ≤ D) (hf : L (7 * k + d) = false) (hL : ab_cnt L 3248 < 2200) (hN : N + 1 ≤ 1000000000000) (H : ab_J D S T m n N p A L W F s4 s5 s) :
    ∃ s5' s' W' F', f_X1_queueForRebuild s4 s5 (nI k) (nI d) = some s5' ∧ f_X9_queue s (nI d) 0 (if d = D then 1 else 0) (nI k) (ab_dl p A k) (-1) = some s' ∧ rf_F s s' ∧ ab_J D S T m n (N + 1) p (ab_app p A (6 * d) 0 (7 * k + d) (ab_dl p A k)) (ab_L L (7 * k + d) true) W' F' s4 s5' s' := by
  obtain ⟨hP, hp, hs, hC, hR, hB, hF⟩ := H
  obtain ⟨B1, B2, B3, B4, B5, B6, B7, B8, B9, B10⟩ := hB
  have hm := B6.1
  generalize hcc : 7 * k + d = c at hf ⊢
  have c7 : c / 7 = k := by omega
  have cm : c % 7 = d := by omega
  have c4 : c < 448 := by omega
  have nl : ¬ ab_live A c := fun h => by
    rw [(B2 c).mpr h] at hf
    cases hf
  have ten : ab_ten A c = nI 0 := by
    unfold ab_ten
    rw [if_pos c4]
    rfl
  have knd : ab_kind D A c = if d = D then 1 else 0 := by
    unfold ab_kind
    rw [if_pos c4, cm]
  have stp : ab_stripe A c = nI k := by
    unfold ab_stripe
    rw [if_pos c4, c7]
  have req : ab_req c = -1 := by
    unfold ab_req
    rw [if_pos c4]
  have pdv : ab_pd A c = A := by
    unfold ab_pd
    rw [if_pos c4]
  have hT : 0 < T := hp.2.2.2.2.2.2.2.1
  cases F with
  | nil =>
    rw [List.length_nil] at hF
    omega
  | cons o F =>
    obtain ⟨s', e1, e2, e3⟩ := ab_R_app (p := p) (d := d) (t := 0) (c := c) (due := ab_dl p A k) B6.2.2.2 (by omega) (by omega) (fun w _ => by rw [hs]) (hp.w hT) B1 nl (.inl c4) ten hR
    rw [knd, stp, req] at e1
    rw [pdv] at e3
    have hq6 : (6 * d + 0) % 6 = 0 := by omega
    have sh := hP.2.2.2.2.2.2.2.2 0 (by omega)
    obtain ⟨s5', f1, f2⟩ := ab_C_app (S := S) (A := A) (s4 := s4) (s := s5) (p := p) (q := 6 * d + 0) (c := c) (n := n) (due := ab_dl p A k) B6.2.2.2 B6.2.2.1 (by omega) (by omega) B1 (fun q' a h1 h2 e => nl (.inl ⟨q', h1, a, h2, e⟩)) (by rw [hq6]; exact sh.1) (by rw [hq6]; exact sh.2.1) (by rw [hq6]; exact sh.2.2) (by rw [hq6]; exact hp.w hT) hC
    rw [hq6] at f2
    have b := ab_B_app (p := p) (due := ab_dl p A k) hd hT cm (hp.w hT) hf (.inl ⟨c4, by omega⟩) ten hN (by omega) ⟨B1, B2, B3, B4, B5, B6, B7, B8, B9, B10⟩
    rw [pdv] at b
    refine ⟨s5', s', _, F, ?_, e1, e2, hP, hp, by rw [e2.2.2.1 0 (by decide)]; exact hs, f2, e3, b, ?_⟩
    · unfold f_X1_queueForRebuild
      simp only [rebuildOperation_w, hcc, hP.2.1, ab_dl_C hp k hC, show f_X3_numberOf (nI d) 0 = some (nI (6 * d + 0)) from numberOf_w d 0, f1]
    · rw [ab_cnt_up hf, if_pos (by omega)]
      rw [List.length_cons] at hF
      omega
