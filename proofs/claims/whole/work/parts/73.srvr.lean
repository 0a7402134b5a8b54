/-! Frames of the reference's side; serving there. -/
theorem rf_us (s : mo_S) {g i w : Nat} (v : Int32) (h : eb g i w = true) : ∃ s', us s g i w v = s' ∧ rf_F s s' ∧ (∀ g' i' w', vn s' g' i' w' = if g' = g ∧ i' = i ∧ w' = w then v else vn s g' i' w') ∧ (∀ o w, vt s' o w = vt s o w) ∧ (∀ o w, vq s' o w = vq s o w) :=
  ⟨_, rfl, ⟨rfl, rfl, fun _ hp => us_3 s g i w v hp, fun _ _ => rfl⟩, vn_us h, fun _ _ => rfl, fun _ _ => rfl⟩
theorem eb_1 {i w : Nat} (h : i < 7) (h' : w < 4) : eb 1 i w = true := decide_eq_true ⟨h, h'⟩
theorem eb_3 {i w : Nat} (h : i < 6) (h' : w < 64) : eb 3 i w = true := decide_eq_true ⟨h, h'⟩
theorem eb_4 {i : Nat} (h : i < 64) : eb 4 i 0 = true := decide_eq_true ⟨h, rfl⟩
theorem eb_5 {i w : Nat} (h : i < 400) (h' : w < 5) : eb 5 i w = true := decide_eq_true ⟨h, h'⟩
theorem eb_6 {i w : Nat} (h : i < 6) (h' : w < 7) : eb 6 i w = true := decide_eq_true ⟨h, h'⟩
theorem eb_0 {w : Nat} (h' : w < 16) : eb 0 0 w = true := decide_eq_true ⟨rfl, h'⟩
theorem ab_Rq_fr {A A' : ab_S} {s s' : mo_S} {W : Nat → Nat} {q : Nat} (h1 : A'.2.1 q = A.2.1 q) (hT : ∀ w, A'.2.2.1 q w = A.2.2.1 q w) (h2 : ∀ i w, vn s' 2 i w = vn s 2 i w) (h7 : ∀ i w, vn s' 7 i w = vn s 7 i w) (ht : ∀ i w, vt s' i w = vt s i w) (hq : ∀ i w, vq s' i w = vq s i w) (H : ab_Rq A s W q) : ab_Rq A' s' W q := by
  unfold ab_Rq at H ⊢
  have : (fun o => vn s' 7 o 5) = (fun o => vn s 7 o 5) := funext fun o => h7 o 5
  simp only [h1, hT, h2, h7, ht, hq]
  exact H
/-- what keeps the queues, the operations and the free ones -/
theorem ab_R_fr {D : Nat} {A A' : ab_S} {s s' : mo_S} {W : Nat → Nat} {F : List Nat} (H : ab_R D A s W F) (hA : A'.2.1 = A.2.1) (hT : A'.2.2.1 = A.2.2.1) (h8 : vn s' 0 0 8 = vn s 0 0 8) (h2 : ∀ i w, vn s' 2 i w = vn s 2 i w) (h7 : ∀ i w, vn s' 7 i w = vn s 7 i w) (ht : ∀ i w, vt s' i w = vt s i w) (hq : ∀ i w, vq s' i w = vq s i w)
    (h0 : ∀ w, w < 8 ∨ w = 9 ∨ w = 10 → vn s' 0 0 w = A'.1 0 0 w) (h1 : ∀ d, d < 7 → (A'.1 1 d 7 = 0 → vn s' 1 d 0 = (match A'.2.2.2 d with | none => -1 | some c => nI (W c)) ∧ vn s' 1 d 1 = A'.1 1 d 1 ∧ vn s' 1 d 2 = A'.1 1 d 2 ∧ vn s' 1 d 3 = A'.1 1 d 3) ∧ vn s' 1 d 2 = A'.1 1 d 2 ∧ vn s' 1 d 3 = A'.1 1 d 3) (h3 : ∀ d k, d < 6 → k < 64 → vn s' 3 d k = A'.1 3 d k) (h4 : ∀ k, k < 64 → vn s' 4 k 0 = A'.1 4 k 0) (h5 : ∀ r w : Nat, r < 400 → nI r < A'.1 0 0 2 → w < 5 → vn s' 5 r w = A'.1 5 r w) (h6 : ∀ t w, t < 6 → w < 7 → vn s' 6 t w = A'.1 6 t w)
    (hl : ∀ c, ab_live A' c → ab_Ro D A' s' W c) (hi : ∀ c c', ab_live A' c → ab_live A' c' → W c = W c' → c = c') (hf : ∀ c, ab_live A' c → ¬ W c ∈ F) : ab_R D A' s' W F := by
  obtain ⟨R1, R2, R3, R4, R5, R6, R7, R8, R9, R10, R11, R12, R13, R14⟩ := H
  refine ⟨fun w hw => h0 w (.inl hw), h0 9 (by omega), h0 10 (by omega), fun q hq' => ab_Rq_fr (by rw [hA]) (fun w => by rw [hT]) h2 h7 ht hq (R4 q hq'), h1, h3, h4, h5, h6, hl, hi, ?_, R13, hf⟩
  rw [h8, show (fun o => vn s' 7 o 5) = (fun o => vn s 7 o 5) from funext fun o => h7 o 5]
  exact R12
/-- what changes numbers alone -/
theorem ab_R_v {D : Nat} {A A' : ab_S} {s s' : mo_S} {W : Nat → Nat} {F : List Nat} (H : ab_R D A s W F) (hA : A'.2 = A.2) (h8 : vn s' 0 0 8 = vn s 0 0 8) (h2 : ∀ i w, vn s' 2 i w = vn s 2 i w) (h7 : ∀ i w, vn s' 7 i w = vn s 7 i w) (ht : ∀ i w, vt s' i w = vt s i w) (hq : ∀ i w, vq s' i w = vq s i w)
    (h0 : ∀ w, w < 8 ∨ w = 9 ∨ w = 10 → vn s' 0 0 w = A'.1 0 0 w) (h1 : ∀ d w, vn s' 1 d w = vn s 1 d w) (h1' : ∀ d w, A'.1 1 d w = A.1 1 d w) (h3 : ∀ d k, d < 6 → k < 64 → vn s' 3 d k = A'.1 3 d k) (h4 : ∀ k, k < 64 → vn s' 4 k 0 = A'.1 4 k 0) (h5 : ∀ r w : Nat, r < 400 → nI r < A'.1 0 0 2 → w < 5 → vn s' 5 r w = A'.1 5 r w) (h6 : ∀ t w, t < 6 → w < 7 → vn s' 6 t w = A'.1 6 t w)
    (hl : ∀ c, ab_live A c → ab_ten A' c = ab_ten A c ∧ ab_kind D A' c = ab_kind D A c ∧ ab_stripe A' c = ab_stripe A c) : ab_R D A' s' W F := by
  have lv : ∀ c, ab_live A' c → ab_live A c := by
    unfold ab_live
    rw [hA]
    exact fun _ h => h
  refine ab_R_fr H (by rw [hA]) (by rw [hA]) h8 h2 h7 ht hq h0 ?_ h3 h4 h5 h6 ?_ (fun c c' h h' => H.2.2.2.2.2.2.2.2.2.2.1 c c' (lv c h) (lv c' h')) (fun c h => H.2.2.2.2.2.2.2.2.2.2.2.2.2 c (lv c h))
  · intro d hd
    have := H.2.2.2.2.1 d hd
    rw [hA, h1, h1, h1, h1, h1', h1', h1', h1']
    exact this
  · intro c h
    have := H.2.2.2.2.2.2.2.2.2.1 c (lv c h)
    obtain ⟨a, b, e⟩ := hl c (lv c h)
    unfold ab_Ro at this ⊢
    rw [h7, h7, h7, h7, a, b, e]
    exact this
/-- the reference's serve, but for giveBack -/
theorem rf_serve (s : mo_S) {d t way : Nat} (o st tk : Int32) (hd : d < 7) (ht : t < 6) (hw : way < 3) : ∃ s1 s2 s3 s4 s', f_X9_setDisk s (nI d) 0 o = some s1 ∧ f_X9_setDisk s1 (nI d) 1 (s1.2.2.1 3 0 + tk) = some s2 ∧ f_X9_setDisk s2 (nI d) 2 st = some s3 ∧ f_X9_ofDisk s3 (nI d) 3 = some (vn s 1 d 3) ∧ f_X9_setDisk s3 (nI d) 3 (vn s 1 d 3 + tk) = some s4 ∧ f_X9_addStatistic s4 (nI t) (4 + nI way) 1 = some s' ∧ rf_F s s' ∧ (∀ g i w, vn s' g i w = if g = 6 ∧ i = t ∧ w = 4 + way then vn s 6 t (4 + way) + 1 else if g = 1 ∧ i = d ∧ w = 3 then vn s 1 d 3 + tk else if g = 1 ∧ i = d ∧ w = 2 then st else if g = 1 ∧ i = d ∧ w = 1 then vn s 0 0 0 + tk else if g = 1 ∧ i = d ∧ w = 0 then o else vn s g i w) ∧ (∀ o w, vt s' o w = vt s o w) ∧ (∀ o w, vq s' o w = vq s o w) := by
  obtain ⟨s1, c1, F1, n1, t1, q1⟩ := rf_us s o (eb_1 (w := 0) hd (by decide))
  obtain ⟨s2, c2, F2, n2, t2, q2⟩ := rf_us s1 (s1.2.2.1 3 0 + tk) (eb_1 (w := 1) hd (by decide))
  obtain ⟨s3, c3, F3, n3, t3, q3⟩ := rf_us s2 st (eb_1 (w := 2) hd (by decide))
  obtain ⟨s4, c4, F4, n4, t4, q4⟩ := rf_us s3 (vn s 1 d 3 + tk) (eb_1 (w := 3) hd (by decide))
  obtain ⟨s5, c5, F5, n5, t5, q5⟩ := rf_us s4 (vn s4 6 t (4 + way) + 1) (eb_6 (w := 4 + way) ht (by omega))
  have k0 : s1.2.2.1 3 0 = vn s 0 0 0 := by
    show vn s1 0 0 0 = _
    rw [n1, if_neg (by omega)]
  rw [k0] at n2
  refine ⟨s1, s2, s3, s4, s5, ?_, ?_, ?_, ?_, ?_, ?_, (((F1.trans F2).trans F3).trans F4).trans F5, ?_, fun a b => by rw [t5, t4, t3, t2, t1], fun a b => by rw [q5, q4, q3, q2, q1]⟩
  · rw [setDisk_0 s hd, c1]
  · rw [setDisk_1 s1 hd, c2]
  · rw [setDisk_2 s2 hd, c3]
  · rw [ofDisk_3 s3 hd, n3, if_neg (by omega), n2, if_neg (by omega), n1, if_neg (by omega)]
  · rw [setDisk_3 s3 hd, c4]
  · rw [show (4 : Int32) + nI way = nI (4 + way) from nI_add 4 way, addStatistic_w s4 ht (by omega), c5]
  · intro g i w
    have k6 : vn s4 6 t (4 + way) = vn s 6 t (4 + way) := by
      rw [n4, if_neg (by omega), n3, if_neg (by omega), n2, if_neg (by omega), n1, if_neg (by omega)]
    rw [n5, k6, n4, n3, n2, n1]
theorem ab_tks {D : Nat} {A A' : ab_S} (c : Nat) (h : ∀ r w, A'.1 5 r w = A.1 5 r w) : ab_ten A' c = ab_ten A c ∧ ab_kind D A' c = ab_kind D A c ∧ ab_stripe A' c = ab_stripe A c := by
  unfold ab_ten ab_kind ab_stripe
  rw [h, h, h]
  exact ⟨rfl, rfl, rfl⟩
theorem queueOf_w (s : mo_S) (d t : Nat) : f_X9_queueOf s (nI d) (nI t) = some (nI (6 * d + t)) := by
  unfold f_X9_queueOf
  rw [show (6 : Int32) * nI d = nI (6 * d) from nI_mul 6 d, nI_add]
theorem ab_R_srv {D : Nat} {A : ab_S} {s : mo_S} {W : Nat → Nat} {F : List Nat} {p : Nat → Int32} {d t way : Nat} {a : ab_O} {l : List ab_O} (hd : d < 7) (ht : t < 6) (hw : way < 3) (hp : s.2.2.1 0 = p) (hp0 : ¬ p (8 + 3 * t) < 0) (hh : A.1 1 d 7 = 0) (hl : A.2.1 (6 * d + t) = a :: l) (hU : ab_U A) (H : ab_R D A s W F) : ∃ s', f_X9_serve s (nI d) (nI t) (nI way) = some s' ∧ rf_F s s' ∧ ab_R D (ab_srv p A d t way a l) s' W F := by
  have hq : 6 * d + t < 42 := by omega
  have ha : a ∈ A.2.1 (6 * d + t) := by rw [hl]; exact List.mem_cons_self
  have hc := hU.2.2.1 _ a hq ha
  have la : ab_live A a.1 := .inl ⟨_, hq, a, ha, rfl⟩
  obtain ⟨V1, V2, V3⟩ := ab_U_q hq hl hU
  obtain ⟨s1, e1, F1, R1, o1, n1⟩ := ab_R_pop hq hl H
  have O := H.2.2.2.2.2.2.2.2.2.1 a.1 la
  have Q := (H.2.2.2.1 _ hq).2.1
  rw [hl] at Q
  have Q0 : vn s 2 (6 * d + t) 0 = nI (W a.1) := Q.1
  have Dd := (H.2.2.2.2.1 d hd).1 hh
  obtain ⟨s2, s3, s4, s5, s6, c2, c3, c4, c5, c6, c7, F2, n2, t2, q2⟩ := rf_serve s1 (d := d) (t := t) (way := way) (nI (W a.1)) (ab_stripe A a.1) (ab_tk p (A.1 1 d 2) (ab_stripe A a.1)) hd ht hw
  have lv : ∀ y, ab_live (ab_sv p (ab_q A (6 * d + t) l) d t way a.1 (ab_stripe A a.1)) y → ab_live A y := by
    intro y h
    rcases h with ⟨q', hq', x, hx, hy⟩ | ⟨d', hd', h⟩
    · exact .inl ⟨q', hq', x, (V2 q' x hq' hx).1, hy⟩
    · rw [ab_sv_4] at h
      by_cases z : d' = d
      · rw [if_pos z] at h
        rw [← Option.some.inj h]
        exact la
      · rw [if_neg z] at h
        exact .inr ⟨d', hd', h⟩
  have v1 : ∀ g i w, ¬ (g = 1 ∧ i = d) → ¬ (g = 6 ∧ i = t) → (ab_sv p (ab_q A (6 * d + t) l) d t way a.1 (ab_stripe A a.1)).1 g i w = A.1 g i w := by
    intro g i w h1 h2
    rw [ab_sv_1, if_neg (by omega), if_neg (by omega), if_neg (by omega), if_neg (by omega)]
    rfl
  have m1 : ∀ g i w, ¬ (g = 1 ∧ i = d) → ¬ (g = 6 ∧ i = t) → vn s6 g i w = vn s1 g i w := by
    intro g i w h1 h2
    rw [n2, if_neg (by omega), if_neg (by omega), if_neg (by omega), if_neg (by omega), if_neg (by omega)]
  obtain ⟨P1, P2, P3, P4, P5, P6, P7, P8, P9, P10, P11, P12, P13, P14⟩ := R1
  have R2 : ab_R D (ab_sv p (ab_q A (6 * d + t) l) d t way a.1 (ab_stripe A a.1)) s6 W F := by
    refine ab_R_fr ⟨P1, P2, P3, P4, P5, P6, P7, P8, P9, P10, P11, P12, P13, P14⟩ rfl rfl (m1 _ _ _ (by omega) (by omega)) (fun i w => m1 _ _ _ (by omega) (by omega)) (fun i w => m1 _ _ _ (by omega) (by omega)) t2 q2 ?_ ?_ ?_ ?_ ?_ ?_ ?_ (fun c c' h h' => H.2.2.2.2.2.2.2.2.2.2.1 c c' (lv c h) (lv c' h')) (fun c h => H.2.2.2.2.2.2.2.2.2.2.2.2.2 c (lv c h))
    · intro w hw'
      rw [m1 _ _ _ (by omega) (by omega), v1 _ _ _ (by omega) (by omega)]
      rcases hw' with h | rfl | rfl
      · exact P1 w h
      · exact P2
      · exact P3
    · intro d' hd'
      by_cases z : d' = d
      · subst z
        have k3 := (P5 d' hd').2.2
        have k0 := P1 0 (by omega)
        rw [ab_sv_4, if_pos rfl]
        have four : ∀ {a b c e : Prop}, a → b → c → e → (A.1 1 d' 7 = 0 → a ∧ b ∧ c ∧ e) ∧ c ∧ e := fun ha hb hc he => ⟨fun _ => ⟨ha, hb, hc, he⟩, hc, he⟩
        rw [ab_sv_1, if_neg (by omega), if_neg (by omega), if_neg (by omega), if_neg (by omega)]
        refine four ?_ ?_ ?_ ?_
        · rw [n2, if_neg (by omega), if_neg (by omega), if_neg (by omega), if_neg (by omega), if_pos ⟨rfl, rfl, rfl⟩]
        · rw [n2, if_neg (by omega), if_neg (by omega), if_neg (by omega), if_pos ⟨rfl, rfl, rfl⟩, ab_sv_1, if_neg (by omega), if_neg (by omega), if_neg (by omega), if_pos ⟨rfl, rfl, rfl⟩, k0]
          rfl
        · rw [n2, if_neg (by omega), if_neg (by omega), if_pos ⟨rfl, rfl, rfl⟩, ab_sv_1, if_neg (by omega), if_neg (by omega), if_pos ⟨rfl, rfl, rfl⟩]
        · rw [n2, if_neg (by omega), if_pos ⟨rfl, rfl, rfl⟩, ab_sv_1, if_neg (by omega), if_pos ⟨rfl, rfl, rfl⟩, k3]
          rfl
      · have := P5 d' hd'
        rw [ab_sv_4, if_neg z, v1 1 d' 7 (by omega) (by omega), m1 _ _ _ (by omega) (by omega), m1 _ _ _ (by omega) (by omega), m1 _ _ _ (by omega) (by omega), m1 _ _ _ (by omega) (by omega), v1 _ _ _ (by omega) (by omega), v1 _ _ _ (by omega) (by omega), v1 _ _ _ (by omega) (by omega)]
        exact this
    · intro d' k h1 h2
      rw [m1 _ _ _ (by omega) (by omega), v1 _ _ _ (by omega) (by omega)]
      exact P6 d' k h1 h2
    · intro k h1
      rw [m1 _ _ _ (by omega) (by omega), v1 _ _ _ (by omega) (by omega)]
      exact P7 k h1
    · intro r w h1 h2 h3
      rw [v1 _ _ _ (by omega) (by omega)] at h2
      rw [m1 _ _ _ (by omega) (by omega), v1 _ _ _ (by omega) (by omega)]
      exact P8 r w h1 h2 h3
    · intro t' w h1 h2
      have k := P9 t' w h1 h2
      by_cases z : t' = t ∧ w = 4 + way
      · obtain ⟨rfl, rfl⟩ := z
        rw [n2, if_pos ⟨rfl, rfl, rfl⟩, ab_sv_1, if_pos ⟨rfl, rfl, rfl⟩, k]
      · rw [n2, if_neg (by omega), if_neg (by omega), if_neg (by omega), if_neg (by omega), if_neg (by omega), ab_sv_1, if_neg (by omega), if_neg (by omega), if_neg (by omega), if_neg (by omega)]
        exact k
    · intro c h
      have := H.2.2.2.2.2.2.2.2.2.1 c (lv c h)
      obtain ⟨g1, g2, g3⟩ := ab_tks (D := D) (A := A) (A' := ab_sv p (ab_q A (6 * d + t) l) d t way a.1 (ab_stripe A a.1)) c (fun r w => v1 _ _ _ (by omega) (by omega))
      unfold ab_Ro at this ⊢
      rw [m1 _ _ _ (by omega) (by omega), m1 _ _ _ (by omega) (by omega), m1 _ _ _ (by omega) (by omega), m1 _ _ _ (by omega) (by omega), n1 _ _ _ (by omega), n1 _ _ _ (by omega), n1 _ _ _ (by omega), n1 _ _ _ (by omega), g1, g2, g3]
      exact this
  have FF := F1.trans F2
  have V4 : ab_U (ab_sv p (ab_q A (6 * d + t) l) d t way a.1 (ab_stripe A a.1)) := ab_U_sv hc (fun q x hq' hx => (V2 q x hq' hx).2) V3 V1
  have w1 : nI way = 1 ↔ way = 1 := nI_eq (b := 1) (by omega) (by decide)
  have p6 : s6.2.2.1 0 = p := by rw [FF.2.2.1 0 (by decide), hp]
  have key : f_X9_serve s (nI d) (nI t) (nI way) = if nI way = 1 then some s6 else f_X9_giveBack s6 (nI (6 * d + t)) (nI t) := by
    have k2 : vn s 7 (W a.1) 2 = ab_stripe A a.1 := O.2.2.2.1
    have kd : vn s 1 d 2 = A.1 1 d 2 := Dd.2.2.1
    unfold f_X9_serve
    simp only [queueOf_w, ofQueue_0 s hq, Q0, of_2 s O.1, k2, ofDisk_2 s hd, kd, nb_2_26, nb_3_26, e1, c2, nb_0_18186, tc_0, tc_2, tc_3, hp]
    unfold ab_tk at c3 c6
    by_cases u : 0 ≤ A.1 1 d 2 - ab_stripe A a.1
    · simp only [if_pos u] at c3 c6 ⊢
      simp only [c3, c4, c5, c6, c7]
      by_cases v : nI way = 1
      · rw [if_pos v, if_pos v]
      · rw [if_neg v, if_neg v]
        cases f_X9_giveBack s6 (nI (6 * d + t)) (nI t) <;> rfl
    · simp only [if_neg u, Int32.zero_sub] at c3 c6 ⊢
      simp only [c3, c4, c5, c6, c7]
      by_cases v : nI way = 1
      · rw [if_pos v, if_pos v]
      · rw [if_neg v, if_neg v]
        cases f_X9_giveBack s6 (nI (6 * d + t)) (nI t) <;> rfl
  rw [key]
  unfold ab_srv
  by_cases u : way = 1
  · rw [if_pos (w1.mpr u), if_pos (.inl u)]
    exact ⟨_, rfl, FF, R2⟩
  · rw [if_neg (fun k => u (w1.mp k))]
    by_cases v : p (8 + 3 * t) ≤ 0
    · rw [if_pos (.inr v)]
      have z : p (8 + 3 * t) = 0 := by
        have a1 := Int32.le_iff_toInt_le.mp v
        have a2 : ¬ (p (8 + 3 * t)).toInt < (0 : Int32).toInt := fun k => hp0 (Int32.lt_iff_toInt_lt.mpr k)
        exact Int32.toInt_inj.mp (by omega)
      refine ⟨s6, ?_, FF, R2⟩
      unfold f_X9_giveBack
      simp only [shareOf_0 s6 ht, Nat.add_zero, p6]
      rw [if_pos z]
    · rw [if_neg (fun k => k.elim u v)]
      obtain ⟨s7, e3, F3, R3⟩ := ab_R_cr (R := p (8 + 3 * t)) hq ht (by rw [p6]) v V4 R2
      exact ⟨s7, e3, FF.trans F3, R3⟩
