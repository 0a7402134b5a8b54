/-! A request is accepted, in both programs. -/
theorem nI_mod {a b : Nat} (ha : a < 2 ^ 31) (hb : b < 2 ^ 31) : nI a - nI a / nI b * nI b = nI (a % b) := by
  rw [nI_div ha hb, nI_mul, nI_sub (by rw [Nat.mul_comm]; exact Nat.mul_div_le a b)]
  congr 1
  rw [Nat.mul_comm]
  have := Nat.div_add_mod a b
  omega
/-- the failed disk's number, or -1 -/
def ab_fw (f : Option Nat) : Int32 := match f with | none => -1 | some f => nI f
def ab_k (D u : Nat) : Nat := u / (D - 1)
def ab_dk (D u : Nat) : Nat := (ab_k D u % D + 1 + u % (D - 1)) % D
theorem ab_geo {D S u : Nat} (hD : 3 ≤ D) (hu : u < S * (D - 1)) : ab_k D u < S ∧ ab_dk D u < D ∧ ab_k D u % D < D ∧ ab_dk D u ≠ ab_k D u % D := by
  have h1 : ab_k D u < S := Nat.div_lt_of_lt_mul (by rw [Nat.mul_comm]; exact hu)
  have h2 : ab_dk D u < D := Nat.mod_lt _ (by omega)
  have h3 : ab_k D u % D < D := Nat.mod_lt _ (by omega)
  have h4 : u % (D - 1) < D - 1 := Nat.mod_lt _ (by omega)
  refine ⟨h1, h2, h3, ?_⟩
  unfold ab_dk
  generalize ab_k D u % D = a at *
  generalize u % (D - 1) = b at *
  intro e
  by_cases w : a + 1 + b < D
  · rw [Nat.mod_eq_of_lt w] at e
    omega
  · rw [Nat.mod_eq_sub_mod (by omega), Nat.mod_eq_of_lt (by omega)] at e
    omega
theorem ab_p01 {p : Nat → Int32} {D S T : Nat} (hp : ab_pl p D S T) : p 0 = nI D ∧ p 0 - 1 = nI (D - 1) ∧ ¬ nI (D - 1) = 0 ∧ ¬ nI D = 0 ∧ ¬ nI D ≤ 1 ∧ ¬ nI D ≤ 0 ∧ 1 < nI D := by
  have h3 := hp.2.2.2.1
  have h6 := hp.2.2.2.2.1
  refine ⟨hp.1, ?_, nI_ne0 (by omega) (by omega), nI_ne0 (by omega) (by omega), ?_, ?_, (nI_ltI (a := 1) (by decide) (by omega)).mpr (by omega)⟩
  · rw [hp.1]
    exact nI_sub (b := 1) (by omega)
  · exact fun h => absurd ((nI_leI (b := 1) (by omega) (by decide)).mp h) (by omega)
  · exact fun h => absurd ((nI_leI (b := 0) (by omega) (by decide)).mp h) (by omega)
theorem ab_geoC {p : Nat → Int32} {D S T u : Nat} {s4 : cs_S} (hp : ab_pl p D S T) (hP : ab_P p s4) (hu : u < S * (D - 1)) : f_X2_stripeWith s4 (nI u) = some (nI (ab_k D u)) ∧ f_X2_diskWith s4 (nI u) = some (nI (ab_dk D u)) ∧ ∀ k, k < 64 → f_X2_parityOf s4 (nI k) = some (nI (k % D)) := by
  obtain ⟨q1, q2, q3, q4, q5, q6, q7⟩ := ab_p01 hp
  have hD := hp.2.2.2.2.1
  have hS := hp.2.2.2.2.2.2.1
  have g := ab_geo hp.2.2.2.1 hu
  have hu' : u < 64 * 6 := Nat.lt_of_lt_of_le hu (Nat.mul_le_mul hS (by omega))
  have a1 : f_X2_stripeWith s4 (nI u) = some (nI (ab_k D u)) := by
    unfold f_X2_stripeWith
    rw [hP.1, q2, q1, if_neg q5, if_neg q3, nI_div (by omega) (by omega)]
    rfl
  have a3 : ∀ k, k < 64 → f_X2_parityOf s4 (nI k) = some (nI (k % D)) := by
    intro k hk
    unfold f_X2_parityOf
    rw [hP.1, q1, if_neg q6, if_neg q4, nI_mod (by omega) (by omega)]
  refine ⟨a1, ?_, a3⟩
  unfold f_X2_diskWith
  rw [hP.1, q2, q1, if_pos q7, a1]
  simp only [a3 (ab_k D u) (by omega), if_neg q3, if_neg q4]
  rw [nI_mod (by omega) (by omega), nI_1, nI_add, nI_mod (by have := Nat.mod_le u (D - 1); omega) (by omega)]
  rfl
theorem ab_geoR {p : Nat → Int32} {D S T u : Nat} {s : mo_S} (hp : ab_pl p D S T) (hs : s.2.2.1 0 = p) (hu : u < S * (D - 1)) : f_X9_stripeFor s (nI u) = some (nI (ab_k D u)) ∧ f_X9_diskFor s (nI u) = some (nI (ab_dk D u)) ∧ ∀ k, k < 64 → f_X9_parityOf s (nI k) = some (nI (k % D)) := by
  obtain ⟨q1, q2, q3, q4, q5, q6, q7⟩ := ab_p01 hp
  have hD := hp.2.2.2.2.1
  have hS := hp.2.2.2.2.2.2.1
  have g := ab_geo hp.2.2.2.1 hu
  have hu' : u < 64 * 6 := Nat.lt_of_lt_of_le hu (Nat.mul_le_mul hS (by omega))
  have a1 : f_X9_stripeFor s (nI u) = some (nI (ab_k D u)) := by
    unfold f_X9_stripeFor
    rw [disks_w hs]
    simp only [q2, if_neg q3]
    rw [nI_div (by omega) (by omega)]
    rfl
  have a3 : ∀ k, k < 64 → f_X9_parityOf s (nI k) = some (nI (k % D)) := by
    intro k hk
    unfold f_X9_parityOf
    rw [disks_w hs]
    simp only [q1, if_neg q4]
    rw [nI_mod (by omega) (by omega)]
  refine ⟨a1, ?_, a3⟩
  unfold f_X9_diskFor
  rw [a1]
  simp only [a3 (ab_k D u) (by omega), disks_w hs, q2, if_neg q3]
  simp only [q1, if_neg q4]
  rw [nI_mod (by omega) (by omega), nI_1, nI_add, nI_mod (by have := Nat.mod_le u (D - 1); omega) (by omega)]
  rfl
/-- an operation of a write is queued, or not if its disk has failed -/
theorem ab_qw {D S T m n N r t k d : Nat} {f : Option Nat} {p : Nat → Int32} {A : ab_S} {L : Nat → Bool} {W : Nat → Nat} {F : List Nat} {s4 s5 : cs_S} {s : mo_S} (hr : r < m) (ht : A.1 5 r 0 = nI t) (ht' : t < T) (hk : A.1 5 r 5 = nI k) (hkS : k < S) (h6 : A.1 5 r 6 = 1) (hd : d < D) (hf1 : A.1 0 0 1 = ab_fw f) (hfD : ∀ f', f = some f' → f' < D) (hLd : L (7 * (64 + r) + d) = false) (hLD : some d = f → L (7 * (64 + r) + D) = false) (hcnt : ab_cnt L 3248 < 2200) (hN : N + 1 ≤ 1000000000000) (H : ab_J D S T m n N p A L W F s4 s5 s) :
    ∃ s5' s' W' F' A' L', f_X1_queueWrite s4 s5 (nI r) (nI d) = some s5' ∧ f_X9_queueWrite s (nI r) (nI d) (nI k) = some s' ∧ rf_F s s' ∧ ab_J D S T m n (N + 1) p A' L' W' F' s4 s5' s' ∧ ab_rq r A A' L L' ∧ ab_cnt L' 3248 ≤ ab_cnt L 3248 + 1 ∧ (∀ e, e < 7 → L' (7 * (64 + r) + e) = true → L (7 * (64 + r) + e) = true ∨ (e = d ∧ some d ≠ f) ∨ (e = D ∧ some d = f)) ∧ (some d ≠ f → L' (7 * (64 + r) + d) = true) ∧ ab_row L' (64 + r) ≤ ab_row L (64 + r) + 1 ∧ (∀ c, L c = true → L' c = true) := by
  have hp := H.2.1
  have hs := H.2.2.1
  have hD := hp.2.2.2.2.1
  have hS := hp.2.2.2.2.2.2.1
  have hT := hp.2.2.2.2.2.2.2.2.1
  have hB := H.2.2.2.2.2.1
  have hm := hB.2.2.2.2.2.1.1
  have hc : nI r < A.1 0 0 2 := by rw [hB.2.2.2.2.2.1.2.1]; exact (nI_ltI (by omega) (by omega)).mpr hr
  have Cr := H.2.2.2.1.2.2.2.2.2.1 r (by omega) hc
  have fC : s5.1 31 0 = A.1 0 0 1 := H.2.2.2.1.1.2.1
  have fR : s.2.2.1 3 1 = A.1 0 0 1 := H.2.2.2.2.1.1 1 (by decide)
  have eqf : nI d = A.1 0 0 1 ↔ some d = f := by
    rw [hf1]
    cases f with
    | none => exact ⟨fun h => absurd h (nI_nm (by omega)), fun h => by cases h⟩
    | some f =>
      have := hfD f rfl
      exact ⟨fun h => by rw [(nI_eq (by omega) (by omega)).mp h], fun h => by rw [Option.some.inj h]; rfl⟩
  have k21 : s5.2.1 21 r = nI k := by rw [Cr.2.2.2.2.2.1, hk]
  have k32 : s5.2.1 32 k = A.1 4 k 0 := (H.2.2.2.1.2.2.2.2.2.2 k (by omega)).1
  have R5 := fun w hw => H.2.2.2.2.1.2.2.2.2.2.2.2.1 r w (by omega) hc hw
  have R4 := H.2.2.2.2.1.2.2.2.2.2.2.1 k (by omega)
  have rowu : ∀ {e : Nat}, L (7 * (64 + r) + e) = false → e < 7 → ab_row (ab_L L (7 * (64 + r) + e) true) (64 + r) ≤ ab_row L (64 + r) + 1 := fun {e} h he => by
    have := ab_row_up h
    rw [show (7 * (64 + r) + e) / 7 = 64 + r by omega] at this
    omega
  have monL : ∀ {y : Nat} (c : Nat), L c = true → ab_L L y true c = true := fun {y} c hc => by
    unfold ab_L
    split
    · rfl
    · exact hc
  have nb1 : pm_inb (nI r) 400 = true := nb_nI (by omega) (by decide)
  unfold f_X1_queueWrite f_X9_queueWrite
  simp (disch := omega) only [fC, fR, nb_nI, nI_clamp, k21, k32, nb_1_18186, tc_1, stateOf_w s (show k < 64 by omega), R4, disks_w hs, ofRequest_0 s (show r < 400 by omega), ofRequest_2 s (show r < 400 by omega), R5 0 (by decide), R5 2 (by decide), H.1.1, hp.1]
  by_cases u : some d = f
  · simp only [if_pos (eqf.mpr u)]
    by_cases v : A.1 4 k 0 = 3
    · simp only [if_pos v]
      obtain ⟨s5', s', W', F', a1, a2, a3, J'⟩ := ab_J_qf (d := D) hr (Nat.le_refl D) ht ht' (hLD u) hcnt hN H
      rw [h6, hk] at a2
      simp only [a1, a2]
      refine ⟨_, _, W', F', _, _, rfl, rfl, a3, J', ab_rq.app (by omega), by rw [ab_cnt_up (hLD u), if_pos (by omega)]; exact Nat.le_refl _, fun e he hh => ?_, fun h => absurd u h, rowu (hLD u) (by omega), fun c hc => monL c hc⟩
      unfold ab_L at hh
      by_cases z : e = D
      · exact .inr (.inr ⟨z, u⟩)
      · rw [if_neg (by omega)] at hh
        exact .inl hh
    · simp only [if_neg v]
      exact ⟨_, _, W, F, A, L, rfl, rfl, rf_F.rfl' s, H.up (Nat.le_succ N) hN, ab_rq.refl r A L, by omega, fun e he hh => .inl hh, fun h => absurd u h, by omega, fun c hc => hc⟩
  · simp only [if_neg (fun h => u (eqf.mp h))]
    obtain ⟨s5', s', W', F', a1, a2, a3, J'⟩ := ab_J_qf (d := d) hr (by omega) ht ht' hLd hcnt hN H
    rw [h6, hk] at a2
    simp only [a1, a2]
    refine ⟨_, _, W', F', _, _, rfl, rfl, a3, J', ab_rq.app (by omega), by rw [ab_cnt_up hLd, if_pos (by omega)]; exact Nat.le_refl _, fun e he hh => ?_, fun _ => if_pos rfl, rowu hLd (by omega), fun c hc => monL c hc⟩
    unfold ab_L at hh
    by_cases z : e = d
    · exact .inr (.inl ⟨z, u⟩)
    · rw [if_neg (by omega)] at hh
      exact .inl hh
