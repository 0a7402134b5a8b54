/-! A request is accepted, in both programs: the whole. -/
theorem ab_row_pos {L : Nat → Bool} {i d : Nat} (hd : d < 7) (h : L (7 * i + d) = true) : 1 ≤ ab_row L i := by
  have := ab_row_dn h
  rw [show (7 * i + d) / 7 = i by omega] at this
  omega
theorem ab_chk0 {D S T m n N r : Nat} {p : Nat → Int32} {A : ab_S} {L : Nat → Bool} {W : Nat → Nat} {F : List Nat} {s4 s5 : cs_S} {s : mo_S} (hr : r < m) (h1 : 1 ≤ ab_row L (64 + r)) (H : ab_J D S T m n N p A L W F s4 s5 s) : f_X9_checkRequest s (nI r) = some s := by
  obtain ⟨hP, hp, hs, hC, hR, hB, hF⟩ := H
  have hm := hB.2.2.2.2.2.1.1
  have hc : nI r < A.1 0 0 2 := by rw [hB.2.2.2.2.2.1.2.1]; exact (nI_ltI (by omega) (by omega)).mpr hr
  have pnd := (hB.2.2.2.2.2.2.1 r hr).2.2.2
  have le := ab_row_le L (64 + r)
  have c0 : nI (ab_row L (64 + r)) ≤ 0 ↔ ab_row L (64 + r) = 0 := nI_le0 (by omega)
  have k3 : vn s 5 r 3 = nI (ab_row L (64 + r)) := (hR.2.2.2.2.2.2.2.1 r 3 (by omega) hc (by decide)).trans pnd
  unfold f_X9_checkRequest
  simp only [ofRequest_3 s (show r < 400 by omega), k3, if_neg (fun h => absurd (c0.mp h) (by omega))]
theorem ab_V_ad {D S m : Nat} {f : Option Nat} {A : ab_S} {L : Nat → Bool} {x0 x2 x5 x6 : Int32} (h0 : ab_row L (64 + m) = 0) (V : ab_V D S m f A L) : ab_V D S (m + 1) f (ab_ad A m x0 x2 x5 x6) L := by
  obtain ⟨VK, Vr, Vs, Vn, Vh, Vo⟩ := V
  have o : ∀ g i w, g ≠ 5 → g ≠ 0 ∨ w ≠ 2 → (ab_ad A m x0 x2 x5 x6).1 g i w = A.1 g i w := fun g i w h h' => ab_ad_o A m _ _ _ _ g i w (by omega) (by omega)
  refine ⟨?_, ?_, ?_, ?_, fun d hd => by rw [o _ _ _ (by omega) (by omega)]; exact Vh d hd, Vo⟩
  · cases f with
    | none => exact ⟨by rw [o _ _ _ (by omega) (by omega)]; exact VK.1, fun k hk => by rw [o _ _ _ (by omega) (by omega)]; exact VK.2.1 k hk, fun d k h1 h2 => by rw [o _ _ _ (by omega) (by omega)]; exact VK.2.2.1 d k h1 h2, VK.2.2.2⟩
    | some f => exact ⟨by rw [o _ _ _ (by omega) (by omega)]; exact VK.1, VK.2.1, fun d k h1 h2 h3 => VK.2.2.1 d k h1 h2 (by rw [← o _ _ _ (by omega) (by omega)]; exact h3), fun k hk => ab_Ks_tr (o _ _ _ (by omega) (by omega)) (fun d => o _ _ _ (by omega) (by omega)) (fun d hd => rfl) (VK.2.2.2 k hk)⟩
  · intro r hr
    by_cases u : r = m
    · rw [u, h0]
      omega
    · exact Vr r (by omega)
  · rw [(ab_cnts (A := A) (A' := ab_ad A m x0 x2 x5 x6) (fun i w => o _ _ _ (by omega) (by omega)) (fun i w => o _ _ _ (by omega) (by omega)) S).1]
    exact Vs
  · intro hf r hr h6
    by_cases u : r = m
    · rw [u, h0]
      omega
    · rw [ab_ad_o _ _ _ _ _ _ _ _ _ (by omega) (by omega)] at h6
      exact Vn hf r (by omega) h6
/-- what accepting a request leaves alone -/
def ab_af (A A' : ab_S) : Prop := A'.2.2.2 = A.2.2.2 ∧ (∀ w, w ≠ 2 → A'.1 0 0 w = A.1 0 0 w) ∧ (∀ d w, A'.1 1 d w = A.1 1 d w) ∧ (∀ k w, A'.1 4 k w = A.1 4 k w)
theorem ab_acc {D S T m n N t u : Nat} {f : Option Nat} {x due : Int32} {p : Nat → Int32} {A : ab_S} {L : Nat → Bool} {W : Nat → Nat} {F : List Nat} {s4 s5 : cs_S} {s : mo_S} (hm : m < 400) (ht1 : 1 ≤ t) (ht' : t < T) (hu : u < S * (D - 1)) (hx : x = 0 ∨ x = 1) (hN : N + 8 ≤ 1000000000000) (H : ab_J D S T m n N p A L W F s4 s5 s) (V : ab_V D S m f A L) :
    ∃ s5' s' W' F' A' L', f_X1_accept s4 s5 (nI t) (nI u) x due = some (nI m, s5') ∧ f_X9_request s (nI t) (nI u) x due = some (nI m, s') ∧ rf_F s s' ∧ ab_J D S T (m + 1) n (N + 8) p A' L' W' F' s4 s5' s' ∧ ab_V D S (m + 1) f A' L' ∧ ab_af A A' := by
  obtain ⟨hP, hp, hs, hC, hR, hB, hF⟩ := H
  have hD := hp.2.2.2.2.1
  have hD3 := hp.2.2.2.1
  have hS := hp.2.2.2.2.2.2.1
  have hT := hp.2.2.2.2.2.2.2.2.1
  have tot := ab_tot hB V.1 V.2.1 V.2.2.1
  obtain ⟨gk, gd, gp, gne⟩ := ab_geo (S := S) hD3 hu
  generalize hkk : ab_k D u = k at gk gp gne
  generalize hdd : ab_dk D u = d at gd gne
  have mcnt : A.1 0 0 2 = nI m := hB.2.2.2.2.2.1.2.1
  have L0 : ∀ e, e < 7 → L (7 * (64 + m) + e) = false := fun e he => by
    cases hl : L (7 * (64 + m) + e) with
    | false => rfl
    | true =>
      have := hB.2.2.2.2.1 _ hl
      omega
  have row0 : ab_row L (64 + m) = 0 := ab_row_0 L0
  have x6 : (if x = 0 then (0 : Int32) else 1) = x := by
    rcases hx with h | h
    · rw [h]; rfl
    · rw [h]; rfl
  obtain ⟨s51, a1, C1⟩ := ab_C_ad (x0 := nI t) (x2 := due) (x5 := nI k) (y := x) hm mcnt hC
  rw [x6] at C1
  obtain ⟨r1, r2, r3, r4, r5, b0, b1, b2, b3, b4, b5, Fs, R1⟩ := ab_R_ad (D := D) (A := A) (s := s) (W := W) (F := F) (r := m) (x0 := nI t) (x2 := due) (x5 := nI k) (x6 := x) hm mcnt (fun c hc => by
    have := hB.2.2.2.2.1 c ((hB.2.1 c).mpr hc)
    omega) hR
  have B1 := ab_B_ad (x2 := due) (x6 := x) hm ht1 ht' gk hx hB
  have hs1 : r5.2.2.1 0 = p := by rw [Fs.2.2.1 0 (by decide)]; exact hs
  have J1 : ab_J D S T (m + 1) n N p (ab_ad A m (nI t) due (nI k) x) L W F s4 s51 r5 := ⟨hP, hp, hs1, C1, R1, B1, hF⟩
  have V1 : ab_V D S (m + 1) f (ab_ad A m (nI t) due (nI k) x) L := ab_V_ad row0 V
  have af1 : ∀ {A' : ab_S} {L' : Nat → Bool}, ab_rq m (ab_ad A m (nI t) due (nI k) x) A' L L' → ab_af A A' := fun {A' L'} q => by
    refine ⟨q.2.1, fun w hw => ?_, fun d w => ?_, fun k w => ?_⟩
    · rw [q.1 _ _ _ (by omega) (by omega), ab_ad_o _ _ _ _ _ _ _ _ _ (by omega) (by omega)]
    · rw [q.1 _ _ _ (by omega) (by omega), ab_ad_o _ _ _ _ _ _ _ _ _ (by omega) (by omega)]
    · rw [q.1 _ _ _ (by omega) (by omega), ab_ad_o _ _ _ _ _ _ _ _ _ (by omega) (by omega)]
  have gC := ab_geoC hp hP hu
  have gR := ab_geoR hp hs1 hu
  rw [hkk, hdd] at gC gR
  have hf1 : (ab_ad A m (nI t) due (nI k) x).1 0 0 1 = ab_fw f := by
    cases f with
    | none => exact V1.1.1
    | some f => exact V1.1.1
  have hfD : ∀ f', f = some f' → f' < D := by
    intro f' hf
    rw [hf] at V1
    exact V1.1.2.1
  have e0 : (ab_ad A m (nI t) due (nI k) x).1 5 m 0 = nI t := ab_ad_5 A m (nI t) due (nI k) x 0
  have e5 : (ab_ad A m (nI t) due (nI k) x).1 5 m 5 = nI k := ab_ad_5 A m (nI t) due (nI k) x 5
  have e6 : (ab_ad A m (nI t) due (nI k) x).1 5 m 6 = x := ab_ad_5 A m (nI t) due (nI k) x 6
  have e2 : (ab_ad A m (nI t) due (nI k) x).1 5 m 2 = due := ab_ad_5 A m (nI t) due (nI k) x 2
  generalize ab_ad A m (nI t) due (nI k) x = A1 at *
  have fC : s51.1 31 0 = A1.1 0 0 1 := C1.1.2.1
  have fR : r5.2.2.1 3 1 = A1.1 0 0 1 := R1.1 1 (by decide)
  have hc : nI m < A1.1 0 0 2 := by rw [B1.2.2.2.2.2.1.2.1]; exact (nI_ltI (by omega) (by omega)).mpr (by omega)
  have eqf : ∀ d, d < D → (nI d = A1.1 0 0 1 ↔ some d = f) := fun d hd => by
    rw [hf1]
    cases f with
    | none => exact ⟨fun h => absurd h (nI_nm (by omega)), fun h => by cases h⟩
    | some f =>
      have := hfD f rfl
      exact ⟨fun h => by rw [(nI_eq (by omega) (by omega)).mp h], fun h => by rw [Option.some.inj h]; rfl⟩
  have k32 : s51.2.1 32 k = A1.1 4 k 0 := (C1.2.2.2.2.2.2 k (by omega)).1
  have R5 := fun w hw => R1.2.2.2.2.2.2.2.1 m w (by omega) hc hw
  have R4 := R1.2.2.2.2.2.2.1 k (by omega)
  have k01 : ¬ (1 : Int32) = 0 := by decide
  unfold f_X1_accept f_X9_request
  simp only [gC.1, gC.2.1, a1, nb_2_18186, nb_0_18186, tc_2, tc_0, b0, b1, b2, b3, b4, b5]
  -- a single operation on disk e
  have one : ∀ e, e ≤ D → x = 0 → some e ≠ f → ∃ s5' s' W' F' A' L', f_X1_queueFor s4 s51 (nI m) (nI e) = some s5' ∧ f_X9_queue r5 (nI e) (nI t) 0 (nI k) due (nI m) = some s' ∧ f_X9_checkRequest s' (nI m) = some s' ∧ rf_F s s' ∧ ab_J D S T (m + 1) n (N + 8) p A' L' W' F' s4 s5' s' ∧ ab_V D S (m + 1) f A' L' ∧ ab_af A A' := by
    intro e he hx0 hef
    obtain ⟨s5', s', W', F', c1, c2, c3, J'⟩ := ab_J_qf (d := e) (r := m) (by omega) he e0 ht' (L0 e (by omega)) (by omega) (by omega) J1
    rw [e0, e6, e5, e2, hx0] at c2
    have ru := ab_row_up (L0 e (by omega))
    rw [show (7 * (64 + m) + e) / 7 = 64 + m by omega, row0] at ru
    refine ⟨s5', s', W', F', _, _, c1, c2, ab_chk0 (by omega) (by omega) J', Fs.trans c3, J'.up (by omega) hN, ab_V_rq hS V1 (ab_rq.app (by omega)) (by omega) (fun _ _ => by omega) (fun f' hf d' hd' hh => ?_), af1 (ab_rq.app (by omega))⟩
    unfold ab_L at hh
    by_cases z : d' = e
    · intro h
      exact hef (by rw [← z, h, hf])
    · rw [if_neg (by omega), L0 d' hd'] at hh
      cases hh
  rcases hx with hx0 | hx1
  · simp only [hx0, if_true]
    unfold f_X9_queueRead
    simp (disch := omega) only [gR.1, gR.2.1, fC, fR, nb_nI, nI_clamp, k32, nb_1_18186, tc_1, stateOf_w r5 (show k < 64 by omega), R4, disks_w hs1, ofRequest_0 r5 (show m < 400 by omega), ofRequest_2 r5 (show m < 400 by omega), R5 0 (by decide), R5 2 (by decide), hP.1, hp.1, e0, e2]
    by_cases w : some d = f
    · simp only [if_pos ((eqf d gd).mpr w)]
      by_cases v : A1.1 4 k 0 = 3
      · obtain ⟨s5', s', W', F', A', L', c1, c2, c3, c4, c5, c6, c7⟩ := one D (Nat.le_refl D) hx0 (fun h => by
          have := hfD D h.symm
          omega)
        simp only [if_pos v, c1, c2, c3]
        exact ⟨_, _, W', F', A', L', rfl, rfl, c4, c5, c6, c7⟩
      · simp only [if_neg v]
        subst w
        obtain ⟨s5', s6, s', W', F', A', L', c1, c2, c3, c4, J', q, lo, _⟩ := ab_dg (r := m) (f := d) (by omega) e0 ht' e5 gk (by rw [e6]; exact hx0) gd hf1 L0 (by omega) (by omega) J1
        simp only [c1, c2, c3]
        exact ⟨_, _, W', F', A', L', rfl, rfl, Fs.trans c4, J'.up (by omega) hN, ab_V_rq hS V1 q (ab_row5 hD gd lo) (fun h => by cases h) (fun f' hf d' hd' hh => by rw [← Option.some.inj hf]; exact (lo d' hd' hh).2), af1 q⟩
    · obtain ⟨s5', s', W', F', A', L', c1, c2, c3, c4, c5, c6, c7⟩ := one d (by omega) hx0 w
      simp only [if_neg (fun h => w ((eqf d gd).mp h)), c1, c2, c3]
      exact ⟨_, _, W', F', A', L', rfl, rfl, c4, c5, c6, c7⟩
  · simp only [hx1, if_neg k01]
    obtain ⟨s52, s2, W2, F2, A2, L2, c1, c2, c3, J2, q2, n2, l2, l2', ro2, mo2⟩ := ab_qw (r := m) (d := d) (f := f) (by omega) e0 ht' e5 gk (by rw [e6]; exact hx1) gd hf1 hfD (L0 d (by omega)) (fun _ => L0 D (by omega)) (by omega) (by omega) J1
    have hs2 : s2.2.2.1 0 = p := J2.2.2.1
    have gR2 := ab_geoR hp hs2 hu
    rw [hkk, hdd] at gR2
    obtain ⟨s53, s3, W3, F3, A3, L3, g1, g2, g3, J3, q3, n3, l3, l3', ro3, mo3⟩ := ab_qw (r := m) (d := k % D) (k := k) (f := f) (t := t) (by omega) (by rw [q2.1 _ _ _ (by omega) (by omega)]; exact e0) ht' (by rw [q2.1 _ _ _ (by omega) (by omega)]; exact e5) gk (by rw [q2.1 _ _ _ (by omega) (by omega), e6]; exact hx1) gp (by rw [q2.1 _ _ _ (by omega) (by omega)]; exact hf1) hfD (by
      cases hl : L2 (7 * (64 + m) + k % D) with
      | false => rfl
      | true =>
        rcases l2 _ (by omega) hl with h | h | h
        · rw [L0 _ (by omega)] at h
          cases h
        · omega
        · omega) (fun hpf => by
      cases hl : L2 (7 * (64 + m) + D) with
      | false => rfl
      | true =>
        rcases l2 _ (by omega) hl with h | h | h
        · rw [L0 _ (by omega)] at h
          cases h
        · omega
        · have := h.2.trans hpf.symm
          exact absurd (Option.some.inj this) gne) (by omega) (by omega) J2
    have pos : 1 ≤ ab_row L3 (64 + m) := by
      by_cases z : some d = f
      · exact ab_row_pos (d := k % D) (by omega) (l3' (fun h => gne (Option.some.inj (z.trans h.symm))))
      · exact ab_row_pos (d := d) (by omega) (mo3 _ (l2' z))
    have ck := ab_chk0 (r := m) (by omega) pos J3
    simp only [gR.1, gR.2.1, c1, c2, gC.2.2 k (by omega), g1, gR2.1, gR2.2.2 k (by omega), g2, ck]
    refine ⟨_, _, W3, F3, A3, L3, rfl, rfl, (Fs.trans c3).trans g3, J3.up (by omega) hN, ab_V_rq hS V1 (q2.trans q3) (by omega) (fun _ h6 => by rw [e6, hx1] at h6; exact absurd h6 k01) (fun f' hf d' hd' hh => ?_), af1 (q2.trans q3)⟩
    rcases l3 d' hd' hh with h | h | h
    · rcases l2 d' hd' h with h | h | h
      · rw [L0 d' hd'] at h
        cases h
      · exact fun e => h.2 (by rw [← h.1, e, hf])
      · have := hfD f' hf
        omega
    · exact fun e => h.2 (by rw [← h.1, e, hf])
    · have := hfD f' hf
      omega
