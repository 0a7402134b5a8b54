/-! One tick in both programs, from the moment that the clock is set. -/
/-- the reference's tick behind the clock -/
def tk_R (s : mo_S) : Option mo_S := (match f_X9_finishServices s with
  | none => none
  | some s3 => (match f_X9_submitLines s3 with
    | none => none
    | some s5 => (if s5.2.2.1 3 1 = (-1) then (pm_loop pm_fu lb_X9_passTick_38 (s5, 0)) else (match f_X9_startStripes s5 with
      | none => none
      | some s20 => (pm_loop pm_fu lb_X9_passTick_38 (s20, 0))))))
theorem passTick_R (s : mo_S) : f_X9_passTick s = tk_R (mo_a s 3 0 (s.2.2.1 3 0 + 1)) := by
  unfold f_X9_passTick tk_R
  simp only [nb_0_18186, tc_0, nb_1_18186, tc_1]
  cases f_X9_finishServices (mo_a s 3 0 (s.2.2.1 3 0 + 1)) with
  | none => rfl
  | some s3 =>
    simp only []
    cases f_X9_submitLines s3 with
    | none => rfl
    | some s5 =>
      simp only []
      split
      · rfl
      · cases f_X9_startStripes s5 <;> rfl
/-- the stripes' fixpoint -/
def ab_fx (p : Nat → Int32) (S : Nat) (f : Option Nat) (A : ab_S) : Prop := ∀ f', f = some f' → (∀ k, k < S → A.1 4 k 0 ≠ 0) ∨ p 4 ≤ nI (ab_started A.1 S)
/-- what is so between two calls: the engine -/
def ab_Z (D S T m n N ln cnt : Nat) (tk : Nat → Nat) (f : Option Nat) (p : Nat → Int32) (A : ab_S) (L : Nat → Bool) (W : Nat → Nat) (F : List Nat) (s4 s5 s6 : cs_S) (s : mo_S) : Prop :=
  ab_J D S T m n N p A L W F s4 s5 s ∧ ab_V D S m f A L ∧ ab_TR D S T cnt tk s6 s ∧ (A.1 0 0 3 = nI ln ∧ A.1 0 0 11 = 0 ∧ ln ≤ cnt ∧ ∀ i, ln ≤ i → i < cnt → n < tk i) ∧ (∀ d c, d ≤ D → A.2.2.2 d = some c → A.1 1 d 1 ≠ nI n) ∧ ab_fx p S f A
theorem ab_off {D S T m n N d t : Nat} {f : Option Nat} {A : ab_S} {L : Nat → Bool} (hd : d ≤ D) (hD : D ≤ 6) (ht : t < 6) (hf : f = some d) (hB : ab_B D S T m n N A L) (V : ab_V D S m f A L) : A.2.1 (6 * d + t) = [] ∧ A.2.2.2 d = none := by
  constructor
  · cases hl : A.2.1 (6 * d + t) with
    | nil => rfl
    | cons a l =>
      have ma : a ∈ A.2.1 (6 * d + t) := by rw [hl]; exact List.mem_cons_self
      have h3 := hB.2.2.1 _ a (by omega) ma
      exact absurd (show a.1 % 7 = d by omega) (V.2.2.2.2.2 d hf a.1 ((hB.2.1 a.1).mpr (.inl ⟨_, by omega, a, ma, rfl⟩)))
  · cases hs : A.2.2.2 d with
    | none => rfl
    | some c => exact absurd (hB.2.2.2.1 d c (by omega) hs).1 (V.2.2.2.2.2 d hf c ((hB.2.1 c).mpr (.inr ⟨d, by omega, hs⟩)))
theorem ab_tick {D S T m n N ln cnt : Nat} {tk : Nat → Nat} {f : Option Nat} {p : Nat → Int32} {A : ab_S} {L : Nat → Bool} {W : Nat → Nat} {F : List Nat} {s4 s5 s6 : cs_S} {s : mo_S} {l1 l2 l3 : Int32} (hN : N + 2000 ≤ 1000000000000) (H : ab_J D S T m n N p A L W F s4 s5 s) (V : ab_V D S m f A L) (TR : ab_TR D S T cnt tk s6 s) (h3 : A.1 0 0 3 = nI ln) (h11 : A.1 0 0 11 = 0) (hln : ln ≤ cnt) (hd : ∀ i, ln ≤ i → i < cnt → n ≤ tk i) :
    ∃ s5' s' W' F' A' L' m' ln', pm_loop pm_fu (lb_X1_runTo_44 s4 s6) (s5, l1, l2, l3, 0) = some (.inl (s5', l1, l2, l3 + 1)) ∧ tk_R s = some s' ∧ rf_F s s' ∧ ab_Z D S T m' n (N + 2000) ln' cnt tk f p A' L' W' F' s4 s5' s6 s' ∧ A'.1 0 0 9 = A.1 0 0 9 ∧ A'.1 0 0 10 = A.1 0 0 10 ∧ (f = none → A'.1 0 0 7 = A.1 0 0 7) := by
  have hp := H.2.1
  have hD := hp.2.2.2.2.1
  have hT := hp.2.2.2.2.2.2.2.2.1
  have n5 := H.2.2.2.2.2.1.2.2.2.2.2.1.2.2.1
  -- the services that end
  obtain ⟨s51, s1, a1, a2, F1, W1, G1, A1, L1, J1, V1, sc1, dd1, w71⟩ : ∃ s51 s1, (∃ e, pm_loop pm_fu (lb_X1_runTo_44 s4 s6) (s5, l1, l2, l3, 0) = e ∧ lb_X1_runTo_44 s4 s6 (s51, l1, l2, l3, nI (D + 1)) = (match e with | none => none | some x => some (.inr x))) ∧ f_X9_finishServices s = some s1 ∧ rf_F s s1 ∧ ∃ W1 G1 A1 L1, ab_J D S T m n (N + 7) p A1 L1 W1 G1 s4 s51 s1 ∧ ab_V D S m f A1 L1 ∧ (∀ w, w ≠ 5 → w ≠ 6 → w ≠ 7 → A1.1 0 0 w = A.1 0 0 w) ∧ (∀ d c, d ≤ D → A1.2.2.2 d = some c → A1.1 1 d 1 ≠ nI n) ∧ (f = none → A1.1 0 0 7 = A.1 0 0 7) := by
    have gen : ∀ j i fu x y W1 G1 A1 L1, i + j = D + 1 → j < fu → rf_F s y → ab_J D S T m n (N + i) p A1 L1 W1 G1 s4 x y → ab_V D S m f A1 L1 → (∀ w, w ≠ 5 → w ≠ 6 → w ≠ 7 → A1.1 0 0 w = A.1 0 0 w) → (∀ d c, d < i → A1.2.2.2 d = some c → A1.1 1 d 1 ≠ nI n) → (f = none → A1.1 0 0 7 = A.1 0 0 7) → ∃ s51 s1 fu', fu' + j = fu ∧ pm_loop fu (lb_X1_runTo_44 s4 s6) (x, l1, l2, l3, nI i) = pm_loop fu' (lb_X1_runTo_44 s4 s6) (s51, l1, l2, l3, nI (D + 1)) ∧ pm_loop fu lb_X9_finishServices_2 (y, nI i) = pm_loop fu' lb_X9_finishServices_2 (s1, nI (D + 1)) ∧ rf_F s s1 ∧ ∃ W1 G1 A1 L1, ab_J D S T m n (N + 7) p A1 L1 W1 G1 s4 s51 s1 ∧ ab_V D S m f A1 L1 ∧ (∀ w, w ≠ 5 → w ≠ 6 → w ≠ 7 → A1.1 0 0 w = A.1 0 0 w) ∧ (∀ d c, d < D + 1 → A1.2.2.2 d = some c → A1.1 1 d 1 ≠ nI n) ∧ (f = none → A1.1 0 0 7 = A.1 0 0 7) := by
      intro j
      induction j with
      | zero =>
        intro i fu x y W1 G1 A1 L1 hi hf Fy J V sc dd w7
        have : i = D + 1 := by omega
        subst this
        exact ⟨x, y, fu, by omega, rfl, rfl, Fy, W1, G1, A1, L1, J.up (by omega) (by omega), V, sc, dd, w7⟩
      | succ j ih =>
        intro i fu x y W1 G1 A1 L1 hi hf Fy J V sc dd w7
        obtain ⟨x', y', W2, G2, A2, L2, e1, e2, F2, J2, V2, ds, ut, e7⟩ := ab_es (d := i) (by omega) (by omega) J V
        cases fu with
        | zero => omega
        | succ fu =>
          have lt : ¬ s4.1 0 0 < nI i := by
            rw [H.1.1, hp.1]
            exact fun h => absurd ((nI_ltI (by omega) (by omega)).mp h) (by omega)
          have b1 : lb_X1_runTo_44 s4 s6 (x, l1, l2, l3, nI i) = some (.inl (x', l1, l2, l3, nI (i + 1))) := by
            unfold lb_X1_runTo_44
            simp only [if_neg lt, e1, nI_1]
          have nn : A2.1 0 0 0 = nI n := J2.2.2.2.2.2.1.2.2.2.2.2.1.2.2.2
          obtain ⟨s51, s1, fu', g0, g1, g2, g3⟩ := ih (i + 1) fu x' y' W2 G2 A2 L2 (by omega) (by omega) (Fy.trans F2) J2 V2 (fun w a b c => (ds.2 w a b c).trans (sc w a b c)) (fun d c hd hc => by
            by_cases z : d = i
            · rw [z] at hc ⊢
              exact ut c hc
            · have := ds.1 d z
              rw [this.1] at hc
              rw [this.2]
              exact dd d c (by omega) hc) (fun h => (e7 h).trans (w7 h))
          exact ⟨s51, s1, fu', by omega, by rw [lp_inl b1]; exact g1, by rw [lp_inl e2]; exact g2, g3⟩
    obtain ⟨s51, s1, fu', g0, g1, g2, g3, W1, G1, A1, L1, g4, g5, g6, g7, g8⟩ := gen (D + 1) 0 pm_fu s5 s W F A L (by omega) (by unfold pm_fu; omega) (rf_F.rfl' s) H V (fun _ _ _ _ => rfl) (fun d c h => absurd h (by omega)) (fun _ => rfl)
    have gt : p 0 < nI (D + 1) := by
      rw [hp.1]
      exact (nI_ltI (by omega) (by omega)).mpr (by omega)
    have fu1 : ∃ k, fu' = k + 1 := ⟨fu' - 1, by unfold pm_fu at g0; omega⟩
    obtain ⟨k, rfl⟩ := fu1
    refine ⟨s51, s1, ⟨_, rfl, ?_⟩, ?_, g3, W1, G1, A1, L1, g4, g5, g6, fun d c hd hc => g7 d c (by omega) hc, g8⟩
    · have g1' : pm_loop pm_fu (lb_X1_runTo_44 s4 s6) (s5, l1, l2, l3, 0) = pm_loop (k + 1) (lb_X1_runTo_44 s4 s6) (s51, l1, l2, l3, nI (D + 1)) := g1
      rw [g1']
      have gt' : s4.1 0 0 < nI (D + 1) := by rw [H.1.1]; exact gt
      have un : lb_X1_runTo_44 s4 s6 (s51, l1, l2, l3, nI (D + 1)) = (match f_X1_acceptLines s4 s51 s6 with | none => none | some s5_8 => (match f_X1_startStripes s4 s5_8 with | none => none | some s5_10 => (match pm_loop pm_fu (lb_X1_runTo_79 s4 s6) (s5_10, l1, l2, l3, 0) with | none => none | some e => some (.inr e)))) := by
        unfold lb_X1_runTo_44
        simp only [if_pos gt']
        cases f_X1_acceptLines s4 s51 s6 with
        | none => rfl
        | some z =>
          simp only []
          cases f_X1_startStripes s4 z with
          | none => rfl
          | some z2 =>
            simp only []
            cases pm_loop pm_fu (lb_X1_runTo_79 s4 s6) (z2, l1, l2, l3, 0) <;> rfl
      rw [pm_loop, un]
      cases f_X1_acceptLines s4 s51 s6 with
      | none => rfl
      | some z =>
        simp only []
        cases f_X1_startStripes s4 z with
        | none => rfl
        | some z2 =>
          simp only []
          cases pm_loop pm_fu (lb_X1_runTo_79 s4 s6) (z2, l1, l2, l3, 0) <;> rfl
    · unfold f_X9_finishServices
      have g2' : pm_loop pm_fu lb_X9_finishServices_2 (s, 0) = pm_loop (k + 1) lb_X9_finishServices_2 (s1, nI (D + 1)) := g2
      rw [g2']
      refine lp_inr ?_
      unfold lb_X9_finishServices_2
      simp only [disks_w g4.2.2.1, if_pos gt]
  -- the lines
  obtain ⟨s52, s2, W2, G2, A2, L2, m2, ln2, b1, b2, F2, J2, V2, z3, z11, zl, zd, lf⟩ := ab_al (by rw [sc1 3 (by decide) (by decide) (by decide)]; exact h3) (by rw [sc1 11 (by decide) (by decide) (by decide)]; exact h11) hln hd (by omega) (TR.fr F1) J1 V1
  have dd2 : ∀ d c, d ≤ D → A2.2.2.2 d = some c → A2.1 1 d 1 ≠ nI n := fun d c h1 h2 => by
    rw [lf.1] at h2
    rw [lf.2.2.1]
    exact dd1 d c h1 h2
  -- the stripes
  have f2 : s2.2.2.1 3 1 = ab_fw f := by
    have : A2.1 0 0 1 = ab_fw f := by
      cases f with
      | none => exact V2.1.1
      | some f => exact V2.1.1
    exact (J2.2.2.2.2.1.1 1 (by decide)).trans this
  obtain ⟨s53, s3, W3, G3, A3, L3, c1, c2, F3, J3, V3, x3, sf3, dd3, sc3⟩ : ∃ s53 s3 W3 G3 A3 L3, f_X1_startStripes s4 s52 = some s53 ∧ (if s2.2.2.1 3 1 = (-1) then some s2 else f_X9_startStripes s2) = some s3 ∧ rf_F s2 s3 ∧ ab_J D S T m2 n (N + 1319) p A3 L3 W3 G3 s4 s53 s3 ∧ ab_V D S m2 f A3 L3 ∧ ab_fx p S f A3 ∧ (A3.1 0 0 3 = nI ln2 ∧ A3.1 0 0 11 = 0) ∧ (∀ d c, d ≤ D → A3.2.2.2 d = some c → A3.1 1 d 1 ≠ nI n) ∧ (∀ w, w = 9 ∨ w = 10 ∨ w = 7 → A3.1 0 0 w = A2.1 0 0 w) := by
    cases f with
    | none =>
      have fC : s52.1 31 0 = -1 := J2.2.2.2.1.1.2.1.trans V2.1.1
      refine ⟨s52, s2, W2, G2, A2, L2, ?_, ?_, rf_F.rfl' s2, J2.up (by omega) (by omega), V2, (fun f' h => by cases h), ⟨z3, z11⟩, dd2, fun _ _ => rfl⟩
      · unfold f_X1_startStripes
        rw [if_pos fC]
      · rw [f2]
        rfl
    | some f =>
      obtain ⟨s53, s3, W3, G3, A3, L3, c1, c2, F3, J3, V3, sf, fx⟩ := ab_ss (by omega) J2 V2
      have nf : ¬ s2.2.2.1 3 1 = -1 := by
        rw [f2]
        exact nI_nm (by have := V2.1.2.1; omega)
      refine ⟨s53, s3, W3, G3, A3, L3, c1, by rw [if_neg nf]; exact c2, F3, J3, V3, fun f' _ => fx, ⟨by rw [sf.2.1]; exact z3, by rw [sf.2.1]; exact z11⟩, fun d c h1 h2 => ?_, fun w _ => sf.2.1 w⟩
      rw [sf.1] at h2
      rw [sf.2.2 _ _ _ (.inl rfl)]
      exact dd2 d c h1 h2
  -- the choices
  obtain ⟨e, e', d1, d2, s54, rfl, F4, A4, J4, V4, x4, sc4, dd4⟩ := lp2_for (Q := fun e e' => ∃ s54, e = .inl (s54, l1, l2, l3 + 1) ∧ rf_F s3 e' ∧ ∃ A4, ab_J D S T m2 n (N + 1327) p A4 L3 W3 G3 s4 s54 e' ∧ ab_V D S m2 f A4 L3 ∧ ab_fx p S f A4 ∧ (∀ w, A4.1 0 0 w = A3.1 0 0 w) ∧ (∀ d c, d ≤ D → A4.2.2.2 d = some c → A4.1 1 d 1 ≠ nI n)) (B := lb_X1_runTo_79 s4 s6) (B' := lb_X9_passTick_38) (D + 1) (fun i x y => x.2 = (l1, l2, l3, nI i) ∧ y.2 = nI i ∧ rf_F s3 y.1 ∧ ∃ A4, ab_J D S T m2 n (N + 1319 + i) p A4 L3 W3 G3 s4 x.1 y.1 ∧ ab_V D S m2 f A4 L3 ∧ ab_fx p S f A4 ∧ (∀ w, A4.1 0 0 w = A3.1 0 0 w) ∧ (∀ d c, d ≤ D → A4.2.2.2 d = some c → A4.1 1 d 1 ≠ nI n)) (by unfold pm_fu; omega) (by
    rintro i ⟨x, x2⟩ ⟨y, y2⟩ hi ⟨rfl, rfl, Fy, A4, J4, V4, x4, sc4, dd4⟩
    simp only [] at J4 Fy
    have hs4 := J4.2.2.1
    have lt : ¬ p 0 < nI i := by
      rw [hp.1]
      exact fun h => absurd ((nI_ltI (by omega) (by omega)).mp h) (by omega)
    have lt' : ¬ s4.1 0 0 < nI i := by rw [H.1.1]; exact lt
    have Rd := (J4.2.2.2.2.1.2.2.2.2.1 i (by omega)).1 (V4.2.2.2.2.1 i (by omega))
    have fR : y.2.2.1 3 1 = ab_fw f := by
      have : A4.1 0 0 1 = ab_fw f := by
        cases f with
        | none => exact V4.1.1
        | some f => exact V4.1.1
      exact (J4.2.2.2.2.1.1 1 (by decide)).trans this
    unfold lb_X1_runTo_79 lb_X9_passTick_38
    simp only [if_neg lt', disks_w hs4, if_neg lt, ofDisk_0 y (show i < 7 by omega), Rd.1, nb_1_18186, tc_1, fR, nI_1]
    cases hsv : A4.2.2.2 i with
    | some c =>
      have O := J4.2.2.2.2.1.2.2.2.2.2.2.2.2.2.1 c (.inr ⟨i, by omega, hsv⟩)
      have nW : ¬ nI (W3 c) = -1 := nI_nm (by have := O.1; omega)
      have hc := J4.2.2.2.2.2.1.1.2.2.2.2.2.2 i c (by omega) hsv
      have k14 : x.2.1 14 i = nI c := by rw [(J4.2.2.2.1.2.2.2.1 i (by omega)).1, hsv]
      have cx : f_X1_choose s4 x (nI i) = some x := by
        unfold f_X1_choose
        rw [nb_nI (by omega) (by decide), nI_clamp (by omega), k14]
        simp only [if_neg (nI_nm (show c < 2 ^ 31 by omega))]
      simp only [cx, if_neg nW]
      exact ⟨_, _, rfl, rfl, rfl, rfl, Fy, A4, J4.up (by omega) (by omega), V4, x4, sc4, dd4⟩
    | none =>
      obtain ⟨x', y', A5, g1, g2, F5, J5, V5, cf, ut, no, _⟩ := ab_ch2 (d := i) (by omega) hsv (by omega) J4 V4
      simp only [if_true, g1]
      have x5 : ab_fx p S f A5 := by
        intro f' hf
        rw [(ab_cnts (A := A4) (A' := A5) (fun i w => cf.1 _ _ _ (by omega) (by omega)) (fun i w => cf.1 _ _ _ (by omega) (by omega)) S).1]
        rcases x4 f' hf with h | h
        · exact .inl (fun k hk => by rw [cf.1 _ _ _ (by omega) (by omega)]; exact h k hk)
        · exact .inr h
      have rest : ∃ A6, ab_J D S T m2 n (N + 1319 + (i + 1)) p A6 L3 W3 G3 s4 x' y' ∧ ab_V D S m2 f A6 L3 ∧ ab_fx p S f A6 ∧ (∀ w, A6.1 0 0 w = A3.1 0 0 w) ∧ (∀ d c, d ≤ D → A6.2.2.2 d = some c → A6.1 1 d 1 ≠ nI n) := by
        refine ⟨A5, J5, V5, x5, fun w => (cf.1 _ _ _ (by omega) (by omega)).trans (sc4 w), fun d c h1 h2 => ?_⟩
        by_cases z : d = i
        · rw [z] at h2 ⊢
          exact ut c h2
        · rw [cf.2 d z] at h2
          rw [cf.1 _ _ _ (by omega) (by omega)]
          exact dd4 d c h1 h2
      by_cases z : nI i = ab_fw f
      · simp only [if_pos z]
        have fi : f = some i := by
          cases f with
          | none => exact absurd z (nI_nm (by omega))
          | some f =>
            have := V4.1.2.1
            rw [(nI_eq (by omega) (by omega)).mp z]
        have nos := no (fun w t _ ht => by
          unfold ab_cd
          rw [(ab_off (t := t) (show i ≤ D by omega) hD (by omega) fi J4.2.2.2.2.2.1 V4).1])
        rw [nos.2] at rest F5
        exact ⟨_, _, rfl, rfl, rfl, rfl, Fy, rest⟩
      · simp only [if_neg z, g2]
        exact ⟨_, _, rfl, rfl, rfl, rfl, Fy.trans F5, rest⟩) (by
    rintro ⟨x, x2⟩ ⟨y, y2⟩ ⟨rfl, rfl, Fy, A4, J4, V4, x4, sc4, dd4⟩
    simp only [] at J4 Fy
    have gt : p 0 < nI (D + 1) := by
      rw [hp.1]
      exact (nI_ltI (by omega) (by omega)).mpr (by omega)
    have gt' : s4.1 0 0 < nI (D + 1) := by rw [H.1.1]; exact gt
    unfold lb_X1_runTo_79 lb_X9_passTick_38
    simp only [if_pos gt', disks_w J4.2.2.1, if_pos gt]
    exact ⟨_, _, rfl, rfl, x, rfl, Fy, A4, J4.up (by omega) (by omega), V4, x4, sc4, dd4⟩) (x := (s53, l1, l2, l3, 0)) (y := (s3, 0)) ⟨rfl, rfl, rf_F.rfl' s3, A3, J3.up (by omega) (by omega), V3, x3, fun _ => rfl, dd3⟩
  have FF := ((F1.trans F2).trans F3).trans F4
  refine ⟨s54, e', W3, G3, A4, L3, m2, ln2, ?_, ?_, FF, ⟨J4.up (by omega) (by omega), V4, TR.fr FF, ⟨by rw [sc4]; exact sf3.1, by rw [sc4]; exact sf3.2, zl, zd⟩, dd4, x4⟩, ?_, ?_, fun h => ?_⟩
  · obtain ⟨e0, q1, q2⟩ := a1
    have gt' : s4.1 0 0 < nI (D + 1) := by
      rw [H.1.1, hp.1]
      exact (nI_ltI (by omega) (by omega)).mpr (by omega)
    have un : lb_X1_runTo_44 s4 s6 (s51, l1, l2, l3, nI (D + 1)) = some (.inr (.inl (s54, l1, l2, l3 + 1))) := by
      unfold lb_X1_runTo_44
      simp only [if_pos gt', b1, c1, d1]
    rw [un] at q2
    rw [q1]
    cases e0 with
    | none => cases q2
    | some z =>
      have q3 := Option.some.inj q2
      exact congrArg some (Sum.inr.inj q3).symm
  · unfold tk_R
    simp only [a2, b2]
    by_cases z : s2.2.2.1 3 1 = -1
    · rw [if_pos z] at c2 ⊢
      rw [Option.some.inj c2]
      exact d2
    · rw [if_neg z] at c2 ⊢
      simp only [c2]
      exact d2
  · rw [sc4, sc3 9 (.inl rfl), lf.2.1 9 (by decide) (by decide) (by decide) (by decide), sc1 9 (by decide) (by decide) (by decide)]
  · rw [sc4, sc3 10 (.inr (.inl rfl)), lf.2.1 10 (by decide) (by decide) (by decide) (by decide), sc1 10 (by decide) (by decide) (by decide)]
  · rw [sc4, sc3 7 (.inr (.inr rfl)), lf.2.1 7 (by decide) (by decide) (by decide) (by decide), w71 h]
