/-! A disk's service ends, in both programs: the whole step. -/
theorem requestBehind_w {c : Nat} (hc : c < 3248) (h : 448 ≤ c) : f_X3_requestBehind (nI c) = some (nI (c / 7 - 64)) := by
  have e7 : nI c / 7 = nI (c / 7) := nI_div (b := 7) (by omega) (by decide)
  have e : nI (c / 7) - 64 = nI (c / 7 - 64) := nI_sub (b := 64) (by omega)
  unfold f_X3_requestBehind
  rw [e7, e]
theorem ab_es {D S T m n N d : Nat} {f : Option Nat} {p : Nat → Int32} {A : ab_S} {L : Nat → Bool} {W : Nat → Nat} {F : List Nat} {s4 s5 : cs_S} {s : mo_S} (hd : d ≤ D) (hN : N + 1 ≤ 1000000000000) (H : ab_J D S T m n N p A L W F s4 s5 s) (V : ab_V D S m f A L) :
    ∃ s5' s' W' F' A' L', f_X1_endService s4 s5 (nI d) = some s5' ∧ lb_X9_finishServices_2 (s, nI d) = some (.inl (s', nI (d + 1))) ∧ rf_F s s' ∧ ab_J D S T m n (N + 1) p A' L' W' F' s4 s5' s' ∧ ab_V D S m f A' L' ∧ ab_ds A A' d ∧ (∀ c, A'.2.2.2 d = some c → A'.1 1 d 1 ≠ nI n) ∧ (f = none → A'.1 0 0 7 = A.1 0 0 7) := by
  have H' := H
  obtain ⟨hP, hp, hs, hC, hR, hB, hF⟩ := H
  have hBB := hB
  obtain ⟨B1, B2, B3, B4, B5, B6, B7, B8, B9, B10⟩ := hB
  have hD := hp.2.2.2.2.1
  have hS := hp.2.2.2.2.2.2.1
  have hT := hp.2.2.2.2.2.2.2.2.1
  have hm := B6.1
  obtain ⟨VK, Vr, Vs, Vn, Vh, Vo⟩ := V
  have tot := ab_tot hBB VK Vr Vs
  have Cd := hC.2.2.2.1 d (by omega)
  have Rd := (hR.2.2.2.2.1 d (by omega)).1 (Vh d (by omega))
  have nowC : s5.1 0 4 = nI n := hC.1.1.trans B6.2.2.2
  have nowR : s.2.2.1 3 0 = nI n := (hR.1 0 (by decide)).trans B6.2.2.2
  have ltD : ¬ p 0 < nI d := by
    rw [hp.1]
    exact fun h => absurd ((nI_ltI (by omega) (by omega)).mp h) (by omega)
  have same : (∀ c, A.2.2.2 d = some c → A.1 1 d 1 ≠ nI n) → ∃ s5' s' W' F' A' L', some s5 = some s5' ∧ (some (.inl (s, nI (d + 1))) : Option ((mo_S × Int32) ⊕ mo_S)) = some (.inl (s', nI (d + 1))) ∧ rf_F s s' ∧ ab_J D S T m n (N + 1) p A' L' W' F' s4 s5' s' ∧ ab_V D S m f A' L' ∧ ab_ds A A' d ∧ (∀ c, A'.2.2.2 d = some c → A'.1 1 d 1 ≠ nI n) ∧ (f = none → A'.1 0 0 7 = A.1 0 0 7) := fun h =>
    ⟨s5, s, W, F, A, L, rfl, rfl, rf_F.rfl' s, ⟨hP, hp, hs, hC, hR, hBB.up (Nat.le_succ N) hN, hF⟩, ⟨VK, Vr, Vs, Vn, Vh, Vo⟩, ⟨fun _ _ => ⟨rfl, fun _ => rfl⟩, fun _ _ _ _ => rfl⟩, h, fun _ => rfl⟩
  unfold f_X1_endService lb_X9_finishServices_2
  simp (disch := omega) only [nb_nI, nI_clamp, disks_w hs, if_neg ltD, ofDisk_0 s (show d < 7 by omega), ofDisk_1 s (show d < 7 by omega), nb_0_18186, tc_0, nowC, nowR, Cd.1, Cd.2.1, Rd.1, Rd.2.1, nI_1]
  cases hserv : A.2.2.2 d with
  | none =>
    simp only [if_true]
    exact same (fun c hc => by rw [hserv] at hc; cases hc)
  | some c =>
  have hc := B1.2.2.2.2.2.2 d c (by omega) hserv
  have hcd := (B4 d c (by omega) hserv).1
  have Lc : L c = true := (B2 c).mpr (.inr ⟨d, by omega, hserv⟩)
  have lc : ab_live A c := .inr ⟨d, by omega, hserv⟩
  obtain ⟨e, he, he1, he2⟩ := (B8 d (by omega)).2.1 c hserv
  have O := hR.2.2.2.2.2.2.2.2.2.1 c lc
  have nc : ¬ nI c = -1 := nI_nm (by omega)
  have nW : ¬ nI (W c) = -1 := nI_nm (by have := O.1; omega)
  simp only [if_neg nc, if_neg nW, he]
  by_cases en : e = n
  rotate_left
  · have ne : ¬ nI e = nI n := fun h => en ((nI_eq (by omega) (by omega)).mp h)
    simp only [if_neg ne]
    exact same (fun c' _ => by rw [he]; exact ne)
  subst en
  simp only [if_true]
  obtain ⟨s51, r1, C1, i1⟩ := ab_C_rl (S := S) (A := A) (s := s5) (show d < 7 by omega) hC
  have k14 : s5.2.1 14 d = nI c := by rw [Cd.1, hserv]
  rw [k14] at r1
  obtain ⟨s1, s2, g1, g2, F1, R2, o2⟩ := ab_R_rl (show d < 7 by omega) hR
  have lv := fun y => ab_live_rl (A := A) (show d < 7 by omega) hserv B1 y
  obtain ⟨s3, g3, F3, R3, o3⟩ := ab_R_rel (c := c) O.1 (hR.2.2.2.2.2.2.2.2.2.2.2.2.2 c lc) (fun y hy h => ((lv y).mp hy).2 (hR.2.2.2.2.2.2.2.2.2.2.1 y c ((lv y).mp hy).1 lc h)) R2
  have rl1 : ∀ g i w, ¬ (g = 1 ∧ i = d ∧ w = 1) → (ab_rl A d).1 g i w = A.1 g i w := fun g i w h => by rw [ab_rl_1, if_neg h]
  have cnt := ab_cnt_dn Lc 3248 hc
  have hF' : (W c :: F).length + ab_cnt (ab_L L c false) 3248 = 2200 := by
    rw [List.length_cons]
    omega
  have now1 : s51.1 0 4 = s5.1 0 4 := by rw [i1]
  have tenW : vn s2 7 (W c) 0 = ab_ten A c := by rw [o2 _ _ _ (by omega)]; exact O.2.1
  have kndW : vn s2 7 (W c) 1 = ab_kind D A c := by rw [o2 _ _ _ (by omega)]; exact O.2.2.1
  have stpW : vn s2 7 (W c) 2 = ab_stripe A c := by rw [o2 _ _ _ (by omega)]; exact O.2.2.2.1
  have reqW : vn s2 7 (W c) 4 = ab_req c := by rw [o2 _ _ _ (by omega)]; exact O.2.2.2.2
  have fo : f_X9_finishOperation s2 (nI d) (nI (W c)) = (if ab_req c = -1 then (if ab_kind D A c = 1 then f_X9_writeFinished s3 (nI d) (ab_stripe A c) (ab_ten A c) else f_X9_readFinished s3 (nI d) (ab_stripe A c) (ab_ten A c)) else match f_X9_addPending s3 (ab_req c) (-1) with | none => none | some s17 => match f_X9_checkRequest s17 (ab_req c) with | none => none | some s19 => if ab_kind D A c = 1 then f_X9_writeFinished s19 (nI d) (ab_stripe A c) (ab_ten A c) else f_X9_readFinished s19 (nI d) (ab_stripe A c) (ab_ten A c)) := by
    unfold f_X9_finishOperation
    simp only [of_0 s2 O.1, of_1 s2 O.1, of_2 s2 O.1, of_4 s2 O.1, tenW, kndW, stpW, reqW, g3]
    by_cases u : ab_req c = -1
    · simp only [if_pos u]
      by_cases v : ab_kind D A c = 1
      · simp only [if_pos v]
        cases f_X9_writeFinished s3 (nI d) (ab_stripe A c) (ab_ten A c) <;> rfl
      · simp only [if_neg v]
        cases f_X9_readFinished s3 (nI d) (ab_stripe A c) (ab_ten A c) <;> rfl
    · simp only [if_neg u]
      cases f_X9_addPending s3 (ab_req c) (-1) with
      | none => rfl
      | some s17 =>
        simp only []
        cases f_X9_checkRequest s17 (ab_req c) with
        | none => rfl
        | some s19 =>
          simp only []
          by_cases v : ab_kind D A c = 1
          · simp only [if_pos v]
            cases f_X9_writeFinished s19 (nI d) (ab_stripe A c) (ab_ten A c) <;> rfl
          · simp only [if_neg v]
            cases f_X9_readFinished s19 (nI d) (ab_stripe A c) (ab_ten A c) <;> rfl
  simp only [r1, g1, g2, fo, isOfRebuild_w hc]
  have offL : ∀ f', f = some f' → ∀ y, ab_L L c false y = true → y % 7 ≠ f' := fun f' hf y hy => by
    unfold ab_L at hy
    split at hy
    · cases hy
    · exact Vo f' hf y hy
  have rowsL : ∀ r, r < m → ab_row (ab_L L c false) (64 + r) ≤ 5 := fun r hr => by
    by_cases u : c / 7 = 64 + r
    · have := ab_row_dn Lc
      rw [u] at this
      have := Vr r hr
      omega
    · rw [ab_row_L u]
      exact Vr r hr
  by_cases u : c < 448
  · -- an operation of the rebuild
    have hcS : c / 7 < S := by
      have := B5 c Lc
      omega
    have ek : c = 7 * (c / 7) + d := by omega
    have stc : ab_stripe A c = nI (c / 7) := by unfold ab_stripe; rw [if_pos u]
    have tec : ab_ten A c = 0 := by unfold ab_ten; rw [if_pos u]
    have rqc : ab_req c = -1 := by unfold ab_req; rw [if_pos u]
    have knc : ab_kind D A c = if d = D then 1 else 0 := by unfold ab_kind; rw [if_pos u, hcd]
    have stb : f_X5_stripeBehind s51 (nI c) = some (nI (c / 7)) := by rw [stripeBehind_w hc, if_pos u]
    have G0 : ab_G (ab_rl A d) c 0 = ab_rl A d := by unfold ab_G; rw [if_pos u]
    have b := ab_B_rl (t := 0) (show d < 7 by omega) hserv hBB
    rw [G0] at b
    generalize hk : c / 7 = k at *
    cases f with
    | none => exact absurd (VK.2.2.2 c u) (by rw [Lc]; decide)
    | some f =>
    obtain ⟨K1, K2, K3, K4⟩ := VK
    have Ksk := K4 k hcS
    have J0 : ab_J2 D S T m e N p (ab_rl A d) (ab_rl A d) (ab_L L c false) W (W c :: F) s4 s51 s3 := ⟨hP, hp, by rw [(F1.trans F3).2.2.1 0 (by decide)]; exact hs, C1, R3, b, hF', rfl, fun _ _ _ _ _ => rfl⟩
    have K3' : ∀ d' k, d' < 6 → k < 64 → (ab_rl A d).1 3 d' k = 1 → d' < D ∧ d' ≠ f := fun d' k h1 h2 h3 => K3 d' k h1 h2 (by rw [← rl1 _ _ _ (by omega)]; exact h3)
    have K4' : ∀ k', k' < S → k' ≠ k → ab_Ks D f (ab_rl A d) (ab_L L c false) k' := fun k' h1 h2 => ab_Ks_tr (rl1 _ _ _ (by omega)) (fun d' => rl1 _ _ _ (by omega)) (fun d' hd' => if_neg (by omega)) (K4 k' h1)
    have holes' : ∀ d', d' < 7 → (ab_rl A d).1 1 d' 7 = 0 := fun d' h => by rw [rl1 _ _ _ (by omega)]; exact Vh d' h
    have st' : ab_started (ab_rl A d).1 S = ab_started A.1 S := (ab_cnts (A := A) (A' := ab_rl A d) (fun i w => rl1 _ _ _ (by omega)) (fun i w => rl1 _ _ _ (by omega)) S).1
    simp only [stb, if_pos u, i32_10, if_false, stc, tec, rqc, if_true, knc, hP.1, hP.2.1, now1]
    by_cases v : d = D
    · have dp : nI d = p 0 := by rw [hp.1, v]
      have h2 : (ab_rl A d).1 4 k 0 = 2 := by
        rw [rl1 _ _ _ (by omega)]
        rcases Ksk with h | h | h | h
        · have := h.2 d (by omega)
          rw [← ek, Lc] at this
          cases this
        · have := (h.2 d (by omega)).mp (by rw [← ek]; exact Lc)
          omega
        · exact h.1
        · have := h.2 d (by omega)
          rw [← ek, Lc] at this
          cases this
      obtain ⟨s52, s6, e1, e2, F6, J6⟩ := ab_J2_end hcS K2 (by rw [rl1 _ _ _ (by omega)]; exact K1) h2 K3' J0
      have wf : f_X9_writeFinished s3 (nI d) (nI k) 0 = some s6 := by
        unfold f_X9_writeFinished
        simp only [if_true, e2]
      rw [now1] at e1
      simp only [if_pos dp, if_pos v, e1, if_true, wf]
      refine ⟨_, _, W, W c :: F, ab_fn (ab_rl A d) D S k, ab_L L c false, rfl, rfl, (F1.trans F3).trans F6, ⟨J6.1, J6.2.1, J6.2.2.1, J6.2.2.2.1, J6.2.2.2.2.1, J6.2.2.2.2.2.1.up (Nat.le_succ N) hN, J6.2.2.2.2.2.2.1⟩, ⟨⟨by rw [ab_fn_o _ _ _ _ _ _ _ (by omega) (by omega) (by omega), rl1 _ _ _ (by omega)]; exact K1, K2, ?_, ?_⟩, rowsL, ?_, (fun h => by cases h), ?_, offL⟩, ⟨?_, ?_⟩, ?_, (fun h => by cases h)⟩
      · intro d' k' h1 h2 h3
        by_cases z : k' = k
        · rw [z] at h3
          have := ab_fn_3 _ _ _ _ _ h3
          exact absurd (K3' d' k h1 (by omega) this.2).1 this.1
        · rw [ab_fn_o _ _ _ _ _ _ _ (by omega) (by omega) (by omega)] at h3
          exact K3' d' k' h1 h2 h3
      · intro k' hk'
        by_cases z : k' = k
        · rw [z]
          refine .inr (.inr (.inr ⟨ab_fn_4 _ _ _ _, fun d' hd' => ?_⟩))
          unfold ab_L
          by_cases zz : d' = d
          · rw [if_pos (by omega)]
          · rw [if_neg (by omega)]
            rcases Ksk with h | h | h | h
            · exact h.2 d' hd'
            · rw [rl1 _ _ _ (by omega), h.1] at h2
              exact absurd h2 (by decide)
            · cases hl : L (7 * k + d') with
              | false => rfl
              | true =>
                have := (h.2 d' hd').mp hl
                omega
            · exact h.2 d' hd'
        · exact ab_Ks_tr (ab_fn_o _ _ _ _ _ _ _ (by omega) (by omega) (by omega)) (fun d' => ab_fn_o _ _ _ _ _ _ _ (by omega) (by omega) (by omega)) (fun _ _ => rfl) (K4' k' hk' z)
      · refine Nat.le_trans (Nat.le_trans ?_ (Nat.le_of_eq st')) Vs
        unfold ab_started
        refine ab_cnt_mono (fun i hi => ?_) S
        have hi' := of_decide_eq_true hi
        by_cases z : i = k
        · rw [z, ab_fn_4] at hi'
          exact absurd hi' (by decide)
        · rw [ab_fn_o _ _ _ _ _ _ _ (by omega) (by omega) (by omega)] at hi'
          exact decide_eq_true hi'
      · intro d' hd'
        rw [ab_fn_o _ _ _ _ _ _ _ (by omega) (by omega) (by omega)]
        exact holes' d' hd'
      · intro d' hd'
        refine ⟨?_, fun w => ?_⟩
        · rw [ab_fn_2, ab_rl_4, if_neg hd']
        · rw [ab_fn_o _ _ _ _ _ _ _ (by omega) (by omega) (by omega), rl1 _ _ _ (by omega)]
      · intro w h5 h6 h7
        rw [ab_fn_o _ _ _ _ _ _ _ (by omega) (by omega) (by omega), rl1 _ _ _ (by omega)]
      · intro c' hc'
        rw [ab_fn_2, ab_rl_4, if_pos rfl] at hc'
        cases hc'
    · have dp : ¬ nI d = p 0 := by
        rw [hp.1]
        exact fun h => v ((nI_eq (by omega) (by omega)).mp h)
      have st1 : A.1 4 k 0 = 1 ∧ (∀ d', d' < 7 → (L (7 * k + d') = true ↔ d' < D ∧ d' ≠ f ∧ A.1 3 d' k ≠ 1)) := by
        rcases Ksk with h | h | h | h
        · have := h.2 d (by omega)
          rw [← ek, Lc] at this
          cases this
        · exact h
        · have := (h.2 d (by omega)).mp (by rw [← ek]; exact Lc)
          omega
        · have := h.2 d (by omega)
          rw [← ek, Lc] at this
          cases this
      have own := (st1.2 d (by omega)).mp (by rw [← ek]; exact Lc)
      obtain ⟨s52, s6, W', F', A', B', L', e1, e2, F6, J6, fr, ks, hh, s12, cn, s7⟩ := ab_J2_rd (own := true) (t := 0) (d := d) (k := k) (f := f) hcS (by omega) (by decide) ⟨fun _ => rfl, fun _ => rfl⟩ K2 (by rw [rl1 _ _ _ (by omega)]; exact K1) (by rw [ab_rl_4, if_pos rfl]) K3' (by omega) hN (fun _ => ⟨own.1, own.2.1, by rw [rl1 _ _ _ (by omega)]; exact own.2.2, by rw [rl1 _ _ _ (by omega)]; exact st1.1, fun d' hd' => by
        rw [rl1 _ _ _ (by omega)]
        unfold ab_L
        by_cases z : d' = d
        · rw [if_pos (by omega)]
          exact ⟨(fun h => by cases h), fun h => absurd z h.2.2.2⟩
        · rw [if_neg (by omega), st1.2 d' hd']
          exact ⟨fun h => ⟨h.1, h.2.1, h.2.2, z⟩, fun h => ⟨h.1, h.2.1, h.2.2.1⟩⟩⟩) (fun h => by cases h) J0
      have AB : B' = A' := ab_E_eq J6.2.2.2.2.2.2.2 (fun i w => (fr.2.1.1 i w).trans (fr.1.1 i w).symm) (fun i w => (fr.2.1.2.1 i w).trans (fr.1.2.1 i w).symm)
      subst AB
      have e1' : f_X1_endRead s4 s51 (nI d) (nI k) 1 = some s52 := e1
      have e2' : f_X9_readFinished s3 (nI d) (nI k) 0 = some s6 := e2
      have k01 : ¬ (0 : Int32) = 1 := by decide
      simp only [if_neg dp, if_neg v, e1', if_neg k01, e2']
      refine ⟨_, _, W', F', B', L', rfl, rfl, (F1.trans F3).trans F6, ⟨J6.1, J6.2.1, J6.2.2.1, J6.2.2.2.1, J6.2.2.2.2.1, J6.2.2.2.2.2.1, J6.2.2.2.2.2.2.1⟩, ab_V_st hS (by rw [rl1 _ _ _ (by omega)]; exact K1) K2 K3' K4' rowsL (by rw [s12.started (fun k' h => (fr.2.2.2.1 k' h).1), st']; exact Vs) holes' (offL f rfl) hcS fr ks hh, ⟨fun d' hd' => ⟨?_, fun w => ?_⟩, fun w h5 h6 h7 => ?_⟩, fun c' hc' => ?_, (fun h => by cases h)⟩
      · rw [fr.2.2.2.2.2.1, ab_rl_4, if_neg hd']
      · rw [fr.2.2.1 _ _ _ (by decide) (by decide) (by decide), rl1 _ _ _ (by omega)]
      · rw [fr.2.2.2.2.1 w h5 h6 h7, rl1 _ _ _ (by omega)]
      · rw [fr.2.2.2.2.2.1, ab_rl_4, if_pos rfl] at hc'
        cases hc'
  · -- an operation of a request
    have h5 := B5 c Lc
    generalize hr : c / 7 - 64 = r at *
    have hrm : r < m := by omega
    obtain ⟨⟨t, t1, t2, t3⟩, ⟨k, k1, k2⟩, knd, pnd⟩ := B7 r hrm
    have stc : ab_stripe A c = nI k := by unfold ab_stripe; rw [if_neg u, hr, k2]
    have tec : ab_ten A c = nI t := by unfold ab_ten; rw [if_neg u, hr, t3]
    have rqc : ab_req c = nI r := by unfold ab_req; rw [if_neg u, hr]
    have knc : ab_kind D A c = A.1 5 r 6 := by unfold ab_kind; rw [if_neg u, hr]
    have cnt2 : nI r < A.1 0 0 2 := by rw [B6.2.1]; exact (nI_ltI (by omega) (by omega)).mpr hrm
    have cr := C1.2.2.2.2.2.1 r (by omega) (by rw [rl1 _ _ _ (by omega)]; exact cnt2)
    have stb : f_X5_stripeBehind s51 (nI c) = some (nI k) := by
      rw [stripeBehind_w hc, if_neg u, hr, cr.2.2.2.2.2.1, rl1 _ _ _ (by omega), k2]
    have rqb : f_X3_requestBehind (nI c) = some (nI r) := by rw [requestBehind_w hc (by omega), hr]
    have nr : ¬ nI r = -1 := nI_nm (by omega)
    have c7 : c / 7 = 64 + r := by omega
    have rowd := ab_row_dn Lc
    rw [c7] at rowd
    have j7 := ab_row_le (ab_L L c false) (64 + r)
    have k22 : s51.2.1 22 r = A.1 5 r 6 := by rw [cr.2.2.2.2.2.2, rl1 _ _ _ (by omega)]
    obtain ⟨s4', s6, p1, p2, F6, R6⟩ := ab_R_G (c := c) (r := r) (t := t) (j := ab_row (ab_L L c false) (64 + r)) hr (by omega) (by omega) (by rw [rl1 _ _ _ (by omega)]; exact cnt2) (by rw [rl1 _ _ _ (by omega)]; exact t3) (by omega) (by rw [rl1 _ _ _ (by omega), pnd, rowd]) (by omega) R3
    have b := ab_B_rl (t := t) (show d < 7 by omega) hserv hBB
    have J0 : ab_J2 D S T m e N p (ab_rl A d) (ab_G (ab_rl A d) c t) (ab_L L c false) W (W c :: F) s4 s51 s6 := ⟨hP, hp, by rw [((F1.trans F3).trans F6).2.2.1 0 (by decide)]; exact hs, C1, R6, b, hF', ab_G_E _ _ _⟩
    have g1' : ∀ g i w, ¬ (g = 5 ∧ (w = 3 ∨ w = 4)) → g ≠ 6 → ¬ (g = 1 ∧ i = d ∧ w = 1) → (ab_G (ab_rl A d) c t).1 g i w = A.1 g i w := fun g i w h1 h2 h3 => by rw [ab_G_1 _ _ _ _ _ _ h1 h2, rl1 _ _ _ h3]
    have g4' : ∀ d', (ab_G (ab_rl A d) c t).2.2.2 d' = if d' = d then none else A.2.2.2 d' := fun d' => by rw [ab_G_2]; rfl
    have st' : ab_started (ab_G (ab_rl A d) c t).1 S = ab_started A.1 S := (ab_cnts (A := A) (A' := ab_G (ab_rl A d) c t) (fun i w => g1' _ _ _ (by omega) (by omega) (by omega)) (fun i w => g1' _ _ _ (by omega) (by omega) (by omega)) S).1
    have fin : ∀ {M : Nat} {A' B' : ab_S} {L' : Nat → Bool} {W' : Nat → Nat} {F' : List Nat} {s52 : cs_S} {s7 : mo_S}, ab_J2 D S T m e M p A' B' L' W' F' s4 s52 s7 → ab_56 (ab_rl A d) A' → ab_56 (ab_G (ab_rl A d) c t) B' → (∀ w, w = 2 → A'.1 0 0 w = A.1 0 0 w) → ∃ s53, f_X5_endOperation s52 (nI r) (s52.1 0 4) = some s53 ∧ ab_J D S T m e M p B' L' W' F' s4 s53 s7 := by
      intro M A' B' L' W' F' s52 s7 J7 a56 b56 a02
      obtain ⟨s53, q1, q2⟩ := ab_C_G (S := S) (A := A') (s := s52) (c := c) (r := r) (t := t) (j := ab_row (ab_L L c false) (64 + r)) hr (by omega) (by omega) (by rw [a02 2 rfl]; exact cnt2) (by rw [a56.1, rl1 _ _ _ (by omega)]; exact t3) (by omega) (by rw [a56.1, rl1 _ _ _ (by omega), pnd, rowd]) (by omega) J7.2.2.2.1
      have cg := ab_G_cg a56 c t
      have hE := J7.2.2.2.2.2.2.2
      have AB : B' = ab_G A' c t := ab_E_eq ⟨by rw [ab_G_2]; exact hE.1, fun g i w h1 h2 => by rw [ab_G_1 _ _ _ _ _ _ h1 h2]; exact hE.2 g i w h1 h2⟩ (fun i w => by rw [cg.1, b56.1]) (fun i w => by rw [cg.2, b56.2.1])
      rw [← AB] at q2
      exact ⟨s53, q1, J7.1, J7.2.1, J7.2.2.1, q2, J7.2.2.2.2.1, J7.2.2.2.2.2.1, J7.2.2.2.2.2.2.1⟩
    have k01 : ¬ (0 : Int32) = 1 := by decide
    have J0C2 : s51.1 19 0 = A.1 0 0 2 := by rw [C1.1.2.2.1, rl1 _ _ _ (by omega)]
    simp (disch := omega) only [stb, if_neg u, if_true, rqb, nb_nI, nI_clamp, k22, rqc, if_neg nr, p1, p2, stc, tec, knc]
    cases f with
    | none =>
      obtain ⟨K1, K2, K3, K4⟩ := VK
      have hw0 := ab_J2_wr0 (d := d) (k := k) (t := t) k1 (by omega) (by omega) (by omega) (fun h => by rw [g1' _ _ _ (by omega) (by omega) (by omega)]; exact K3 d k (by omega) (by omega)) J0
      have hr0 := ab_J2_rd0 (d := d) (k := k) 0 (nI t) (by rw [g1' _ _ _ (by omega) (by omega) (by omega)]; exact K1) J0
      obtain ⟨s53, q1, J8⟩ := fin J0 (ab_56.refl _) (ab_56.refl _) (fun w _ => rl1 _ _ _ (by omega))
      have V' : ab_V D S m none (ab_G (ab_rl A d) c t) (ab_L L c false) := by
        refine ⟨⟨by rw [g1' _ _ _ (by omega) (by omega) (by omega)]; exact K1, fun k' hk' => by rw [g1' _ _ _ (by omega) (by omega) (by omega)]; exact K2 k' hk', fun d' k' h1 h2 => by rw [g1' _ _ _ (by omega) (by omega) (by omega)]; exact K3 d' k' h1 h2, fun c' hc' => by rw [show ab_L L c false c' = L c' from if_neg (by omega)]; exact K4 c' hc'⟩, rowsL, by rw [st']; exact Vs, fun _ r' hr' h6 => ?_, fun d' hd' => by rw [g1' _ _ _ (by omega) (by omega) (by omega)]; exact Vh d' hd', (fun f' h => by cases h)⟩
        rw [g1' _ _ _ (by omega) (by omega) (by omega)] at h6
        have := Vn rfl r' hr' h6
        by_cases z : c / 7 = 64 + r'
        · have w := ab_row_dn Lc
          rw [z] at w
          omega
        · rw [ab_row_L z]
          exact this
      have tail : rf_F s s6 ∧ ab_J D S T m e (N + 1) p (ab_G (ab_rl A d) c t) (ab_L L c false) W (W c :: F) s4 s53 s6 ∧ ab_V D S m none (ab_G (ab_rl A d) c t) (ab_L L c false) ∧ ab_ds A (ab_G (ab_rl A d) c t) d ∧ (∀ c', (ab_G (ab_rl A d) c t).2.2.2 d = some c' → (ab_G (ab_rl A d) c t).1 1 d 1 ≠ nI e) ∧ (ab_G (ab_rl A d) c t).1 0 0 7 = A.1 0 0 7 := by
        refine ⟨(F1.trans F3).trans F6, ⟨J8.1, J8.2.1, J8.2.2.1, J8.2.2.2.1, J8.2.2.2.2.1, J8.2.2.2.2.2.1.up (Nat.le_succ N) hN, J8.2.2.2.2.2.2⟩, V', ⟨fun d' hd' => ⟨by rw [g4', if_neg hd'], fun w => g1' _ _ _ (by omega) (by omega) (by omega)⟩, fun w _ _ _ => g1' _ _ _ (by omega) (by omega) (by omega)⟩, fun c' hc' => ?_, g1' _ _ _ (by omega) (by omega) (by omega)⟩
        rw [g4', if_pos rfl] at hc'
        cases hc'
      rcases knd with h | h
      · simp only [h, if_neg k01, hr0.1, hr0.2, q1]
        exact ⟨_, _, W, W c :: F, _, _, rfl, rfl, tail.1, tail.2.1, tail.2.2.1, tail.2.2.2.1, tail.2.2.2.2.1, by first | exact fun _ => tail.2.2.2.2.2 | exact tail.2.2.2.2.2⟩
      · simp only [h, if_true, hw0.1, hw0.2, q1]
        exact ⟨_, _, W, W c :: F, _, _, rfl, rfl, tail.1, tail.2.1, tail.2.2.1, tail.2.2.2.1, tail.2.2.2.2.1, by first | exact fun _ => tail.2.2.2.2.2 | exact tail.2.2.2.2.2⟩
    | some f =>
      obtain ⟨K1, K2, K3, K4⟩ := VK
      have K1' : (ab_G (ab_rl A d) c t).1 0 0 1 = nI f := by rw [g1' _ _ _ (by omega) (by omega) (by omega)]; exact K1
      have K3' : ∀ d' k, d' < 6 → k < 64 → (ab_G (ab_rl A d) c t).1 3 d' k = 1 → d' < D ∧ d' ≠ f := fun d' k h1 h2 h3 => K3 d' k h1 h2 (by rw [← g1' _ _ _ (by omega) (by omega) (by omega)]; exact h3)
      have K4' : ∀ k', k' < S → ab_Ks D f (ab_G (ab_rl A d) c t) (ab_L L c false) k' := fun k' h1 => ab_Ks_tr (g1' _ _ _ (by omega) (by omega) (by omega)) (fun d' => g1' _ _ _ (by omega) (by omega) (by omega)) (fun d' hd' => if_neg (by omega)) (K4 k' h1)
      have holes' : ∀ d', d' < 7 → (ab_G (ab_rl A d) c t).1 1 d' 7 = 0 := fun d' h => by rw [g1' _ _ _ (by omega) (by omega) (by omega)]; exact Vh d' h
      have fin2 : ∀ {A' B' : ab_S} {L' : Nat → Bool} {W' : Nat → Nat} {F' : List Nat} {s52 : cs_S} {s7 : mo_S}, rf_F s6 s7 → ab_J2 D S T m e (N + 1) p A' B' L' W' F' s4 s52 s7 → ab_fr k (ab_rl A d) A' (ab_G (ab_rl A d) c t) B' (ab_L L c false) L' → ab_Ks D f B' L' k → (∀ d, d < 6 → B'.1 3 d k = 1 → d < D ∧ d ≠ f) → ab_s12 (ab_G (ab_rl A d) c t) B' k → ∃ s53, f_X5_endOperation s52 (nI r) (s52.1 0 4) = some s53 ∧ rf_F s s7 ∧ ab_J D S T m e (N + 1) p B' L' W' F' s4 s53 s7 ∧ ab_V D S m (some f) B' L' ∧ ab_ds A B' d ∧ (∀ c', B'.2.2.2 d = some c' → B'.1 1 d 1 ≠ nI e) ∧ (some f = none → B'.1 0 0 7 = A.1 0 0 7) := by
        intro A' B' L' W' F' s52 s7 F7 J7 fr ks hh s12
        have a02 : ∀ w, w = 2 → A'.1 0 0 w = A.1 0 0 w := fun w hw => by
          have h1 := J7.2.2.2.2.2.2.2.2 0 0 w (by omega) (by omega)
          have h2 := fr.2.2.2.2.1 w (by omega) (by omega) (by omega)
          rw [← h1, h2, g1' _ _ _ (by omega) (by omega) (by omega)]
        obtain ⟨s53, q1, J8⟩ := fin J7 fr.1 fr.2.1 a02
        refine ⟨s53, q1, ((F1.trans F3).trans F6).trans F7, J8, ab_V_st hS K1' K2 K3' (fun k' h1 _ => K4' k' h1) rowsL (by rw [s12.started (fun k' h => (fr.2.2.2.1 k' h).1), st']; exact Vs) holes' (offL f rfl) k1 fr ks hh, ⟨fun d' hd' => ⟨?_, fun w => ?_⟩, fun w h5 h6 h7 => ?_⟩, fun c' hc' => ?_, (fun h => by cases h)⟩
        · rw [fr.2.2.2.2.2.1, g4', if_neg hd']
        · rw [fr.2.2.1 _ _ _ (by decide) (by decide) (by decide), g1' _ _ _ (by omega) (by omega) (by omega)]
        · rw [fr.2.2.2.2.1 w h5 h6 h7, g1' _ _ _ (by omega) (by omega) (by omega)]
        · rw [fr.2.2.2.2.2.1, g4', if_pos rfl] at hc'
          cases hc'
      rcases knd with h | h
      · obtain ⟨s52, s7, W', F', A', B', L', e1, e2, F7, J7, fr, ks, hh, s12, cn, s7'⟩ := ab_J2_rd (own := false) (t := t) (d := d) (k := k) (f := f) k1 (by omega) (by omega) ⟨(fun h => by cases h), fun h => absurd h (by omega)⟩ K2 K1' (by rw [g4', if_pos rfl]) K3' (by omega) hN (fun h => by cases h) (fun _ => K4' k k1) J0
        have e1' : f_X1_endRead s4 s51 (nI d) (nI k) 0 = some s52 := e1
        obtain ⟨s53, q1, rest⟩ := fin2 F7 J7 fr ks hh s12
        simp only [h, if_neg k01, e1', e2, q1]
        exact ⟨_, _, W', F', B', L', rfl, rfl, rest⟩
      · obtain ⟨s52, s7, W', F', A', B', L', e1, e2, F7, J7, fr, ks, hh, s12, cn, s7'⟩ := ab_J2_wr (t := t) (d := d) (k := k) (f := f) k1 (by omega) (by omega) (by omega) K2 K1' K3' (by omega) hN (K4' k k1) J0
        obtain ⟨s53, q1, rest⟩ := fin2 F7 J7 fr ks hh s12
        simp only [h, if_true, e1, e2, q1]
        exact ⟨_, _, W', F', B', L', rfl, rfl, rest⟩
