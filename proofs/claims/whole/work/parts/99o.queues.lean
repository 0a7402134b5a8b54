/-! A disk fails, in both programs: its queues are emptied. -/
/-- while the queues of disk f are being emptied -/
def ab_Y (D S T m n N f : Nat) (p : Nat → Int32) (A0 A : ab_S) (L : Nat → Bool) (W : Nat → Nat) (F : List Nat) (s4 s5 : cs_S) (s : mo_S) : Prop :=
  ab_J D S T m n N p A L W F s4 s5 s ∧ ab_V1 D S m f 7 A L ∧ A.2.2.2 = A0.2.2.2 ∧ (∀ w, A.1 0 0 w = A0.1 0 0 w) ∧ (∀ d w, A.1 1 d w = A0.1 1 d w)
/-- the first operation of a queue of disk f is lost -/
theorem ab_lose1 {D S T m n N f t : Nat} {p : Nat → Int32} {A0 A : ab_S} {L : Nat → Bool} {W : Nat → Nat} {F : List Nat} {s4 s5 : cs_S} {s : mo_S} {a : ab_O} {l : List ab_O} (ht : t < 6) (hf : f < D) (hl : A.2.1 (6 * f + t) = a :: l) (hN : N + 7 ≤ 1000000000000) (H : ab_Y D S T m n N f p A0 A L W F s4 s5 s) :
    ∃ s51 s5' s1 s' W' F' A' L', f_X3_removeFirst s5 (nI (6 * f + t)) = some (nI a.1, s51) ∧ f_X1_loseOperation s4 s51 (nI a.1) = some s5' ∧ vn s 2 (6 * f + t) 0 = nI (W a.1) ∧ W a.1 < 2200 ∧ f_X9_removeFirst s (nI (6 * f + t)) = some s1 ∧ f_X9_handle s1 (nI (W a.1)) = some s' ∧ rf_F s s' ∧ ab_Y D S T m n (N + 7) f p A0 A' L' W' F' s4 s5' s' ∧ (∀ q, q / 6 = f → A'.2.1 q = if q = 6 * f + t then l else A.2.1 q) := by
  obtain ⟨⟨hP, hp, hs, hC, hR, hB, hF⟩, V, y1, y2, y3⟩ := H
  have hD := hp.2.2.2.2.1
  have hq : 6 * f + t < 42 := by omega
  have ma : a ∈ A.2.1 (6 * f + t) := by rw [hl]; exact List.mem_cons_self
  have la : ab_live A a.1 := .inl ⟨_, hq, a, ma, rfl⟩
  have La : L a.1 = true := (hB.2.1 a.1).mpr la
  have ha := hB.1.2.2.1 _ a hq ma
  have h3 := hB.2.2.1 _ a hq ma
  have hge : 448 ≤ a.1 := by
    apply Classical.byContradiction
    intro h
    rw [V.2.2.2.2.2 a.1 (by omega)] at La
    cases La
  have hm5 := hB.2.2.2.2.1 a.1 La
  obtain ⟨s51, e1, C1⟩ := ab_C_pop hq hl hB.1 hC
  obtain ⟨s1, e2, F1, R1, O1, o1⟩ := ab_R_pop hq hl hR
  have hl' : A.2.1 (6 * f + t) = [] ++ a :: l := hl
  obtain ⟨lv, sub, nd, le⟩ := ab_live_rm hq hl' hB.1
  simp only [List.nil_append] at lv sub nd le
  have Q := (hR.2.2.2.1 _ hq).2.1
  rw [hl] at Q
  have b : ab_B D S T m n N (ab_pm (ab_q A (6 * f + t) l) a.1) (ab_L L a.1 false) := by
    refine ab_B_rm (A := A) La (fun q x _ hx => by rw [ab_pm_2] at hx; exact sub q x hx) (fun q hq' => by rw [ab_pm_2]; exact nd q hq') (fun q _ => by rw [ab_pm_2]; exact le q) (by rw [ab_pm_2]; rfl) (fun d _ => .inl ⟨by rw [ab_pm_2]; rfl, ab_pm_1 _ _ _ _ _ (by omega)⟩) (fun y => by rw [ab_live_2 (ab_pm_2 _ _)]; exact lv y) (fun g i w h h' => ab_pm_1 _ _ _ _ _ (by omega)) (fun r => by rw [ab_pm_3]; rfl) hB
  have hrow : (ab_q A (6 * f + t) l).1 5 (a.1 / 7 - 64) 3 = nI (ab_row L (64 + (a.1 / 7 - 64))) := (hB.2.2.2.2.2.2.1 _ (by omega)).2.2.2
  have Oa := hR.2.2.2.2.2.2.2.2.2.1 a.1 la
  obtain ⟨s5', s', W', F', A', L', g1, g2, g3, J', V', rq, off, qs⟩ := ab_hd (A := ab_q A (6 * f + t) l) (h := 7) La hge ha (by omega) (by omega) hN hP hp (by rw [F1.2.2.1 0 (by decide)]; exact hs) C1 R1 O1 (hR.2.2.2.2.2.2.2.2.2.2.2.2.2 a.1 la) (fun y hy e => ((lv y).mp hy).2 (hR.2.2.2.2.2.2.2.2.2.2.1 y a.1 ((lv y).mp hy).1 la e)) b hF hrow V
  refine ⟨s51, s5', s1, s', W', F', A', L', e1, g1, Q.1, Oa.1, e2, g2, F1.trans g3, ⟨J', V', rq.2.1.trans y1, fun w => (rq.1 _ _ _ (by omega) (by omega)).trans (y2 w), fun d w => (rq.1 _ _ _ (by omega) (by omega)).trans (y3 d w)⟩, fun q hq' => ?_⟩
  rw [qs q hq', ab_q_2]
/-- one queue of disk f -/
theorem ab_loseQ {D S T m n N f t : Nat} {p : Nat → Int32} {A0 A : ab_S} {L : Nat → Bool} {W : Nat → Nat} {F : List Nat} {s4 s5 : cs_S} {s : mo_S} {x sv : Int32} (ht : t < T) (hf : f < D) (hN : N + 21000 ≤ 1000000000000) (H : ab_Y D S T m n N f p A0 A L W F s4 s5 s) :
    ∃ s5' s' W' F' A' L' x', pm_loop pm_fu (lb_X1_loseDisk_67 s4) (s5, nI f, x, sv, nI t, nI (6 * f + t), s5.2.1 4 (6 * f + t)) = some (.inl (s5', nI f, x', sv, nI (t + 1))) ∧ pm_loop pm_fu lb_X9_fail_113 (s, nI f, x, nI t, nI (6 * f + t)) = some (.inl (s', nI f, x', nI (t + 1))) ∧ rf_F s s' ∧ ab_Y D S T m n (N + 21000) f p A0 A' L' W' F' s4 s5' s' ∧ (∀ q, q / 6 = f → A'.2.1 q = if q = 6 * f + t then [] else A.2.1 q) := by
  have hp := H.1.2.1
  have hD := hp.2.2.2.2.1
  have hT := hp.2.2.2.2.2.2.2.2.1
  have hq : 6 * f + t < 42 := by omega
  have hlen := H.1.2.2.2.2.2.1.1.2.2.2.1 _ hq
  have k4 : s5.2.1 4 (6 * f + t) = nI (A.2.1 (6 * f + t)).length := (H.1.2.2.2.1.2.2.1 _ hq).1
  rw [k4]
  obtain ⟨e, e', h1, h2, s5', s', x', rfl, rfl, Fs, W', F', A', L', Y', qs⟩ := lp2_wh (Q := fun e e' => ∃ s5' s' x', e = .inl (s5', nI f, x', sv, nI (t + 1)) ∧ e' = .inl (s', nI f, x', nI (t + 1)) ∧ rf_F s s' ∧ ∃ W' F' A' L', ab_Y D S T m n (N + 21000) f p A0 A' L' W' F' s4 s5' s' ∧ (∀ q, q / 6 = f → A'.2.1 q = if q = 6 * f + t then [] else A.2.1 q)) (B := lb_X1_loseDisk_67 s4) (B' := lb_X9_fail_113) (fun mm y z => ∃ x' W' F' A' L' M, y.2 = (nI f, x', sv, nI t, nI (6 * f + t), nI mm) ∧ z.2 = (nI f, x', nI t, nI (6 * f + t)) ∧ rf_F s z.1 ∧ M + 7 * mm ≤ N + 21000 ∧ ab_Y D S T m n M f p A0 A' L' W' F' s4 y.1 z.1 ∧ (A'.2.1 (6 * f + t)).length = mm ∧ (∀ q, q / 6 = f → q ≠ 6 * f + t → A'.2.1 q = A.2.1 q)) (by
    rintro mm ⟨y, y2⟩ ⟨z, z2⟩ ⟨x', W1, F1, A1, L1, M, rfl, rfl, Fz, hM, Y1, hmm, oq⟩
    simp only [] at Y1 Fz
    have hlen1 := Y1.1.2.2.2.2.2.1.1.2.2.2.1 _ hq
    have le0 : nI mm ≤ 0 ↔ mm = 0 := nI_le0 (by omega)
    unfold lb_X1_loseDisk_67 lb_X9_fail_113
    cases hl : A1.2.1 (6 * f + t) with
    | nil =>
      have m0 : mm = 0 := by rw [← hmm, hl]; rfl
      have Q := (Y1.1.2.2.2.2.1.2.2.2.1 _ hq).2.1
      rw [hl] at Q
      simp only [if_pos (le0.mpr m0), ofQueue_0 z hq, Q.1, if_true, nI_1]
      refine .inr ⟨_, _, rfl, rfl, y, z, x', rfl, rfl, Fz, W1, F1, A1, L1, ⟨Y1.1.up (by omega) hN, Y1.2⟩, fun q hq' => ?_⟩
      by_cases u : q = 6 * f + t
      · rw [if_pos u, u]
        exact hl
      · rw [if_neg u]
        exact oq q hq' u
    | cons a l =>
      have m1 : mm = l.length + 1 := by rw [← hmm, hl]; rfl
      obtain ⟨s51, s52, s1, s2, W2, F2, A2, L2, a1, a2, a3, a4, a5, a6, a7, Y2, a8⟩ := ab_lose1 (t := t) (by omega) hf hl (by omega) Y1
      have nz : ¬ nI mm ≤ 0 := fun h => absurd (le0.mp h) (by omega)
      have nW : ¬ nI (W1 a.1) = -1 := nI_nm (by omega)
      have dec : nI mm + (-1) = nI l.length := by rw [m1, ← Int32.sub_eq_add_neg, nI_pred]
      simp only [if_neg nz, a1, a2, ofQueue_0 z hq, a3, if_neg nW, a5, a6, dec]
      refine .inl ⟨_, _, l.length, rfl, rfl, by omega, x' + 1, W2, F2, A2, L2, M + 7, rfl, rfl, Fz.trans a7, by omega, Y2, ?_, fun q hq' hne => ?_⟩
      · rw [a8 _ (by omega), if_pos rfl]
      · rw [a8 q hq', if_neg hne]
        exact oq q hq' hne) (A.2.1 (6 * f + t)).length pm_fu (s5, nI f, x, sv, nI t, nI (6 * f + t), nI (A.2.1 (6 * f + t)).length) (s, nI f, x, nI t, nI (6 * f + t)) (by unfold pm_fu; omega) ⟨x, W, F, A, L, N, rfl, rfl, rf_F.rfl' s, by omega, H, rfl, fun _ _ _ => rfl⟩
  exact ⟨s5', s', W', F', A', L', x', h1, h2, Fs, Y', qs⟩
