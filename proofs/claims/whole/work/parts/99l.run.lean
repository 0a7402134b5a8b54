/-! Time passes, in both programs. -/
/-- the reference: k ticks, or until the rebuild is complete -/
def rt (b : Bool) : Nat → Nat → mo_S → Option mo_S
  | 0, n, s => if s.2.2.1 3 0 = nI n then some s else none
  | k + 1, n, s => if s.2.2.1 3 0 = nI n then (if b = true ∧ s.2.2.1 3 7 ≠ -1 then some s else match f_X9_passTick s with
    | none => none
    | some s' => rt b k (n + 1) s') else none
theorem rt_0 (b : Bool) (n : Nat) (s : mo_S) : rt b 0 n s = if s.2.2.1 3 0 = nI n then some s else none := rfl
theorem rt_s (b : Bool) (k n : Nat) (s : mo_S) : rt b (k + 1) n s = if s.2.2.1 3 0 = nI n then (if b = true ∧ s.2.2.1 3 7 ≠ -1 then some s else match f_X9_passTick s with | none => none | some s' => rt b k (n + 1) s') else none := rfl
theorem ab_run {D S T cnt tg : Nat} {tk : Nat → Nat} {f : Option Nat} {p : Nat → Int32} {s4 s6 : cs_S} (b : Bool) (htg : tg ≤ 99999) : ∀ (k n m N ln c fu : Nat) (A : ab_S) (L : Nat → Bool) (W : Nat → Nat) (F : List Nat) (s5 : cs_S) (s : mo_S), n + k = tg → k < fu → c + k ≤ 99999 → N + 2000 * k ≤ 1000000000000 → ab_Z D S T m n N ln cnt tk f p A L W F s4 s5 s6 s →
    ∃ s5' s' W' F' A' L' m' ln' n', pm_loop fu (lb_X1_runTo_2 s4 s6) (s5, nI tg, (if b = true then 1 else 0), nI c) = some s5' ∧ rt b k n s = some s' ∧ rf_F s s' ∧ ab_Z D S T m' n' (N + 2000 * k) ln' cnt tk f p A' L' W' F' s4 s5' s6 s' ∧ (b = false → n' = tg) ∧ A'.1 0 0 9 = A.1 0 0 9 ∧ A'.1 0 0 10 = A.1 0 0 10 ∧ n ≤ n' ∧ n' ≤ tg ∧ (f = none → A'.1 0 0 7 = A.1 0 0 7) := by
  intro k
  induction k using Nat.strongRecOn with
  | ind k ih =>
    intro n m N ln c fu A L W F s5 s hk hfu hc hN Z
    cases fu with
    | zero => omega
    | succ fu =>
    have ZZ := Z
    obtain ⟨⟨hP, hp, hs, hC, hR, hB, hF⟩, V, TR, ⟨h3, h11, hln, hl⟩, hu, fx⟩ := Z
    have nowC : s5.1 0 4 = nI n := hC.1.1.trans hB.2.2.2.2.2.1.2.2.2
    have hn := hB.2.2.2.2.2.1.2.2.1
    have c7 : s5.1 31 6 = A.1 0 0 7 := hC.1.2.2.2.2.2.2.2.1
    have r7 : s.2.2.1 3 7 = A.1 0 0 7 := hR.1 7 (by decide)
    have r0 : s.2.2.1 3 0 = nI n := (hR.1 0 (by decide)).trans hB.2.2.2.2.2.1.2.2.2
    have cc : ¬ (99999 : Int32) < nI c := fun h => absurd ((nI_ltI (a := 99999) (by decide) (by omega)).mp h) (by omega)
    cases k with
    | zero =>
      have en : n = tg := by omega
      have le : nI tg ≤ nI n := by rw [en]; exact Int32.le_refl _
      refine ⟨s5, s, W, F, A, L, m, ln, n, lp_inr ?_, by rw [rt_0, if_pos r0], rf_F.rfl' s, ZZ, fun _ => en, rfl, rfl, Nat.le_refl n, by omega, fun _ => rfl⟩
      unfold lb_X1_runTo_2
      simp only [if_neg cc, nowC, if_pos le]
    | succ k =>
      have le : ¬ nI tg ≤ nI n := fun h => absurd ((nI_leI (by omega) (by omega)).mp h) (by omega)
      by_cases cm : b = true ∧ A.1 0 0 7 ≠ -1
      · refine ⟨s5, s, W, F, A, L, m, ln, n, lp_inr ?_, ?_, rf_F.rfl' s, ⟨ZZ.1.up (Nat.le_add_right _ _) hN, ZZ.2⟩, (fun h => by rw [cm.1] at h; cases h), rfl, rfl, Nat.le_refl n, by omega, fun _ => rfl⟩
        · unfold lb_X1_runTo_2
          simp only [if_neg cc, nowC, if_neg le, cm.1, if_true, i32_10, if_false, c7, if_neg cm.2]
        · rw [rt_s, if_pos r0, r7, if_pos cm]
      · obtain ⟨e, e1, e2, e3, e4, e5, e6⟩ := ab_ne (tg := tg) (by omega) htg ZZ
        -- the idle ticks
        have idle : ∀ j, n + j < e → ∃ sj, rt b (k + 1) n s = rt b (k + 1 - j) (n + j) sj ∧ rf_F s sj ∧ ab_R D (ab_v A 0 0 0 (nI (n + j))) sj W F := by
          intro j
          induction j with
          | zero =>
            intro _
            exact ⟨s, rfl, rf_F.rfl' s, by rw [Nat.add_zero, ab_now_eq hB.2.2.2.2.2.1.2.2.2]; exact hR⟩
          | succ j ihj =>
            intro hj
            obtain ⟨sj, g1, g2, g3⟩ := ihj (by omega)
            obtain ⟨s', q1, q2, q3⟩ := ab_pass0 (s6 := s6) (e := e) (j := j) hp (by rw [g2.2.2.1 0 (by decide)]; exact hs) (by omega) (by omega) g3 hB V (TR.fr g2) h3 hln e4 e5 fx e6
            have r7j : sj.2.2.1 3 7 = A.1 0 0 7 := (g3.1 7 (by decide)).trans (by rw [ab_v_1, if_neg (by omega)])
            refine ⟨s', ?_, g2.trans q2, q3⟩
            have r0j : sj.2.2.1 3 0 = nI (n + j) := (g3.1 0 (by decide)).trans (by rw [ab_v_1, if_pos ⟨rfl, rfl, rfl⟩])
            rw [g1, show k + 1 - j = (k + 1 - (j + 1)) + 1 by omega, rt_s, if_pos r0j, r7j, if_neg cm, q1]
            rfl
        obtain ⟨j, hj⟩ : ∃ j, n + j + 1 = e := ⟨e - n - 1, by omega⟩
        obtain ⟨sj, g1, g2, g3⟩ := idle j (by omega)
        have he9 : e ≤ 99999 := by omega
        have hN3 : N + 2000 + 2000 * (tg - e) ≤ N + 2000 * (k + 1) := by
          have h1 : tg - e + 1 ≤ k + 1 := by omega
          have h2 := Nat.mul_le_mul_left 2000 h1
          rw [Nat.mul_add] at h2
          omega
        have hN4 : N + 2000 + 2000 * (tg - e) ≤ 1000000000000 := Nat.le_trans hN3 hN
        have hN2 : N + 2000 ≤ 1000000000000 := Nat.le_trans (Nat.le_add_right _ _) hN4
        obtain ⟨s51, s1, W1, F1, A1, L1, m1, ln1, a1, a2, a3, Z1, x9, x10, x7⟩ := ab_pass1 (N := N) (l1 := nI tg) (l2 := if b = true then 1 else 0) (l3 := nI c) (s6 := s6) hP hp (by rw [g2.2.2.1 0 (by decide)]; exact hs) hj he9 hN2 hC hF g3 hB V (TR.fr g2) h3 h11 hln e4 e5
        have r7j : sj.2.2.1 3 7 = A.1 0 0 7 := (g3.1 7 (by decide)).trans (by rw [ab_v_1, if_neg (by omega)])
        obtain ⟨s5', s', W', F', A', L', m', ln', n', b1, b2, b3, Z2, b4, b5, b6, b7, b8, b9⟩ := ih (tg - e) (by omega) e m1 (N + 2000) ln1 (c + 1) fu A1 L1 W1 F1 s51 s1 (by omega) (by omega) (by omega) hN4 Z1
        refine ⟨s5', s', W', F', A', L', m', ln', n', ?_, ?_, (g2.trans a3).trans b3, ⟨Z2.1.up hN3 hN, Z2.2⟩, b4, b5.trans x9, b6.trans x10, by omega, b8, fun h => (b9 h).trans (x7 h)⟩
        · have body : lb_X1_runTo_2 s4 s6 (s5, nI tg, (if b = true then 1 else 0), nI c) = some (.inl (s51, nI tg, (if b = true then 1 else 0), nI (c + 1))) := by
            unfold lb_X1_runTo_2
            rw [nI_1] at a1
            simp only [if_neg cc, nowC, if_neg le, c7, e1]
            cases b with
            | false => exact a1
            | true =>
              have nc : A.1 0 0 7 = -1 := Classical.not_not.mp (fun h => cm ⟨rfl, h⟩)
              simp only [if_true, i32_10, if_false, if_pos nc]
              exact a1
          rw [lp_inl body]
          exact b1
        · have r0j : sj.2.2.1 3 0 = nI (n + j) := (g3.1 0 (by decide)).trans (by rw [ab_v_1, if_pos ⟨rfl, rfl, rfl⟩])
          rw [g1, show k + 1 - j = (tg - e) + 1 by omega, rt_s, if_pos r0j, r7j, if_neg cm, a2, hj]
          exact b2
