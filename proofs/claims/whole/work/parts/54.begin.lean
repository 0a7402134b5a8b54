/-! How the reference begins: its array 'now', whole. -/
/-- all but the array 'now' is as it was -/
def bg_F (s s' : mo_S) : Prop := s'.1 = s.1 ∧ s'.2.1 = s.2.1 ∧ (∀ p, p ≠ 3 → s'.2.2.1 p = s.2.2.1 p) ∧ s'.2.2.2 = s.2.2.2
theorem bg_F.rfl' (s : mo_S) : bg_F s s := ⟨rfl, rfl, fun _ _ => rfl, rfl⟩
theorem bg_F.trans {a b c : mo_S} (h : bg_F a b) (h' : bg_F b c) : bg_F a c := ⟨h'.1.trans h.1, h'.2.1.trans h.2.1, fun p hp => (h'.2.2.1 p hp).trans (h.2.2.1 p hp), h'.2.2.2.trans h.2.2.2⟩
theorem bg_F.a (s : mo_S) (i v : Int32) : bg_F s (mo_a s 3 i v) := ⟨rfl, rfl, fun p hp => by funext k; rw [mo_a_3, if_neg (fun h => hp h.1)], rfl⟩
theorem mo_a_k (s : mo_S) {i : Nat} (v : Int32) (k : Nat) (h : i < 18186) : (mo_a s 3 (nI i) v).2.2.1 3 k = if k = i then v else s.2.2.1 3 k := by
  rw [mo_a_3, nI_clamp (by omega)]
  by_cases hk : k = i
  · rw [if_pos ⟨rfl, hk⟩, if_pos hk]
  · rw [if_neg (fun h => hk h.2), if_neg hk]
def bg_1 (k : Nat) : Int32 := if k = 10 then -1 else if k = 7 then -1 else if k = 1 then -1 else 0
def bg_2 (i k : Nat) : Int32 := if 16 ≤ k ∧ k < 16 + 4 * i ∧ (k - 16) % 4 < 2 then -1 else bg_1 k
def bg_3 (i k : Nat) : Int32 := if 44 ≤ k ∧ k < 44 + 6 * i ∧ (k - 44) % 6 < 2 then -1 else bg_2 7 k
def bg_4 (i k : Nat) : Int32 := if 2744 ≤ k ∧ k < 2744 + 7 * i ∧ (k - 2744) % 7 = 2 then -1 else bg_3 42 k
def bg_5 (i k : Nat) : Int32 := if 2786 ≤ k ∧ k < 2786 + 7 * i ∧ (k - 2786) % 7 = 5 then (if (k - 2786) / 7 = 2199 then -1 else nI ((k - 2786) / 7 + 1)) else bg_4 6 k
theorem bg_l5 {s0 s : mo_S} (F : bg_F s0 s) (H : ∀ k, k < 18186 → s.2.2.1 3 k = bg_4 6 k) : ∃ e, pm_loop pm_fu lb_X9_begin_163 (s, 0) = some e ∧ ∃ t, e = mo_i t 19 0 ∧ bg_F s0 t ∧ ∀ k, k < 18186 → t.2.2.1 3 k = bg_5 2200 k := by
  refine lp_for 2200 (fun i x => x.2 = nI i ∧ bg_F s0 x.1 ∧ ∀ k, k < 18186 → x.1.2.2.1 3 k = bg_5 i k) (by decide) ?_ ?_ ⟨rfl, F, ?_⟩
  · rintro i ⟨s, l⟩ hi ⟨hl, F, H⟩
    simp only at hl F H
    subst hl
    have e1 : ((2786 : Int32) + 7 * nI i) + 5 = nI (2786 + 7 * i + 5) := by
      show (nI 2786 + nI 7 * nI i) + nI 5 = _
      rw [nI_mul, nI_add, nI_add]
    have h1 : ¬ (2200 : Int32) ≤ nI i := fun h => by
      have := (nI_leI (a := 2200) (by decide) (by omega)).mp h
      omega
    by_cases h2 : 2200 ≤ i + 1
    · have h2' : (2200 : Int32) ≤ nI (i + 1) := (nI_leI (a := 2200) (by decide) (by omega)).mpr h2
      refine ⟨(mo_a s 3 (nI (2786 + 7 * i + 5)) (-1), nI (i + 1)), ?_, rfl, F.trans (bg_F.a _ _ _), ?_⟩
      · unfold lb_X9_begin_163
        simp only [if_neg h1, if_pos h2', e1, nb_nI (show 2786 + 7 * i + 5 < 18186 by omega) (by decide), nI_1]
      · intro k hk
        show (mo_a s 3 (nI (2786 + 7 * i + 5)) (-1)).2.2.1 3 k = _
        rw [mo_a_k _ _ _ (by omega)]
        unfold bg_5
        by_cases hA : k = 2786 + 7 * i + 5
        · rw [if_pos hA, if_pos (by omega), if_pos (by omega)]
        · rw [if_neg hA, H k hk]
          unfold bg_5
          have e : (2786 ≤ k ∧ k < 2786 + 7 * (i + 1) ∧ (k - 2786) % 7 = 5) ↔ (2786 ≤ k ∧ k < 2786 + 7 * i ∧ (k - 2786) % 7 = 5) := by omega
          simp only [e]
    · have h2' : ¬ (2200 : Int32) ≤ nI (i + 1) := fun h => h2 ((nI_leI (a := 2200) (by decide) (by omega)).mp h)
      refine ⟨(mo_a s 3 (nI (2786 + 7 * i + 5)) (nI (i + 1)), nI (i + 1)), ?_, rfl, F.trans (bg_F.a _ _ _), ?_⟩
      · unfold lb_X9_begin_163
        simp only [if_neg h1, if_neg h2', e1, nb_nI (show 2786 + 7 * i + 5 < 18186 by omega) (by decide), nI_1]
      · intro k hk
        show (mo_a s 3 (nI (2786 + 7 * i + 5)) (nI (i + 1))).2.2.1 3 k = _
        rw [mo_a_k _ _ _ (by omega)]
        unfold bg_5
        by_cases hA : k = 2786 + 7 * i + 5
        · rw [if_pos hA, if_pos (by omega), if_neg (by omega)]
          congr 1
          omega
        · rw [if_neg hA, H k hk]
          unfold bg_5
          have e : (2786 ≤ k ∧ k < 2786 + 7 * (i + 1) ∧ (k - 2786) % 7 = 5) ↔ (2786 ≤ k ∧ k < 2786 + 7 * i ∧ (k - 2786) % 7 = 5) := by omega
          simp only [e]
  · rintro ⟨s, l⟩ ⟨hl, F, H⟩
    simp only at hl F H
    subst hl
    exact ⟨_, by unfold lb_X9_begin_163; simp only [if_pos (show (2200 : Int32) ≤ nI 2200 by decide)], s, rfl, F, H⟩
  · intro k hk
    show s.2.2.1 3 k = _
    rw [H k hk]
    unfold bg_5
    rw [if_neg (by omega)]
theorem bg_l4 {s0 s : mo_S} (F : bg_F s0 s) (H : ∀ k, k < 18186 → s.2.2.1 3 k = bg_3 42 k) : ∃ e, pm_loop pm_fu lb_X9_begin_133 (s, 0) = some e ∧ ∃ t, e = mo_i t 19 0 ∧ bg_F s0 t ∧ ∀ k, k < 18186 → t.2.2.1 3 k = bg_5 2200 k := by
  refine lp_for 6 (fun i x => x.2 = nI i ∧ bg_F s0 x.1 ∧ ∀ k, k < 18186 → x.1.2.2.1 3 k = bg_4 i k) (by decide) ?_ ?_ ⟨rfl, F, ?_⟩
  · rintro i ⟨s, l⟩ hi ⟨hl, F, H⟩
    simp only at hl F H
    subst hl
    have e1 : ((2744 : Int32) + 7 * nI i) + 2 = nI (2744 + 7 * i + 2) := by
      show (nI 2744 + nI 7 * nI i) + nI 2 = _
      rw [nI_mul, nI_add, nI_add]
    have h1 : ¬ (6 : Int32) ≤ nI i := fun h => by
      have := (nI_leI (a := 6) (by decide) (by omega)).mp h
      omega
    refine ⟨(mo_a s 3 (nI (2744 + 7 * i + 2)) (-1), nI (i + 1)), ?_, rfl, F.trans (bg_F.a _ _ _), ?_⟩
    · unfold lb_X9_begin_133
      simp only [if_neg h1, e1, nb_nI (show 2744 + 7 * i + 2 < 18186 by omega) (by decide), nI_1]
    · intro k hk
      show (mo_a s 3 (nI (2744 + 7 * i + 2)) (-1)).2.2.1 3 k = _
      rw [mo_a_k _ _ _ (by omega)]
      unfold bg_4
      by_cases hA : k = 2744 + 7 * i + 2
      · rw [if_pos hA, if_pos (by omega)]
      · rw [if_neg hA, H k hk]
        unfold bg_4
        have e : (2744 ≤ k ∧ k < 2744 + 7 * (i + 1) ∧ (k - 2744) % 7 = 2) ↔ (2744 ≤ k ∧ k < 2744 + 7 * i ∧ (k - 2744) % 7 = 2) := by omega
        simp only [e]
  · rintro ⟨s, l⟩ ⟨hl, F, H⟩
    simp only at hl F H
    subst hl
    obtain ⟨e, h1, h2⟩ := bg_l5 F H
    exact ⟨e, by unfold lb_X9_begin_133; simp only [if_pos (show (6 : Int32) ≤ nI 6 by decide), h1], h2⟩
  · intro k hk
    show s.2.2.1 3 k = _
    rw [H k hk]
    unfold bg_4
    rw [if_neg (by omega)]
theorem bg_l3 {s0 s : mo_S} (F : bg_F s0 s) (H : ∀ k, k < 18186 → s.2.2.1 3 k = bg_2 7 k) : ∃ e, pm_loop pm_fu lb_X9_begin_89 (s, 0) = some e ∧ ∃ t, e = mo_i t 19 0 ∧ bg_F s0 t ∧ ∀ k, k < 18186 → t.2.2.1 3 k = bg_5 2200 k := by
  refine lp_for 42 (fun i x => x.2 = nI i ∧ bg_F s0 x.1 ∧ ∀ k, k < 18186 → x.1.2.2.1 3 k = bg_3 i k) (by decide) ?_ ?_ ⟨rfl, F, ?_⟩
  · rintro i ⟨s, l⟩ hi ⟨hl, F, H⟩
    simp only at hl F H
    subst hl
    have e0 : ((44 : Int32) + 6 * nI i) + 0 = nI (44 + 6 * i) := by
      show (nI 44 + nI 6 * nI i) + nI 0 = _
      rw [nI_mul, nI_add, nI_add]
      rfl
    have e1 : ((44 : Int32) + 6 * nI i) + 1 = nI (44 + 6 * i + 1) := by
      show (nI 44 + nI 6 * nI i) + nI 1 = _
      rw [nI_mul, nI_add, nI_add]
    have h1 : ¬ (42 : Int32) ≤ nI i := fun h => by
      have := (nI_leI (a := 42) (by decide) (by omega)).mp h
      omega
    refine ⟨(mo_a (mo_a s 3 (nI (44 + 6 * i)) (-1)) 3 (nI (44 + 6 * i + 1)) (-1), nI (i + 1)), ?_, rfl, (F.trans (bg_F.a _ _ _)).trans (bg_F.a _ _ _), ?_⟩
    · unfold lb_X9_begin_89
      simp only [if_neg h1, e0, e1, nb_nI (show 44 + 6 * i + 1 < 18186 by omega) (by decide), nb_nI (show 44 + 6 * i < 18186 by omega) (by decide), nI_1]
    · intro k hk
      show (mo_a (mo_a s 3 (nI (44 + 6 * i)) (-1)) 3 (nI (44 + 6 * i + 1)) (-1)).2.2.1 3 k = _
      rw [mo_a_k _ _ _ (by omega), mo_a_k _ _ _ (by omega)]
      unfold bg_3
      by_cases hA : k = 44 + 6 * i + 1
      · rw [if_pos hA, if_pos (by omega)]
      · rw [if_neg hA]
        by_cases hB : k = 44 + 6 * i
        · rw [if_pos hB, if_pos (by omega)]
        · rw [if_neg hB, H k hk]
          unfold bg_3
          have e : (44 ≤ k ∧ k < 44 + 6 * (i + 1) ∧ (k - 44) % 6 < 2) ↔ (44 ≤ k ∧ k < 44 + 6 * i ∧ (k - 44) % 6 < 2) := by omega
          simp only [e]
  · rintro ⟨s, l⟩ ⟨hl, F, H⟩
    simp only at hl F H
    subst hl
    obtain ⟨e, h1, h2⟩ := bg_l4 F H
    exact ⟨e, by unfold lb_X9_begin_89; simp only [if_pos (show (42 : Int32) ≤ nI 42 by decide), h1], h2⟩
  · intro k hk
    show s.2.2.1 3 k = _
    rw [H k hk]
    unfold bg_3
    rw [if_neg (by omega)]
theorem bg_l2 {s0 s : mo_S} (F : bg_F s0 s) (H : ∀ k, k < 18186 → s.2.2.1 3 k = bg_1 k) : ∃ e, pm_loop pm_fu lb_X9_begin_47 (s, 0) = some e ∧ ∃ t, e = mo_i t 19 0 ∧ bg_F s0 t ∧ ∀ k, k < 18186 → t.2.2.1 3 k = bg_5 2200 k := by
  refine lp_for 7 (fun i x => x.2 = nI i ∧ bg_F s0 x.1 ∧ ∀ k, k < 18186 → x.1.2.2.1 3 k = bg_2 i k) (by decide) ?_ ?_ ⟨rfl, F, ?_⟩
  · rintro i ⟨s, l⟩ hi ⟨hl, F, H⟩
    simp only at hl F H
    subst hl
    have e0 : ((16 : Int32) + 4 * nI i) + 0 = nI (16 + 4 * i) := by
      show (nI 16 + nI 4 * nI i) + nI 0 = _
      rw [nI_mul, nI_add, nI_add]
      rfl
    have e1 : ((16 : Int32) + 4 * nI i) + 1 = nI (16 + 4 * i + 1) := by
      show (nI 16 + nI 4 * nI i) + nI 1 = _
      rw [nI_mul, nI_add, nI_add]
    have h1 : ¬ (7 : Int32) ≤ nI i := fun h => by
      have := (nI_leI (a := 7) (by decide) (by omega)).mp h
      omega
    refine ⟨(mo_a (mo_a s 3 (nI (16 + 4 * i)) (-1)) 3 (nI (16 + 4 * i + 1)) (-1), nI (i + 1)), ?_, rfl, (F.trans (bg_F.a _ _ _)).trans (bg_F.a _ _ _), ?_⟩
    · unfold lb_X9_begin_47
      simp only [if_neg h1, e0, e1, nb_nI (show 16 + 4 * i + 1 < 18186 by omega) (by decide), nb_nI (show 16 + 4 * i < 18186 by omega) (by decide), nI_1]
    · intro k hk
      show (mo_a (mo_a s 3 (nI (16 + 4 * i)) (-1)) 3 (nI (16 + 4 * i + 1)) (-1)).2.2.1 3 k = _
      rw [mo_a_k _ _ _ (by omega), mo_a_k _ _ _ (by omega)]
      unfold bg_2
      by_cases hA : k = 16 + 4 * i + 1
      · rw [if_pos hA, if_pos (by omega)]
      · rw [if_neg hA]
        by_cases hB : k = 16 + 4 * i
        · rw [if_pos hB, if_pos (by omega)]
        · rw [if_neg hB, H k hk]
          unfold bg_2
          have e : (16 ≤ k ∧ k < 16 + 4 * (i + 1) ∧ (k - 16) % 4 < 2) ↔ (16 ≤ k ∧ k < 16 + 4 * i ∧ (k - 16) % 4 < 2) := by omega
          simp only [e]
  · rintro ⟨s, l⟩ ⟨hl, F, H⟩
    simp only at hl F H
    subst hl
    obtain ⟨e, h1, h2⟩ := bg_l3 F H
    exact ⟨e, by unfold lb_X9_begin_47; simp only [if_pos (show (7 : Int32) ≤ nI 7 by decide), h1], h2⟩
  · intro k hk
    show s.2.2.1 3 k = _
    rw [H k hk]
    unfold bg_2
    rw [if_neg (by omega)]
/-- begin() -/
theorem bg_all (s : mo_S) : ∃ e, f_X9_begin s = some e ∧ ∃ t, e = mo_i t 19 0 ∧ bg_F s t ∧ ∀ k, k < 18186 → t.2.2.1 3 k = bg_5 2200 k := by
  unfold f_X9_begin
  refine lp_for 18186 (fun i x => x.2 = nI i ∧ bg_F s x.1 ∧ ∀ k, k < i → x.1.2.2.1 3 k = 0) (by decide) ?_ ?_ ⟨rfl, bg_F.rfl' s, fun k hk => by omega⟩
  · rintro i ⟨s, l⟩ hi ⟨hl, F, H⟩
    simp only at hl F H
    subst hl
    have h1 : ¬ (18186 : Int32) ≤ nI i := fun h => by
      have := (nI_leI (a := 18186) (by decide) (by omega)).mp h
      omega
    refine ⟨(mo_a s 3 (nI i) 0, nI (i + 1)), ?_, rfl, F.trans (bg_F.a _ _ _), ?_⟩
    · unfold lb_X9_begin_2
      simp only [if_neg h1, nb_nI hi (by decide), nI_1]
    · intro k hk
      show (mo_a s 3 (nI i) 0).2.2.1 3 k = _
      rw [mo_a_k _ _ _ hi]
      by_cases hA : k = i
      · rw [if_pos hA]
      · rw [if_neg hA, H k (by omega)]
  · rintro ⟨s, l⟩ ⟨hl, F, H⟩
    simp only at hl F H
    subst hl
    obtain ⟨e, h1, h2⟩ := bg_l2 (s := mo_a (mo_a (mo_a s 3 1 (-1)) 3 7 (-1)) 3 10 (-1)) (((F.trans (bg_F.a _ _ _)).trans (bg_F.a _ _ _)).trans (bg_F.a _ _ _)) (fun k hk => by
      show (mo_a (mo_a (mo_a s 3 (nI 1) (-1)) 3 (nI 7) (-1)) 3 (nI 10) (-1)).2.2.1 3 k = _
      rw [mo_a_k _ _ _ (by decide), mo_a_k _ _ _ (by decide), mo_a_k _ _ _ (by decide), H k hk]
      rfl)
    exact ⟨e, by unfold lb_X9_begin_2; simp only [if_pos (show (18186 : Int32) ≤ nI 18186 by decide), nb_1_18186, nb_7_18186, nb_10_18186, h1], h2⟩
/-- the reference as its constructor leaves it -/
theorem bg_N : ∃ s1, f_X9_begin mo_0 = some s1 ∧ iv_N 0 cs_x0 s1 := by
  obtain ⟨e, h1, t, h2, h3, h4⟩ := bg_all mo_0
  refine ⟨e, h1, ?_⟩
  subst h2
  refine ⟨⟨⟨0, by decide, rfl, ?_, fun k hk => by omega⟩, ?_, ?_⟩, ?_, ?_, rfl⟩
  · rw [mo_i_1, if_neg (by decide), h3.1]
    rfl
  · rw [mo_i_1, if_neg (by decide), h3.1]
    rfl
  · rw [mo_i_1, if_neg (by decide), h3.1]
    rfl
  · intro k hk
    rw [mo_i_2, h3.2.2.1 0 (by decide)]
    rfl
  · simp only [mo_i_2]
    refine ⟨?_, ?_, ?_, ?_, ?_, ?_, ?_, ?_, ?_, ?_⟩ <;> (rw [h4 _ (by decide)]; decide)
