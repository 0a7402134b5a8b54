/-! A stripe's state changes, the program's side. -/
theorem ab_v4_4 (A : ab_S) (k : Nat) (x : Int32) (k' : Nat) : (ab_v A 4 k 0 x).1 4 k' 0 = if k' = k then x else A.1 4 k' 0 := by
  rw [ab_v_1]
  by_cases u : k' = k
  · rw [if_pos ⟨rfl, u, rfl⟩, if_pos u]
  · rw [if_neg (by omega), if_neg u]
theorem ab_v4_3 (A : ab_S) (k : Nat) (x : Int32) (d k' : Nat) : (ab_v A 4 k 0 x).1 3 d k' = A.1 3 d k' := by
  rw [ab_v_1, if_neg (by omega)]
theorem ab_v4_h (A : ab_S) (k : Nat) (x : Int32) (k' : Nat) : ab_heldOf (ab_v A 4 k 0 x).1 k' = ab_heldOf A.1 k' := by
  unfold ab_heldOf
  simp only [ab_v4_3]
def ab_b2 (b : Bool) : Nat := if b = true then 1 else 0
/-- the counts when a stripe's state changes -/
theorem ab_v4_c {S : Nat} (A : ab_S) {k : Nat} (x : Int32) (hk : k < S) :
    ab_started (ab_v A 4 k 0 x).1 S + ab_b2 (decide (A.1 4 k 0 = 1 ∨ A.1 4 k 0 = 2)) = ab_started A.1 S + ab_b2 (decide (x = 1 ∨ x = 2)) ∧
    ab_rebuilt (ab_v A 4 k 0 x).1 S + ab_b2 (decide (A.1 4 k 0 = 3)) = ab_rebuilt A.1 S + ab_b2 (decide (x = 3)) ∧
    ab_cached (ab_v A 4 k 0 x).1 S + (if A.1 4 k 0 = 0 then ab_heldOf A.1 k else 0) = ab_cached A.1 S + (if x = 0 then ab_heldOf A.1 k else 0) := by
  refine ⟨?_, ?_, ?_⟩
  · have := ab_cnt_ch (f := fun k => decide (A.1 4 k 0 = 1 ∨ A.1 4 k 0 = 2)) (f' := fun k' => decide ((ab_v A 4 k 0 x).1 4 k' 0 = 1 ∨ (ab_v A 4 k 0 x).1 4 k' 0 = 2)) (k := k) (fun i hi => by simp only [ab_v4_4, if_neg hi]) S
    simp only [hk, true_and, ab_v4_4, if_pos] at this
    unfold ab_started ab_b2
    simp only [ab_v4_4]
    exact this
  · have := ab_cnt_ch (f := fun k => decide (A.1 4 k 0 = 3)) (f' := fun k' => decide ((ab_v A 4 k 0 x).1 4 k' 0 = 3)) (k := k) (fun i hi => by simp only [ab_v4_4, if_neg hi]) S
    simp only [hk, true_and, ab_v4_4, if_pos] at this
    unfold ab_rebuilt ab_b2
    simp only [ab_v4_4]
    exact this
  · have := ab_sum_up (f := fun k => if A.1 4 k 0 = 0 then ab_heldOf A.1 k else 0) (f' := fun k' => if (ab_v A 4 k 0 x).1 4 k' 0 = 0 then ab_heldOf (ab_v A 4 k 0 x).1 k' else 0) (k := k) (fun i hi => by simp only [ab_v4_4, if_neg hi, ab_v4_h]) S
    simp only [if_pos hk, ab_v4_4, ab_v4_h, if_true] at this
    unfold ab_cached
    simp only [ab_v4_4, ab_v4_h]
    exact this
theorem ab_count_C {S k : Nat} {A : ab_S} {s : cs_S} (hk : k < 64) (H : ab_C S A s) : f_J6_bitCount_0f7a4 (s.2.1 33 k) = some (nI (ab_heldOf A.1 k)) := by
  obtain ⟨h1, n, hn, e, b⟩ := H.2.2.2.2.2.2 k hk
  rw [e, hb_count_f ⟨n, hn⟩]
  unfold ab_heldOf
  rw [ab_cnt_eq 6 (fun i hi => b i hi)]
theorem nI_subI (a b : Nat) : nI (a + b) - nI b = nI a := by rw [← nI_add, Int32.add_sub_cancel]
/-- a stripe begins to be collected -/
theorem ab_C_collect {S k : Nat} {A : ab_S} {s : cs_S} (hk : k < S) (hS : S ≤ 64) (h0 : A.1 4 k 0 = 0) (H : ab_C S A s) : ∃ s', f_X4_collect s (nI k) = some s' ∧ ab_C S (ab_v A 4 k 0 1) s' := by
  obtain ⟨h1, n, hn, e, b⟩ := H.2.2.2.2.2.2 k (by omega)
  obtain ⟨c1, c2, c3⟩ := ab_v4_c A (1 : Int32) hk
  rw [h0] at c1 c2 c3
  have e1 : ab_started (ab_v A 4 k 0 1).1 S = ab_started A.1 S + 1 := by simpa [ab_b2] using c1
  have e2 : ab_rebuilt (ab_v A 4 k 0 1).1 S = ab_rebuilt A.1 S := by simpa [ab_b2] using c2
  have e3 : ab_cached (ab_v A 4 k 0 1).1 S + ab_heldOf A.1 k = ab_cached A.1 S := by simpa using c3
  refine ⟨cs_i (cs_a (cs_i s 31 4 (s.1 31 4 - nI (ab_heldOf A.1 k))) 32 (nI k) 1) 31 3 (s.1 31 3 + 1), ?_, ?_⟩
  · unfold f_X4_collect
    simp (disch := omega) only [nb_nI, nI_clamp, ab_count_C (show k < 64 by omega) H, fc_X4_collect_c1, fc_X4_collect_c2]
    have : (cs_a (cs_i s 31 4 (s.1 31 4 - nI (ab_heldOf A.1 k))) 32 (nI k) 1).1 31 3 = s.1 31 3 := by
      show (cs_i s 31 4 (s.1 31 4 - nI (ab_heldOf A.1 k))).1 31 3 = _
      rw [ci_1, if_neg (by omega)]
    rw [this]
  · have r : ∀ P j, (cs_i (cs_a (cs_i s 31 4 (s.1 31 4 - nI (ab_heldOf A.1 k))) 32 (nI k) 1) 31 3 (s.1 31 3 + 1)).1 P j = if P = 31 ∧ j = 3 then s.1 31 3 + 1 else if P = 31 ∧ j = 4 then s.1 31 4 - nI (ab_heldOf A.1 k) else s.1 P j := by
      intro P j
      rw [ci_1]
      by_cases u : P = 31 ∧ j = 3
      · rw [if_pos u, if_pos u]
      · rw [if_neg u, if_neg u]
        exact ci_1 s 31 4 _ P j
    have r2 : ∀ P j, (cs_i (cs_a (cs_i s 31 4 (s.1 31 4 - nI (ab_heldOf A.1 k))) 32 (nI k) 1) 31 3 (s.1 31 3 + 1)).2.1 P j = if P = 32 ∧ j = k then 1 else s.2.1 P j := fun P j => ca_2 (s := cs_i s 31 4 (s.1 31 4 - nI (ab_heldOf A.1 k))) (by omega) P j
    have r3 : (cs_i (cs_a (cs_i s 31 4 (s.1 31 4 - nI (ab_heldOf A.1 k))) 32 (nI k) 1) 31 3 (s.1 31 3 + 1)).2.2 = s.2.2 := rfl
    generalize cs_i (cs_a (cs_i s 31 4 (s.1 31 4 - nI (ab_heldOf A.1 k))) 32 (nI k) 1) 31 3 (s.1 31 3 + 1) = s' at r r2 r3
    refine ab_C_h (k := k) (A := A) (s := s) rfl (fun g i w h3 h4 => by rw [ab_v_1, if_neg (by omega)]) (fun k' hk' => ⟨by rw [ab_v4_4, if_neg hk'], fun d => ab_v4_3 _ _ _ _ _⟩) ⟨?_, n, hn, ?_, ?_⟩ (fun P j h => by rw [r2, if_neg (by omega)]) r3 (fun P j h => by rw [r, if_neg (by omega), if_neg (by omega)]) ?_ H
    · rw [r2, if_pos ⟨rfl, rfl⟩, ab_v4_4, if_pos rfl]
    · rw [r2, if_neg (by omega), e]
    · intro d hd
      rw [ab_v4_3]
      exact b d hd
    · rw [e1, e2, r, if_pos ⟨rfl, rfl⟩, r, if_neg (by omega), if_pos ⟨rfl, rfl⟩, r, if_neg (by omega), if_neg (by omega), ← nI_1, ← H.2.1.1, H.2.1.2.1, ← e3, nI_subI]
      exact ⟨rfl, rfl, H.2.1.2.2⟩
/-- a stripe that was collected is written -/
theorem ab_C_st2 {S k : Nat} {A : ab_S} {s : cs_S} (hk : k < S) (hS : S ≤ 64) (h0 : A.1 4 k 0 = 1) (H : ab_C S A s) : ab_C S (ab_v A 4 k 0 2) (cs_a s 32 (nI k) 2) := by
  obtain ⟨h1, n, hn, e, b⟩ := H.2.2.2.2.2.2 k (by omega)
  obtain ⟨c1, c2, c3⟩ := ab_v4_c A (2 : Int32) hk
  rw [h0] at c1 c2 c3
  have e1 : ab_started (ab_v A 4 k 0 2).1 S = ab_started A.1 S := by simpa [ab_b2] using c1
  have e2 : ab_rebuilt (ab_v A 4 k 0 2).1 S = ab_rebuilt A.1 S := by simpa [ab_b2] using c2
  have e3 : ab_cached (ab_v A 4 k 0 2).1 S = ab_cached A.1 S := by simpa using c3
  refine ab_C_h (k := k) (A := A) (s := s) rfl (fun g i w h3 h4 => by rw [ab_v_1, if_neg (by omega)]) (fun k' hk' => ⟨by rw [ab_v4_4, if_neg hk'], fun d => ab_v4_3 _ _ _ _ _⟩) ⟨?_, n, hn, ?_, ?_⟩ (fun P j h => by rw [ca_2 (by omega), if_neg (by omega)]) rfl (fun P j h => rfl) ?_ H
  · rw [ca_2 (by omega), if_pos ⟨rfl, rfl⟩, ab_v4_4, if_pos rfl]
  · rw [ca_2 (by omega), if_neg (by omega), e]
  · intro d hd
    rw [ab_v4_3]
    exact b d hd
  · rw [e1, e2, e3]
    exact H.2.1
/-- a stripe is rebuilt: its held units are given up -/
def ab_clr (A : ab_S) (D k : Nat) : ab_S := (fun g i w => if g = 3 ∧ i < D ∧ w = k then 0 else A.1 g i w, A.2)
def ab_rb (A : ab_S) (D k : Nat) : ab_S := ab_clr (ab_v A 4 k 0 3) D k
theorem ab_clr_1 (A : ab_S) (D k g i w : Nat) : (ab_clr A D k).1 g i w = if g = 3 ∧ i < D ∧ w = k then 0 else A.1 g i w := rfl
theorem ab_rb_o (A : ab_S) (D k g i w : Nat) (h : ¬ (g = 3 ∧ w = k)) (h' : ¬ (g = 4 ∧ i = k)) : (ab_rb A D k).1 g i w = A.1 g i w := by
  unfold ab_rb
  rw [ab_clr_1, if_neg (by omega), ab_v_1, if_neg (by omega)]
theorem ab_rb_4 (A : ab_S) (D k k' : Nat) : (ab_rb A D k).1 4 k' 0 = if k' = k then 3 else A.1 4 k' 0 := by
  unfold ab_rb
  rw [ab_clr_1, if_neg (by omega), ab_v4_4]
/-- the end of a stripe's rebuild: completeTick too -/
def ab_fn (A : ab_S) (D S k : Nat) : ab_S := if ab_rebuilt (ab_rb A D k).1 S = S then ab_v (ab_rb A D k) 0 0 7 (A.1 0 0 0) else ab_rb A D k
theorem ab_C_end {D S T k : Nat} {p : Nat → Int32} {A : ab_S} {s : cs_S} (hp : ab_pl p D S T) (hk : k < S) (h0 : A.1 4 k 0 = 2) (hh : ∀ d, d < 6 → A.1 3 d k = 1 → d < D) (H : ab_C S A s) : ∃ s', f_X4_end s (nI k) (p 1) (s.1 0 4) = some s' ∧ ab_C S (ab_fn A D S k) s' := by
  have hS := hp.2.2.2.2.2.2.1
  obtain ⟨h1, n, hn, e, b⟩ := H.2.2.2.2.2.2 k (by omega)
  obtain ⟨c1, c2, c3⟩ := ab_v4_c A (3 : Int32) hk
  rw [h0] at c1 c2 c3
  have st : ∀ k', (ab_rb A D k).1 4 k' 0 = (ab_v A 4 k 0 3).1 4 k' 0 := fun k' => by
    rw [ab_rb_4, ab_v4_4]
  have e1 : ab_started (ab_rb A D k).1 S + 1 = ab_started A.1 S := by
    unfold ab_started at c1 ⊢
    simp only [st]
    simpa [ab_b2] using c1
  have e2 : ab_rebuilt (ab_rb A D k).1 S = ab_rebuilt A.1 S + 1 := by
    unfold ab_rebuilt at c2 ⊢
    simp only [st]
    simpa [ab_b2] using c2
  have e3 : ab_cached (ab_rb A D k).1 S = ab_cached A.1 S := by
    have : ab_cached (ab_rb A D k).1 S = ab_cached (ab_v A 4 k 0 3).1 S := by
      unfold ab_cached
      refine ab_sum_eq S (fun i hi => ?_)
      rw [st]
      by_cases u : i = k
      · rw [u, ab_v4_4, if_pos rfl, if_neg (by decide), if_neg (by decide)]
      · congr 1
        unfold ab_heldOf
        refine ab_cnt_eq 6 (fun d hd => ?_)
        rw [ab_rb_o _ _ _ _ _ _ (by omega) (by omega), ab_v4_3]
    rw [this]
    simpa using c3
  let s1 := cs_i (cs_i (cs_a (cs_a s 32 (nI k) 3) 33 (nI k) 0) 31 3 (s.1 31 3 - 1)) 31 5 (s.1 31 5 + 1)
  have q1 : ∀ P j, s1.1 P j = if P = 31 ∧ j = 5 then s.1 31 5 + 1 else if P = 31 ∧ j = 3 then s.1 31 3 - 1 else s.1 P j := by
    intro P j
    simp only [s1, ci_1]
    rfl
  have q2 : ∀ P j, s1.2.1 P j = if P = 33 ∧ j = k then 0 else if P = 32 ∧ j = k then 3 else s.2.1 P j := by
    intro P j
    show (cs_a (cs_a s 32 (nI k) 3) 33 (nI k) 0).2.1 P j = _
    rw [ca_2 (by omega), ca_2 (by omega)]
  have q3 : s1.2.2 = s.2.2 := rfl
  have C1 : ab_C S (ab_rb A D k) s1 := by
    clear_value s1
    refine ab_C_h (k := k) (A := A) (s := s) rfl (fun g i w h3 h4 => ab_rb_o _ _ _ _ _ _ (by omega) (by omega)) (fun k' hk' => ⟨by rw [ab_rb_4, if_neg hk'], fun d => ab_rb_o _ _ _ _ _ _ (by omega) (by omega)⟩) ⟨?_, 0, by decide, ?_, ?_⟩ (fun P j h => by rw [q2, if_neg (by omega), if_neg (by omega)]) q3 (fun P j h => by rw [q1, if_neg (by omega), if_neg (by omega)]) ?_ H
    · rw [q2, if_neg (by omega), if_pos ⟨rfl, rfl⟩, ab_rb_4, if_pos rfl]
    · rw [q2, if_pos ⟨rfl, rfl⟩]
      rfl
    · intro d hd
      rw [hb_zero ⟨d, hd⟩]
      symm
      apply decide_eq_false
      unfold ab_rb
      rw [ab_clr_1]
      by_cases u : d < D
      · rw [if_pos ⟨rfl, u, rfl⟩]
        decide
      · rw [if_neg (by omega), ab_v4_3]
        exact fun k' => u (hh d hd k')
    · rw [q1, if_neg (by omega), if_pos ⟨rfl, rfl⟩, q1, if_neg (by omega), if_neg (by omega), q1, if_pos ⟨rfl, rfl⟩, e2, e3, ← nI_1, H.2.1.1, ← e1, nI_pred, H.2.1.2.2]
      exact ⟨rfl, H.2.1.2.1, rfl⟩
  have k5 : s1.1 31 5 = nI (ab_rebuilt (ab_rb A D k).1 S) := C1.2.1.2.2
  have le : ab_rebuilt (ab_rb A D k).1 S ≤ S := ab_cnt_le _ S
  have iffe : s1.1 31 5 = p 1 ↔ ab_rebuilt (ab_rb A D k).1 S = S := by
    rw [k5, hp.2.1]
    exact nI_eq (by omega) (by omega)
  have ev : f_X4_end s (nI k) (p 1) (s.1 0 4) = if s1.1 31 5 = p 1 then some (cs_i s1 31 6 (s.1 0 4)) else some s1 := by
    unfold f_X4_end
    simp (disch := omega) only [nb_nI, fc_X4_end_c1, fc_X4_end_c2, fc_X4_end_c3, fc_X4_end_c4]
    have z1 : (cs_a (cs_a s 32 (nI k) 3) 33 (nI k) 0).1 31 3 = s.1 31 3 := rfl
    have z2 : (cs_i (cs_a (cs_a s 32 (nI k) 3) 33 (nI k) 0) 31 3 (s.1 31 3 - 1)).1 31 5 = s.1 31 5 := by
      rw [ci_1, if_neg (by omega)]
      rfl
    rw [z1, z2]
  rw [ev]
  unfold ab_fn
  by_cases u : ab_rebuilt (ab_rb A D k).1 S = S
  · rw [if_pos (iffe.mpr u), if_pos u, H.1.1]
    exact ⟨_, rfl, ab_C_0 (w := 7) (by omega) C1⟩
  · rw [if_neg (fun h => u (iffe.mp h)), if_neg u]
    exact ⟨_, rfl, C1⟩
