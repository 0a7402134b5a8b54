/-! The rebuild's stripes and units, the program's side. -/
theorem ab_sum_up {f f' : Nat → Nat} {k : Nat} (h : ∀ i, i ≠ k → f' i = f i) : ∀ n, ab_sum f' n + (if k < n then f k else 0) = ab_sum f n + (if k < n then f' k else 0)
  | 0 => rfl
  | n + 1 => by
    have ih := ab_sum_up h n
    unfold ab_sum
    by_cases u : n = k
    · subst u
      have h1 : ¬ n < n := by omega
      have h2 : n < n + 1 := by omega
      simp only [if_neg h1, if_pos h2] at ih ⊢
      omega
    · rw [h n u]
      by_cases v : k < n
      · have v2 : k < n + 1 := by omega
        simp only [if_pos v, if_pos v2] at ih ⊢
        omega
      · have v2 : ¬ k < n + 1 := by omega
        simp only [if_neg v, if_neg v2] at ih ⊢
        omega
theorem ab_cnt_ch {f f' : Nat → Bool} {k : Nat} (h : ∀ i, i ≠ k → f' i = f i) : ∀ n, ab_cnt f' n + (if k < n ∧ f k = true then 1 else 0) = ab_cnt f n + (if k < n ∧ f' k = true then 1 else 0)
  | 0 => by simp [ab_cnt]
  | n + 1 => by
    have ih := ab_cnt_ch h n
    unfold ab_cnt
    by_cases u : n = k
    · subst u
      have h1 : ¬ n < n := by omega
      have h2 : n < n + 1 := by omega
      simp only [h1, h2, false_and, true_and, if_false] at ih ⊢
      omega
    · rw [h n u]
      by_cases v : k < n
      · have v2 : k < n + 1 := by omega
        simp only [v, v2, true_and] at ih ⊢
        omega
      · have v2 : ¬ k < n + 1 := by omega
        simp only [v, v2, false_and, if_false] at ih ⊢
        omega
/-- one stripe of the rebuild changed, the program's side -/
theorem ab_C_h {S k : Nat} {A A' : ab_S} {s s' : cs_S} (hA : A'.2 = A.2) (hv : ∀ g i w, g ≠ 3 → g ≠ 4 → A'.1 g i w = A.1 g i w) (ho : ∀ k', k' ≠ k → A'.1 4 k' 0 = A.1 4 k' 0 ∧ ∀ d, A'.1 3 d k' = A.1 3 d k') (hk : ab_Ch A' s' k) (h2 : ∀ P j, ¬ ((P = 32 ∨ P = 33) ∧ j = k) → s'.2.1 P j = s.2.1 P j) (h3 : s'.2.2 = s.2.2) (h1 : ∀ P j, ¬ (P = 31 ∧ (j = 3 ∨ j = 4 ∨ j = 5)) → s'.1 P j = s.1 P j) (hc : s'.1 31 3 = nI (ab_started A'.1 S) ∧ s'.1 31 4 = nI (ab_cached A'.1 S) ∧ s'.1 31 5 = nI (ab_rebuilt A'.1 S)) (H : ab_C S A s) : ab_C S A' s' := by
  obtain ⟨H1, H2, H3, H4, H5, H6, H7⟩ := H
  refine ⟨?_, hc, fun q hq => ab_Cq_fr (A := A) (s := s) (by rw [hA]) (fun w => by rw [hA]) (fun P k h => h2 P k (by omega)) h3 (H3 q hq), fun d hd => ab_Cd_fr (A := A) (s := s) (by rw [hA]) (fun w => hv 1 d w (by omega) (by omega)) (fun P h => h2 P d (by omega)) (H4 d hd), fun t ht => ab_Ct_fr (A := A) (s := s) (fun w => hv 6 t w (by omega) (by omega)) (fun P k h => h2 P k (by omega)) (H5 t ht), fun r hr hr' => ab_Cr_fr (A := A) (s := s) (fun w => hv 5 r w (by omega) (by omega)) (fun P h h' => h2 P r (by omega)) (H6 r hr (by rw [hv 0 0 2 (by omega) (by omega)] at hr'; exact hr')), ?_⟩
  · rw [h1 0 4 (by omega), h1 31 0 (by omega), h1 19 0 (by omega), h1 0 2 (by omega), h1 0 3 (by omega), h1 31 7 (by omega), h1 31 8 (by omega), h1 31 6 (by omega), h1 31 10 (by omega), h1 31 9 (by omega), hv _ _ _ (by omega) (by omega), hv _ _ _ (by omega) (by omega), hv _ _ _ (by omega) (by omega), hv _ _ _ (by omega) (by omega), hv _ _ _ (by omega) (by omega), hv _ _ _ (by omega) (by omega), hv _ _ _ (by omega) (by omega), hv _ _ _ (by omega) (by omega), hv _ _ _ (by omega) (by omega), hv _ _ _ (by omega) (by omega), hv _ _ _ (by omega) (by omega)]
    exact H1
  · intro k' hk'
    by_cases z : k' = k
    · rw [z]
      exact hk
    · exact ab_Ch_fr (A := A) (s := s) (ho k' z).1 (ho k' z).2 (fun P h => h2 P k' (by omega)) (H7 k' hk')
theorem ab_holds_C {S d k : Nat} {A : ab_S} {s : cs_S} (hd : d < 6) (hk : k < 64) (H : ab_C S A s) : f_X4_holds s (nI d) (nI k) = some (if A.1 3 d k = 1 then 1 else 0) := by
  obtain ⟨h1, n, hn, e, b⟩ := H.2.2.2.2.2.2 k hk
  have f := hb_holds_f ⟨n, hn⟩ ⟨d, hd⟩
  unfold f_X4_holds
  simp (disch := omega) only [nb_nI, nI_clamp, e]
  rw [b d hd] at f
  by_cases u : A.1 3 d k = 1
  · rw [decide_eq_true u] at f
    rw [if_pos u, if_neg (of_decide_eq_false f)]
  · rw [decide_eq_false u] at f
    rw [if_neg u, if_pos (of_decide_eq_true f)]
/-- how many held units a stripe has, when one changes -/
theorem ab_heldOf_up {A : ab_S} {d k : Nat} (hd : d < 6) (h : A.1 3 d k ≠ 1) : ab_heldOf (ab_v A 3 d k 1).1 k = ab_heldOf A.1 k + 1 ∧ ∀ k', k' ≠ k → ab_heldOf (ab_v A 3 d k 1).1 k' = ab_heldOf A.1 k' := by
  constructor
  · have := ab_cnt_ch (f := fun d => decide (A.1 3 d k = 1)) (f' := fun d' => decide ((ab_v A 3 d k 1).1 3 d' k = 1)) (k := d) (fun i hi => by simp only [ab_v_1]; rw [if_neg (by omega)]) 6
    have e : ((ab_v A 3 d k 1).1 3 d k) = 1 := by rw [ab_v_1, if_pos ⟨rfl, rfl, rfl⟩]
    simp only [e, h, decide_true, decide_false, hd, and_self, and_false, if_true, Bool.false_eq_true, if_false, Nat.add_zero] at this
    exact this
  · intro k' hk'
    unfold ab_heldOf
    refine ab_cnt_eq 6 (fun i hi => ?_)
    rw [ab_v_1, if_neg (by omega)]
theorem ab_heldOf_dn {A : ab_S} {d k : Nat} (hd : d < 6) (h : A.1 3 d k = 1) : ab_heldOf (ab_v A 3 d k 0).1 k + 1 = ab_heldOf A.1 k ∧ ∀ k', k' ≠ k → ab_heldOf (ab_v A 3 d k 0).1 k' = ab_heldOf A.1 k' := by
  constructor
  · have := ab_cnt_ch (f := fun d => decide (A.1 3 d k = 1)) (f' := fun d' => decide ((ab_v A 3 d k 0).1 3 d' k = 1)) (k := d) (fun i hi => by simp only [ab_v_1]; rw [if_neg (by omega)]) 6
    have e : ¬ ((ab_v A 3 d k 0).1 3 d k) = 1 := by rw [ab_v_1, if_pos ⟨rfl, rfl, rfl⟩]; decide
    simp only [e, h, decide_true, decide_false, hd, and_self, and_false, if_true, Bool.false_eq_true, if_false, Nat.add_zero] at this
    exact this
  · intro k' hk'
    unfold ab_heldOf
    refine ab_cnt_eq 6 (fun i hi => ?_)
    rw [ab_v_1, if_neg (by omega)]
theorem ab_v3_4 (A : ab_S) (d k : Nat) (x : Int32) (k' : Nat) : (ab_v A 3 d k x).1 4 k' 0 = A.1 4 k' 0 := by
  rw [ab_v_1, if_neg (by omega)]
theorem ab_cached_up {S : Nat} {A : ab_S} {d k : Nat} (hd : d < 6) (hk : k < S) (h : A.1 3 d k ≠ 1) : ab_cached (ab_v A 3 d k 1).1 S = ab_cached A.1 S + if A.1 4 k 0 = 0 then 1 else 0 := by
  obtain ⟨e1, e2⟩ := ab_heldOf_up hd h
  have := ab_sum_up (f := fun k => if A.1 4 k 0 = 0 then ab_heldOf A.1 k else 0) (f' := fun k' => if (ab_v A 3 d k 1).1 4 k' 0 = 0 then ab_heldOf (ab_v A 3 d k 1).1 k' else 0) (k := k) (fun i hi => by simp only [ab_v3_4, e2 i hi]) S
  unfold ab_cached
  simp only [if_pos hk, ab_v3_4, e1] at this ⊢
  by_cases u : A.1 4 k 0 = 0
  · simp only [if_pos u] at this ⊢
    omega
  · simp only [if_neg u] at this ⊢
    omega
theorem ab_cached_dn {S : Nat} {A : ab_S} {d k : Nat} (hd : d < 6) (hk : k < S) (h : A.1 3 d k = 1) : ab_cached (ab_v A 3 d k 0).1 S + (if A.1 4 k 0 = 0 then 1 else 0) = ab_cached A.1 S := by
  obtain ⟨e1, e2⟩ := ab_heldOf_dn hd h
  have := ab_sum_up (f := fun k => if A.1 4 k 0 = 0 then ab_heldOf A.1 k else 0) (f' := fun k' => if (ab_v A 3 d k 0).1 4 k' 0 = 0 then ab_heldOf (ab_v A 3 d k 0).1 k' else 0) (k := k) (fun i hi => by simp only [ab_v3_4, e2 i hi]) S
  unfold ab_cached
  simp only [if_pos hk, ab_v3_4] at this ⊢
  by_cases u : A.1 4 k 0 = 0
  · simp only [if_pos u] at this ⊢
    omega
  · simp only [if_neg u] at this ⊢
    omega
theorem ab_v3_st {S : Nat} (A : ab_S) (d k : Nat) (x : Int32) : ab_started (ab_v A 3 d k x).1 S = ab_started A.1 S ∧ ab_rebuilt (ab_v A 3 d k x).1 S = ab_rebuilt A.1 S := by
  unfold ab_started ab_rebuilt
  simp only [ab_v3_4]
  exact ⟨trivial, trivial⟩
/-- hold -/
theorem ab_C_hold {S d k : Nat} {A : ab_S} {s : cs_S} (hd : d < 6) (hk : k < S) (hS : S ≤ 64) (h : A.1 3 d k ≠ 1) (H : ab_C S A s) : ∃ s', f_X4_hold s (nI d) (nI k) = some s' ∧ ab_C S (ab_v A 3 d k 1) s' := by
  obtain ⟨h1, n, hn, e, b⟩ := H.2.2.2.2.2.2 k (by omega)
  obtain ⟨f1, f2, f3⟩ := hb_hold_f ⟨n, hn⟩ ⟨d, hd⟩
  simp only [] at f1 f2 f3
  have r32 : (cs_a s 33 (nI k) (nI (n ||| 2 ^ d))).2.1 32 k = A.1 4 k 0 := by rw [ca_2 (by omega), if_neg (by omega), h1]
  have r33 : (cs_a s 33 (nI k) (nI (n ||| 2 ^ d))).2.1 33 k = nI (n ||| 2 ^ d) := by rw [ca_2 (by omega), if_pos ⟨rfl, rfl⟩]
  have K : ab_Ch (ab_v A 3 d k 1) (cs_a s 33 (nI k) (nI (n ||| 2 ^ d))) k := by
    refine ⟨by rw [r32, ab_v3_4], n ||| 2 ^ d, f2, r33, fun d' hd' => ?_⟩
    rw [f3 ⟨d', hd'⟩, b d' hd', ab_v_1]
    by_cases u : d' = d
    · simp [u]
    · rw [if_neg (by omega)]
      simp [u]
  have st := ab_v3_st (S := S) A d k 1
  have cu := ab_cached_up (S := S) hd hk h
  have hv : ∀ g i w, g ≠ 3 → g ≠ 4 → (ab_v A 3 d k 1).1 g i w = A.1 g i w := fun g i w h3 h4 => by rw [ab_v_1, if_neg (by omega)]
  have ho : ∀ k', k' ≠ k → (ab_v A 3 d k 1).1 4 k' 0 = A.1 4 k' 0 ∧ ∀ d', (ab_v A 3 d k 1).1 3 d' k' = A.1 3 d' k' := fun k' hk' => ⟨ab_v3_4 _ _ _ _ _, fun d' => by rw [ab_v_1, if_neg (by omega)]⟩
  have o2 : ∀ P j, ¬ ((P = 32 ∨ P = 33) ∧ j = k) → (cs_a s 33 (nI k) (nI (n ||| 2 ^ d))).2.1 P j = s.2.1 P j := fun P j h' => by rw [ca_2 (by omega), if_neg (by omega)]
  unfold f_X4_hold
  simp (disch := omega) only [nb_nI, nI_clamp, e, f1, r32, fc_X4_hold_c1]
  by_cases u : A.1 4 k 0 = 0
  · rw [if_pos u]
    refine ⟨_, rfl, ab_C_h (k := k) (A := A) (s := s) rfl hv ho K o2 rfl (fun P j h' => by rw [ci_1, if_neg (by omega)]; rfl) ?_ H⟩
    rw [st.1, st.2, cu, if_pos u, ← nI_1, ← H.2.1.2.1, ci_1, ci_1, ci_1, if_neg (by omega), if_pos ⟨rfl, rfl⟩, if_neg (by omega)]
    exact ⟨H.2.1.1, rfl, H.2.1.2.2⟩
  · rw [if_neg u]
    refine ⟨_, rfl, ab_C_h (k := k) (A := A) (s := s) rfl hv ho K o2 rfl (fun P j h' => rfl) ?_ H⟩
    rw [st.1, st.2, cu, if_neg u]
    exact H.2.1
/-- forget -/
theorem ab_C_forget {S d k : Nat} {A : ab_S} {s : cs_S} (hd : d < 6) (hk : k < S) (hS : S ≤ 64) (h : A.1 3 d k = 1) (H : ab_C S A s) : ∃ s', f_X4_forget s (nI d) (nI k) = some s' ∧ ab_C S (ab_v A 3 d k 0) s' := by
  obtain ⟨h1, n, hn, e, b⟩ := H.2.2.2.2.2.2 k (by omega)
  obtain ⟨f1, f2, f3⟩ := hb_forget_f ⟨n, hn⟩ ⟨d, hd⟩
  simp only [] at f1 f2 f3
  have r32 : (cs_a s 33 (nI k) (nI (n &&& (63 - 2 ^ d)))).2.1 32 k = A.1 4 k 0 := by rw [ca_2 (by omega), if_neg (by omega), h1]
  have r33 : (cs_a s 33 (nI k) (nI (n &&& (63 - 2 ^ d)))).2.1 33 k = nI (n &&& (63 - 2 ^ d)) := by rw [ca_2 (by omega), if_pos ⟨rfl, rfl⟩]
  have K : ab_Ch (ab_v A 3 d k 0) (cs_a s 33 (nI k) (nI (n &&& (63 - 2 ^ d)))) k := by
    refine ⟨by rw [r32, ab_v3_4], n &&& (63 - 2 ^ d), f2, r33, fun d' hd' => ?_⟩
    rw [f3 ⟨d', hd'⟩, b d' hd', ab_v_1]
    by_cases u : d' = d
    · simp [u]
    · rw [if_neg (by omega)]
      simp [u]
  have st := ab_v3_st (S := S) A d k 0
  have cu := ab_cached_dn (S := S) hd hk h
  have hv : ∀ g i w, g ≠ 3 → g ≠ 4 → (ab_v A 3 d k 0).1 g i w = A.1 g i w := fun g i w h3 h4 => by rw [ab_v_1, if_neg (by omega)]
  have ho : ∀ k', k' ≠ k → (ab_v A 3 d k 0).1 4 k' 0 = A.1 4 k' 0 ∧ ∀ d', (ab_v A 3 d k 0).1 3 d' k' = A.1 3 d' k' := fun k' hk' => ⟨ab_v3_4 _ _ _ _ _, fun d' => by rw [ab_v_1, if_neg (by omega)]⟩
  have o2 : ∀ P j, ¬ ((P = 32 ∨ P = 33) ∧ j = k) → (cs_a s 33 (nI k) (nI (n &&& (63 - 2 ^ d)))).2.1 P j = s.2.1 P j := fun P j h' => by rw [ca_2 (by omega), if_neg (by omega)]
  unfold f_X4_forget
  simp (disch := omega) only [nb_nI, nI_clamp, e, f1, r32, fc_X4_forget_c1]
  by_cases u : A.1 4 k 0 = 0
  · rw [if_pos u]
    rw [if_pos u] at cu
    refine ⟨_, rfl, ab_C_h (k := k) (A := A) (s := s) rfl hv ho K o2 rfl (fun P j h' => by rw [ci_1, if_neg (by omega)]; rfl) ?_ H⟩
    rw [st.1, st.2, ci_1, ci_1, ci_1, if_neg (by omega), if_pos ⟨rfl, rfl⟩, if_neg (by omega)]
    refine ⟨H.2.1.1, ?_, H.2.1.2.2⟩
    show s.1 31 4 - 1 = _
    rw [H.2.1.2.1, ← cu, nI_pred]
  · rw [if_neg u]
    rw [if_neg u] at cu
    refine ⟨_, rfl, ab_C_h (k := k) (A := A) (s := s) rfl hv ho K o2 rfl (fun P j h' => rfl) ?_ H⟩
    rw [st.1, st.2]
    refine ⟨H.2.1.1, ?_, H.2.1.2.2⟩
    rw [← Nat.add_zero (ab_cached (ab_v A 3 d k 0).1 S), cu]
    exact H.2.1.2.1
