/-! A collected stripe is written, in both programs. -/
theorem i32_10 : ((1 : Int32) = 0) = False := by decide
theorem ab_cnt_true : ∀ n, ab_cnt (fun _ => true) n = n
  | 0 => rfl
  | n + 1 => by
    rw [ab_cnt_s, ab_cnt_true n]
    rfl
theorem ab_cnt_mono {f g : Nat → Bool} (h : ∀ i, f i = true → g i = true) : ∀ n, ab_cnt f n ≤ ab_cnt g n
  | 0 => Nat.le_refl 0
  | n + 1 => by
    rw [ab_cnt_s, ab_cnt_s]
    have := ab_cnt_mono h n
    by_cases u : f n = true
    · rw [if_pos u, if_pos (h n u)]
      omega
    · rw [if_neg u]
      split <;> omega
/-- all surviving units are held: counted -/
theorem ab_all {D f k : Nat} {A : ab_S} (hD : D ≤ 6) (hf : f < D) (hh : ∀ d, d < 6 → A.1 3 d k = 1 → d < D ∧ d ≠ f) : ab_heldOf A.1 k + 1 = D ↔ ∀ d, d < D → d ≠ f → A.1 3 d k = 1 := by
  rw [ab_heldOf_D hD (fun d hd h => (hh d hd h).1)]
  have nf : ¬ A.1 3 f k = 1 := fun e => (hh f (by omega) e).2 rfl
  constructor
  · intro h d hd hdf
    apply Classical.byContradiction
    intro nd
    have c1 := ab_cnt_ch (f := fun _ => true) (f' := fun i => decide (i ≠ f)) (k := f) (fun i hi => by simp [hi]) D
    have c2 := ab_cnt_ch (f := fun i => decide (i ≠ f)) (f' := fun i => decide (i ≠ f ∧ i ≠ d)) (k := d) (fun i hi => by simp [hi]) D
    have c3 := ab_cnt_mono (f := fun i => decide (A.1 3 i k = 1)) (g := fun i => decide (i ≠ f ∧ i ≠ d)) (fun i hi => by
      have := of_decide_eq_true hi
      exact decide_eq_true ⟨fun e => nf (e ▸ this), fun e => nd (e ▸ this)⟩) D
    rw [ab_cnt_true] at c1
    simp [hf] at c1
    simp [hd, hdf] at c2
    simp at c3
    omega
  · intro h
    have c1 := ab_cnt_ch (f := fun _ => true) (f' := fun i => decide (i ≠ f)) (k := f) (fun i hi => by simp [hi]) D
    rw [ab_cnt_true] at c1
    have e : ab_cnt (fun i => decide (A.1 3 i k = 1)) D = ab_cnt (fun i => decide (i ≠ f)) D := ab_cnt_eq D (fun i hi => by
      by_cases u : i = f
      · rw [u, decide_eq_false nf]
        simp
      · rw [decide_eq_true (h i hi u)]
        simp [u])
    rw [e]
    simp [hf] at c1
    simp
    omega
/-- one stripe of the rebuild and its operations -/
def ab_Ks (D f : Nat) (B : ab_S) (L : Nat → Bool) (k : Nat) : Prop :=
  (B.1 4 k 0 = 0 ∧ ∀ d, d < 7 → L (7 * k + d) = false) ∨
  (B.1 4 k 0 = 1 ∧ ∀ d, d < 7 → (L (7 * k + d) = true ↔ d < D ∧ d ≠ f ∧ B.1 3 d k ≠ 1)) ∨
  (B.1 4 k 0 = 2 ∧ ∀ d, d < 7 → (L (7 * k + d) = true ↔ d = D)) ∨
  (B.1 4 k 0 = 3 ∧ ∀ d, d < 7 → L (7 * k + d) = false)
theorem ab_holdsAll_C {D S T f k : Nat} {p : Nat → Int32} {A : ab_S} {s : cs_S} (hp : ab_pl p D S T) (hf : f < D) (hk : k < 64) (hh : ∀ d, d < 6 → A.1 3 d k = 1 → d < D ∧ d ≠ f) (H : ab_C S A s) : ∃ x : Int32, f_X4_holdsAll s (nI k) (p 0) = some x ∧ (x = 1 ∧ (∀ d, d < D → d ≠ f → A.1 3 d k = 1) ∨ x = 0 ∧ ¬ ∀ d, d < D → d ≠ f → A.1 3 d k = 1) := by
  have hD := hp.2.2.2.2.1
  have h3 := hp.2.2.2.1
  have al := ab_all (A := A) (k := k) hD hf hh
  have e : p 0 - 1 = nI (D - 1) := by
    rw [hp.1]
    obtain ⟨j, rfl⟩ : ∃ j, D = j + 1 := ⟨D - 1, by omega⟩
    rw [nI_pred]
    rfl
  have le : ab_heldOf A.1 k ≤ 6 := ab_cnt_le _ 6
  have iffe : nI (ab_heldOf A.1 k) = p 0 - 1 ↔ ab_heldOf A.1 k + 1 = D := by
    rw [e, nI_eq (by omega) (by omega)]
    omega
  unfold f_X4_holdsAll
  simp (disch := omega) only [nb_nI, nI_clamp, ab_count_C hk H]
  by_cases u : ab_heldOf A.1 k + 1 = D
  · rw [if_pos (iffe.mpr u)]
    exact ⟨1, rfl, .inl ⟨rfl, al.mp u⟩⟩
  · rw [if_neg (fun h => u (iffe.mp h))]
    exact ⟨0, rfl, .inr ⟨rfl, fun h => u (al.mpr h)⟩⟩
/-- what a step inside one stripe k leaves alone -/
def ab_fr (k : Nat) (A A' B B' : ab_S) (L L' : Nat → Bool) : Prop :=
  ab_56 A A' ∧ ab_56 B B' ∧ (∀ g i w, g ≠ 3 → g ≠ 4 → g ≠ 0 → B'.1 g i w = B.1 g i w) ∧ (∀ k', k' ≠ k → B'.1 4 k' 0 = B.1 4 k' 0 ∧ ∀ d, B'.1 3 d k' = B.1 3 d k') ∧ (∀ w, w ≠ 5 → w ≠ 6 → w ≠ 7 → B'.1 0 0 w = B.1 0 0 w) ∧ B'.2.2.2 = B.2.2.2 ∧ ∀ c, c / 7 ≠ k → L' c = L c
theorem ab_fr.refl (k : Nat) (A B : ab_S) (L : Nat → Bool) : ab_fr k A A B B L L := ⟨ab_56.refl A, ab_56.refl B, fun _ _ _ _ _ _ => rfl, fun _ _ => ⟨rfl, fun _ => rfl⟩, fun _ _ _ _ => rfl, rfl, fun _ _ => rfl⟩
theorem ab_fr.trans {k : Nat} {A A' A'' B B' B'' : ab_S} {L L' L'' : Nat → Bool} (h : ab_fr k A A' B B' L L') (g : ab_fr k A' A'' B' B'' L' L'') : ab_fr k A A'' B B'' L L'' := by
  obtain ⟨h1, h2, h3, h4, h5, h6, h7⟩ := h
  obtain ⟨g1, g2, g3, g4, g5, g6, g7⟩ := g
  exact ⟨h1.trans g1, h2.trans g2, fun a b c d e f => (g3 a b c d e f).trans (h3 a b c d e f), fun k' hk => ⟨(g4 k' hk).1.trans (h4 k' hk).1, fun d => ((g4 k' hk).2 d).trans ((h4 k' hk).2 d)⟩, fun w a b c => (g5 w a b c).trans (h5 w a b c), g6.trans h6, fun c hc => (g7 c hc).trans (h7 c hc)⟩
theorem ab_fr.v3 {k d : Nat} {A B : ab_S} {L : Nat → Bool} {x : Int32} : ab_fr k A (ab_v A 3 d k x) B (ab_v B 3 d k x) L L :=
  ⟨ab_56.v (by decide) (by decide) (by omega), ab_56.v (by decide) (by decide) (by omega), fun g i w h _ _ => by rw [ab_v_1, if_neg (by omega)], fun k' hk => ⟨by rw [ab_v_1, if_neg (by omega)], fun d => by rw [ab_v_1, if_neg (by omega)]⟩, fun w _ _ _ => by rw [ab_v_1, if_neg (by omega)], rfl, fun _ _ => rfl⟩
theorem ab_fr.v4 {k : Nat} {A B : ab_S} {L : Nat → Bool} {x : Int32} : ab_fr k A (ab_v A 4 k 0 x) B (ab_v B 4 k 0 x) L L :=
  ⟨ab_56.v (by decide) (by decide) (by omega), ab_56.v (by decide) (by decide) (by omega), fun g i w h _ _ => by rw [ab_v_1, if_neg (by omega)], fun k' hk => ⟨by rw [ab_v_1, if_neg (by omega)], fun d => by rw [ab_v_1, if_neg (by omega)]⟩, fun w _ _ _ => by rw [ab_v_1, if_neg (by omega)], rfl, fun _ _ => rfl⟩
theorem ab_fr.v0 {k w : Nat} {A B : ab_S} {L : Nat → Bool} {x : Int32} (hw : w = 5 ∨ w = 6 ∨ w = 7) : ab_fr k A (ab_v A 0 0 w x) B (ab_v B 0 0 w x) L L :=
  ⟨ab_56.v (by decide) (by decide) (by omega), ab_56.v (by decide) (by decide) (by omega), fun g i w' _ _ h => by rw [ab_v_1, if_neg (by omega)], fun k' hk => ⟨by rw [ab_v_1, if_neg (by omega)], fun d => by rw [ab_v_1, if_neg (by omega)]⟩, fun w' _ _ _ => by rw [ab_v_1, if_neg (by omega)], rfl, fun _ _ => rfl⟩
/-- writeIfAllHeld and checkCollected -/
theorem ab_J2_ck {D S T m n N k f : Nat} {p : Nat → Int32} {A B : ab_S} {L : Nat → Bool} {W : Nat → Nat} {F : List Nat} {s4 s5 : cs_S} {s : mo_S} (hk : k < S) (hf : f < D) (hf1 : B.1 0 0 1 = nI f) (h0 : B.1 4 k 0 = 1) (hh : ∀ d, d < 6 → B.1 3 d k = 1 → d < D ∧ d ≠ f) (hLk : ∀ d, d < 7 → (L (7 * k + d) = true ↔ d < D ∧ d ≠ f ∧ B.1 3 d k ≠ 1)) (hL : ab_cnt L 3248 < 2200) (hN : N + 1 ≤ 1000000000000) (H : ab_J2 D S T m n N p A B L W F s4 s5 s) :
    ∃ s5' s' W' F' A' B' L', f_X1_writeIfAllHeld s4 s5 (nI k) = some s5' ∧ f_X9_checkCollected s (nI k) = some s' ∧ rf_F s s' ∧ ab_J2 D S T m n (N + 1) p A' B' L' W' F' s4 s5' s' ∧ ab_fr k A A' B B' L L' ∧ ab_Ks D f B' L' k ∧ (∀ d, B'.1 3 d k = B.1 3 d k) ∧ (B'.1 4 k 0 = 1 ∨ B'.1 4 k 0 = 2) ∧ ab_cnt L' 3248 ≤ ab_cnt L 3248 + 1 ∧ (∀ w, B'.1 0 0 w = B.1 0 0 w) := by
  have H' := H
  obtain ⟨hP, hp, hs, hC, hR, hB, hF, hE⟩ := H
  have hD := hp.2.2.2.2.1
  have hS := hp.2.2.2.2.2.2.1
  have e3 : ∀ d k, B.1 3 d k = A.1 3 d k := fun d k => hE.2 3 d k (by omega) (by omega)
  obtain ⟨x, x1, x2⟩ := ab_holdsAll_C (A := A) hp hf (show k < 64 by omega) (fun d hd h => hh d hd (by rw [e3]; exact h)) hC
  obtain ⟨y, y1, y2⟩ := areAllHeld_w hp hs (show k < 64 by omega) hR
  have fe : ∀ d, d < D → (nI d ≠ B.1 0 0 1 ↔ d ≠ f) := fun d hd => by
    rw [hf1]
    exact not_congr (nI_eq (by omega) (by omega))
  unfold f_X1_writeIfAllHeld f_X9_checkCollected
  rw [hP.1, x1, y1]
  by_cases u : ∀ d, d < D → d ≠ f → A.1 3 d k = 1
  · have xe : x = 1 := by
      rcases x2 with h | h
      · exact h.1
      · exact absurd u h.2
    have ye : y = 1 := by
      rcases y2 with h | ⟨_, d, h1, h2, h3⟩
      · exact h.1
      · exact absurd (u d h1 ((fe d h1).mp h2)) (by rw [← e3]; exact h3)
    subst xe ye
    obtain ⟨F1, J1⟩ := ab_J2_st2 (s' := us s 4 k 0 2) hk h0 rfl H'
    have nD : L (7 * k + D) = false := by
      cases hh : L (7 * k + D) with
      | false => rfl
      | true => exact absurd ((hLk D (by omega)).mp hh).1 (by omega)
    obtain ⟨s5', s', W', F', A', B', g1, g2, g3, g4, g5, g6, g7, g8, g9⟩ := ab_J2_qr (d := D) hk (Nat.le_refl D) nD hL hN J1
    have hs1 : (us s 4 k 0 2).2.2.1 0 = p := J1.2.2.1
    have R1 := J1.2.2.2.2.1
    refine ⟨s5', s', W', F', A', B', ab_L L (7 * k + D) true, ?_, ?_, F1.trans g3, g4, ?_, ?_, ?_, ?_, ?_, ?_⟩
    · simp (disch := omega) only [i32_10, if_false, nb_nI, hp.1, g1]
    · simp only [i32_10, if_false, (st_w s 2 (show k < 64 by omega)).1, (st_w s 2 (show k < 64 by omega)).2, disks_w hs1, ab_dl_R hp hs1 k R1, hp.1]
      rw [if_pos rfl] at g2
      simp only [g2]
    · refine (ab_fr.v4 (x := 2)).trans ⟨⟨fun i w => by rw [g5], fun i w => by rw [g5], by rw [g5]⟩, ⟨fun i w => by rw [g6], fun i w => by rw [g6], by rw [g6]⟩, fun g i w _ _ _ => by rw [g6], fun k' _ => ⟨by rw [g6], fun d => by rw [g6]⟩, fun w _ _ _ => by rw [g6], g7, fun c hc => if_neg (by omega)⟩
    · refine .inr (.inr (.inl ⟨by rw [g6, ab_v4_4, if_pos rfl], fun d hd => ?_⟩))
      unfold ab_L
      by_cases v : d = D
      · rw [if_pos (by omega)]
        exact ⟨fun _ => v, fun _ => rfl⟩
      · rw [if_neg (by omega), hLk d hd]
        exact ⟨fun h => absurd (u d h.1 h.2.1) (by rw [← e3]; exact h.2.2), fun h => absurd h v⟩
    · intro d
      rw [g6, ab_v4_3]
    · rw [g6, ab_v4_4, if_pos rfl]
      exact .inr rfl
    · rw [ab_cnt_up nD, if_pos (by omega)]
      exact Nat.le_refl _
    · intro w
      rw [g6, ab_v_1, if_neg (by omega)]
  · have xe : x = 0 := by
      rcases x2 with h | h
      · exact absurd h.2 u
      · exact h.1
    have ye : y = 0 := by
      rcases y2 with h | h
      · exact absurd (fun d hd hdf => by rw [← e3]; exact h.2 d hd ((fe d hd).mpr hdf)) u
      · exact h.1
    subst xe ye
    refine ⟨s5, s, W, F, A, B, L, by simp only [if_true], by simp only [if_true], rf_F.rfl' s, ⟨hP, hp, hs, hC, hR, ?_, hF, hE⟩, ab_fr.refl k A B L, .inr (.inl ⟨h0, hLk⟩), fun _ => rfl, .inl h0, by omega, fun _ => rfl⟩
    obtain ⟨B1, B2, B3, B4, B5, B6, B7, B8, B9, B10⟩ := hB
    exact ⟨B1, B2, B3, B4, B5, B6, B7, B8, B9.le (Nat.le_succ N), B10.1, B10.2.1, B10.2.2.1, hN⟩
