/-! A disk's service ends, in both programs. -/
theorem ab_Ks_tr {D f k : Nat} {B B' : ab_S} {L L' : Nat → Bool} (h4 : B'.1 4 k 0 = B.1 4 k 0) (h3 : ∀ d, B'.1 3 d k = B.1 3 d k) (hL : ∀ d, d < 7 → L' (7 * k + d) = L (7 * k + d)) (H : ab_Ks D f B L k) : ab_Ks D f B' L' k := by
  unfold ab_Ks at H ⊢
  rw [h4]
  rcases H with h | h | h | h
  · exact .inl ⟨h.1, fun d hd => by rw [hL d hd]; exact h.2 d hd⟩
  · exact .inr (.inl ⟨h.1, fun d hd => by rw [hL d hd, h3]; exact h.2 d hd⟩)
  · exact .inr (.inr (.inl ⟨h.1, fun d hd => by rw [hL d hd]; exact h.2 d hd⟩))
  · exact .inr (.inr (.inr ⟨h.1, fun d hd => by rw [hL d hd]; exact h.2 d hd⟩))
theorem ab_Ks_off {D f k d : Nat} {B : ab_S} {L : Nat → Bool} (hf : f < D) (hd : d < 7) (H : ab_Ks D f B L k) (hl : L (7 * k + d) = true) : d ≠ f := by
  rcases H with h | h | h | h
  · rw [h.2 d hd] at hl
    cases hl
  · exact ((h.2 d hd).mp hl).2.1
  · have := (h.2 d hd).mp hl
    omega
  · rw [h.2 d hd] at hl
    cases hl
/-- a step inside one stripe -/
theorem ab_V_st {D S m k f : Nat} {A A' B B' : ab_S} {L L' : Nat → Bool} (hS : S ≤ 64) (K1 : B.1 0 0 1 = nI f) (K2 : f < D) (K3 : ∀ d k, d < 6 → k < 64 → B.1 3 d k = 1 → d < D ∧ d ≠ f) (K4 : ∀ k', k' < S → k' ≠ k → ab_Ks D f B L k') (rows : ∀ r, r < m → ab_row L (64 + r) ≤ 5) (st : ab_started B'.1 S ≤ 8) (holes : ∀ d, d < 7 → B.1 1 d 7 = 0) (off : ∀ c, L c = true → c % 7 ≠ f) (hk : k < S) (fr : ab_fr k A A' B B' L L') (ks : ab_Ks D f B' L' k) (hh : ∀ d, d < 6 → B'.1 3 d k = 1 → d < D ∧ d ≠ f) : ab_V D S m (some f) B' L' := by
  obtain ⟨f1, f2, f3, f4, f5, f6, f7⟩ := fr
  refine ⟨⟨by rw [f5 1 (by decide) (by decide) (by decide)]; exact K1, K2, ?_, ?_⟩, ?_, st, (fun h => by cases h), fun d hd => by rw [f3 _ _ _ (by decide) (by decide) (by decide)]; exact holes d hd, ?_⟩
  · intro d k' hd hk' h
    by_cases u : k' = k
    · rw [u] at h
      exact hh d hd h
    · rw [(f4 k' u).2 d] at h
      exact K3 d k' hd hk' h
  · intro k' hk'
    by_cases u : k' = k
    · rw [u]
      exact ks
    · exact ab_Ks_tr (f4 k' u).1 (f4 k' u).2 (fun d hd => f7 _ (by omega)) (K4 k' hk' u)
  · intro r hr
    have : ab_row L' (64 + r) = ab_row L (64 + r) := ab_cnt_eq 7 (fun d hd => f7 _ (by omega))
    rw [this]
    exact rows r hr
  · intro f' e c hc
    rw [← Option.some.inj e]
    by_cases u : c / 7 = k
    · have hc' : c = 7 * k + c % 7 := by omega
      rw [hc'] at hc
      exact ab_Ks_off K2 (by omega) ks hc
    · rw [f7 c u] at hc
      exact off c hc
/-- what a step of the engine leaves alone, of the disks and the scalars -/
def ab_ds (A A' : ab_S) (d : Nat) : Prop := (∀ d', d' ≠ d → A'.2.2.2 d' = A.2.2.2 d' ∧ ∀ w, A'.1 1 d' w = A.1 1 d' w) ∧ (∀ w, w ≠ 5 → w ≠ 6 → w ≠ 7 → A'.1 0 0 w = A.1 0 0 w)
theorem ab_live_rl {A : ab_S} {d c : Nat} (hd : d < 7) (hc : A.2.2.2 d = some c) (hU : ab_U A) (y : Nat) : ab_live (ab_rl A d) y ↔ ab_live A y ∧ y ≠ c := by
  obtain ⟨U1, U2, U3, U4, U5, U6, U7⟩ := hU
  constructor
  · rintro (⟨q, hq, a, ha, hy⟩ | ⟨d', hd', h⟩)
    · exact ⟨.inl ⟨q, hq, a, ha, hy⟩, fun e => U5 d c q a hd hq hc ha (hy.trans e)⟩
    · rw [ab_rl_4] at h
      by_cases z : d' = d
      · rw [if_pos z] at h
        cases h
      · rw [if_neg z] at h
        exact ⟨.inr ⟨d', hd', h⟩, fun e => z (U6 d' d c hd' hd (e ▸ h) hc)⟩
  · rintro ⟨h | ⟨d', hd', h⟩, ne⟩
    · exact .inl h
    · refine .inr ⟨d', hd', ?_⟩
      rw [ab_rl_4]
      by_cases z : d' = d
      · rw [z, hc] at h
        exact absurd (Option.some.inj h).symm ne
      · rw [if_neg z]
        exact h
/-- the base behind a release, with the request's number -/
theorem ab_B_rl {D S T m n N d c t : Nat} {A : ab_S} {L : Nat → Bool} (hd : d < 7) (hc : A.2.2.2 d = some c) (H : ab_B D S T m n N A L) : ab_B D S T m n N (ab_G (ab_rl A d) c t) (ab_L L c false) := by
  have hL : L c = true := (H.2.1 c).mpr (.inr ⟨d, hd, hc⟩)
  have b : ab_B D S T m n N (ab_pm (ab_rl A d) c) (ab_L L c false) := by
    refine ab_B_rm (A := A) hL (fun q x _ hx => by rw [ab_pm_2] at hx; exact hx) (fun q hq => by rw [ab_pm_2]; exact H.1.2.1 q hq) (fun q _ => by rw [ab_pm_2]; exact Nat.le_refl _) (by rw [ab_pm_2]; rfl) (fun d' _ => ?_) (fun y => ?_) (fun g i w h h' => ?_) (fun r => ?_) H
    · rw [ab_pm_2, ab_pm_1 _ _ _ _ _ (by omega), ab_rl_4, ab_rl_1]
      by_cases z : d' = d
      · rw [if_pos z, if_pos ⟨rfl, z, rfl⟩]
        exact .inr ⟨rfl, rfl⟩
      · rw [if_neg z, if_neg (by omega)]
        exact .inl ⟨rfl, rfl⟩
    · rw [ab_live_2 (ab_pm_2 _ _), ab_live_rl hd hc H.1]
    · rw [ab_pm_1 _ _ _ _ _ (by omega), ab_rl_1, if_neg (by omega)]
    · have e : (ab_rl A d).1 5 r 3 = A.1 5 r 3 := by rw [ab_rl_1, if_neg (by omega)]
      rw [ab_pm_3, e]
  refine ab_B_v (A := ab_pm (ab_rl A d) c) (by rw [ab_G_2, ab_pm_2]) (by rw [ab_G_1 _ _ _ _ _ _ (by omega) (by omega), ab_pm_1 _ _ _ _ _ (by omega)]) (by rw [ab_G_1 _ _ _ _ _ _ (by omega) (by omega), ab_pm_1 _ _ _ _ _ (by omega)]) (fun r w h => ?_) (fun d' w h => by rw [ab_G_1 _ _ _ _ _ _ (by omega) (by omega), ab_pm_1 _ _ _ _ _ (by omega)]) b
  by_cases u : w = 3
  · rw [u, ab_G_3]
  · rw [ab_G_1 _ _ _ _ _ _ (by omega) (by omega), ab_pm_1 _ _ _ _ _ (by omega)]
theorem ab_fn_o (A : ab_S) (D S k g i w : Nat) (h : ¬ (g = 3 ∧ w = k)) (h' : ¬ (g = 4 ∧ i = k)) (h0 : ¬ (g = 0 ∧ w = 7)) : (ab_fn A D S k).1 g i w = A.1 g i w := by
  unfold ab_fn
  split
  · rw [ab_v_1, if_neg (by omega), ab_rb_o _ _ _ _ _ _ h h']
  · exact ab_rb_o _ _ _ _ _ _ h h'
theorem ab_fn_2 (A : ab_S) (D S k : Nat) : (ab_fn A D S k).2 = A.2 := by
  unfold ab_fn
  split <;> rfl
theorem ab_fn_4 (A : ab_S) (D S k : Nat) : (ab_fn A D S k).1 4 k 0 = 3 := by
  unfold ab_fn
  split
  · rw [ab_v_1, if_neg (by omega), ab_rb_4, if_pos rfl]
  · rw [ab_rb_4, if_pos rfl]
theorem ab_fn_3 (A : ab_S) (D S k d : Nat) : (ab_fn A D S k).1 3 d k = 1 → ¬ d < D ∧ A.1 3 d k = 1 := by
  have e : (ab_fn A D S k).1 3 d k = (ab_rb A D k).1 3 d k := by
    unfold ab_fn
    split
    · rw [ab_v_1, if_neg (by omega)]
    · rfl
  rw [e]
  unfold ab_rb
  rw [ab_clr_1]
  by_cases u : d < D
  · rw [if_pos ⟨rfl, u, rfl⟩]
    intro h
    exact absurd h (by decide)
  · rw [if_neg (by omega), ab_v4_3]
    exact fun h => ⟨u, h⟩
/-- the rebuild's write onto the spare disk ends -/
theorem ab_J2_end {D S T m n N k f : Nat} {p : Nat → Int32} {A : ab_S} {L : Nat → Bool} {W : Nat → Nat} {F : List Nat} {s4 s5 : cs_S} {s : mo_S} (hk : k < S) (hf : f < D) (hf1 : A.1 0 0 1 = nI f) (h0 : A.1 4 k 0 = 2) (hha : ∀ d k, d < 6 → k < 64 → A.1 3 d k = 1 → d < D ∧ d ≠ f) (H : ab_J2 D S T m n N p A A L W F s4 s5 s) :
    ∃ s5' s', f_X4_end s5 (nI k) (p 1) (s5.1 0 4) = some s5' ∧ f_X9_stripeRebuilt s (nI k) = some s' ∧ rf_F s s' ∧ ab_J2 D S T m n N p (ab_fn A D S k) (ab_fn A D S k) L W F s4 s5' s' := by
  obtain ⟨hP, hp, hs, hC, hR, hB, hF, hE⟩ := H
  have hS := hp.2.2.2.2.2.2.1
  have hD := hp.2.2.2.2.1
  obtain ⟨s5', e1, e2⟩ := ab_C_end hp hk h0 (fun d hd h => (hha d k hd (by omega) h).1) hC
  obtain ⟨s', e3, e4, e5⟩ := ab_R_end hp hs hk (by rw [hf1]; exact nI_nm (by omega)) hR
  refine ⟨s5', s', e1, e3, e4, hP, hp, by rw [e4.2.2.1 0 (by decide)]; exact hs, e2, e5, ab_B_v (A := A) (ab_fn_2 _ _ _ _) (ab_fn_o _ _ _ _ _ _ _ (by omega) (by omega) (by omega)) (ab_fn_o _ _ _ _ _ _ _ (by omega) (by omega) (by omega)) (fun r w _ => ab_fn_o _ _ _ _ _ _ _ (by omega) (by omega) (by omega)) (fun d w _ => ab_fn_o _ _ _ _ _ _ _ (by omega) (by omega) (by omega)) hB, hF, rfl, fun _ _ _ _ _ => rfl⟩
