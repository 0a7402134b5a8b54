/-! The engine at its beginning, in both programs. -/
def ab_z0 : ab_S := (fun g _ w => if g = 0 ∧ (w = 1 ∨ w = 7 ∨ w = 10) then -1 else if g = 1 ∧ w = 1 then -1 else if g = 6 ∧ w = 2 then -1 else 0, fun _ => [], fun _ _ => none, fun _ => none)
theorem z0_1 (g i w : Nat) : ab_z0.1 g i w = if g = 0 ∧ (w = 1 ∨ w = 7 ∨ w = 10) then -1 else if g = 1 ∧ w = 1 then -1 else if g = 6 ∧ w = 2 then -1 else 0 := rfl
theorem z0_live (c : Nat) : ¬ ab_live ab_z0 c := by
  rintro (⟨q, _, a, ha, _⟩ | ⟨d, _, h⟩)
  · cases ha
  · cases h
theorem z0_fl {nx : Nat → Int32} (h : ∀ o, o < 2200 → nx o = if o = 2199 then -1 else nI (o + 1)) : ∀ j a, a + j = 2200 → ab_fl nx (if a = 2200 then -1 else nI a) (List.range' a j)
  | 0, a, e => by
    rw [if_pos (by omega)]
    rfl
  | j + 1, a, e => by
    rw [if_neg (by omega)]
    refine ⟨rfl, by omega, ?_⟩
    rw [h a (by omega)]
    have ih := z0_fl h j (a + 1) (by omega)
    by_cases u : a = 2199
    · rw [if_pos u]
      rw [if_pos (by omega)] at ih
      exact ih
    · rw [if_neg u]
      rw [if_neg (by omega)] at ih
      exact ih
theorem z0_R (D : Nat) {t : mo_S} (h : ∀ k, k < 18186 → t.2.2.1 3 k = bg_5 2200 k) : ab_R D ab_z0 t (fun _ => 0) (List.range' 0 2200) := by
  have hv : ∀ g i w, eb g i w = true → vn t g i w = bg_5 2200 (en g i w) := fun g i w u => by rw [vn_of t u, h _ (en_lt u)]
  have v0 : ∀ w, w < 16 → w ≠ 8 → vn t 0 0 w = ab_z0.1 0 0 w := fun w hw h8 => by
    rw [hv 0 0 w (eb_0 hw), z0_1]
    show bg_5 2200 w = _
    unfold bg_5 bg_4 bg_3 bg_2 bg_1
    rw [if_neg (by omega), if_neg (by omega), if_neg (by omega), if_neg (by omega)]
    by_cases a : w = 10
    · rw [if_pos a, if_pos (by omega)]
    · rw [if_neg a]
      by_cases b : w = 7
      · rw [if_pos b, if_pos (by omega)]
      · rw [if_neg b]
        by_cases c : w = 1
        · rw [if_pos c, if_pos (by omega)]
        · rw [if_neg c, if_neg (by omega), if_neg (by omega), if_neg (by omega)]
  have v08 : vn t 0 0 8 = 0 := by
    rw [hv 0 0 8 (eb_0 (by decide))]
    decide
  have v1 : ∀ d w, d < 7 → w < 4 → vn t 1 d w = if w < 2 then -1 else 0 := fun d w hd hw => by
    rw [hv 1 d w (eb_1 hd hw)]
    show bg_5 2200 (16 + 4 * d + w) = _
    unfold bg_5 bg_4 bg_3 bg_2 bg_1
    rw [if_neg (by omega), if_neg (by omega), if_neg (by omega)]
    by_cases a : w < 2
    · rw [if_pos (by omega), if_pos a]
    · rw [if_neg (by omega), if_neg a, if_neg (by omega), if_neg (by omega), if_neg (by omega)]
  have v2 : ∀ q w, q < 42 → w < 6 → vn t 2 q w = if w < 2 then -1 else 0 := fun q w hq hw => by
    rw [hv 2 q w (decide_eq_true ⟨hq, hw⟩)]
    show bg_5 2200 (44 + 6 * q + w) = _
    unfold bg_5 bg_4 bg_3 bg_2 bg_1
    rw [if_neg (by omega), if_neg (by omega)]
    by_cases a : w < 2
    · rw [if_pos (by omega), if_pos a]
    · rw [if_neg (by omega), if_neg (by omega), if_neg a, if_neg (by omega), if_neg (by omega), if_neg (by omega)]
  have v3 : ∀ d k, d < 6 → k < 64 → vn t 3 d k = 0 := fun d k hd hk => by
    rw [hv 3 d k (eb_3 hd hk)]
    show bg_5 2200 (296 + 64 * d + k) = _
    unfold bg_5 bg_4 bg_3 bg_2 bg_1
    rw [if_neg (by omega), if_neg (by omega), if_neg (by omega), if_neg (by omega), if_neg (by omega), if_neg (by omega), if_neg (by omega)]
  have v4 : ∀ k, k < 64 → vn t 4 k 0 = 0 := fun k hk => by
    rw [hv 4 k 0 (eb_4 hk)]
    show bg_5 2200 (680 + k) = _
    unfold bg_5 bg_4 bg_3 bg_2 bg_1
    rw [if_neg (by omega), if_neg (by omega), if_neg (by omega), if_neg (by omega), if_neg (by omega), if_neg (by omega), if_neg (by omega)]
  have v6 : ∀ a w, a < 6 → w < 7 → vn t 6 a w = if w = 2 then -1 else 0 := fun a w ha hw => by
    rw [hv 6 a w (eb_6 ha hw)]
    show bg_5 2200 (2744 + 7 * a + w) = _
    unfold bg_5 bg_4 bg_3 bg_2 bg_1
    rw [if_neg (by omega)]
    by_cases b : w = 2
    · rw [if_pos (by omega), if_pos b]
    · rw [if_neg (by omega), if_neg (by omega), if_neg (by omega), if_neg b, if_neg (by omega), if_neg (by omega), if_neg (by omega)]
  have v75 : ∀ o, o < 2200 → vn t 7 o 5 = if o = 2199 then -1 else nI (o + 1) := fun o ho => by
    rw [hv 7 o 5 (eb_7 ho (by decide))]
    show bg_5 2200 (2786 + 7 * o + 5) = _
    unfold bg_5
    rw [if_pos (by omega), show (2786 + 7 * o + 5 - 2786) / 7 = o by omega]
  refine ⟨fun w hw => v0 w (by omega) (by omega), v0 9 (by decide) (by decide), v0 10 (by decide) (by decide), ?_, ?_, ?_, ?_, ?_, ?_, fun c h => absurd h (z0_live c), fun c c' h => absurd h (z0_live c), ?_, List.nodup_range', fun c h => absurd h (z0_live c)⟩
  · intro q hq
    refine ⟨by rw [v2 q 2 hq (by decide)]; rfl, ⟨by rw [v2 q 0 hq (by decide)]; rfl, by rw [v2 q 1 hq (by decide)]; rfl⟩, trivial, (fun a ha => by cases ha), fun w hw => ⟨?_, (fun x hx => by cases hx)⟩⟩
    rw [v2 q (3 + w) hq (by omega), if_neg (by omega)]
    rfl
  · intro d hd
    have a1 : ab_z0.1 1 d 1 = -1 := by rw [z0_1, if_neg (by omega), if_pos ⟨rfl, rfl⟩]
    have a2 : ab_z0.1 1 d 2 = 0 := by rw [z0_1, if_neg (by omega), if_neg (by omega), if_neg (by omega)]
    have a3 : ab_z0.1 1 d 3 = 0 := by rw [z0_1, if_neg (by omega), if_neg (by omega), if_neg (by omega)]
    rw [v1 d 0 hd (by decide), v1 d 1 hd (by decide), v1 d 2 hd (by decide), v1 d 3 hd (by decide), a1, a2, a3]
    exact ⟨fun _ => ⟨rfl, rfl, rfl, rfl⟩, rfl, rfl⟩
  · intro d k h1 h2
    rw [v3 d k h1 h2, z0_1, if_neg (by omega), if_neg (by omega), if_neg (by omega)]
  · intro k h1
    rw [v4 k h1, z0_1, if_neg (by omega), if_neg (by omega), if_neg (by omega)]
  · intro r w h1 h2 h3
    have e : ab_z0.1 0 0 2 = nI 0 := by rw [z0_1, if_neg (by omega), if_neg (by omega), if_neg (by omega)]; rfl
    rw [e] at h2
    exact absurd ((nI_ltI (by omega) (by decide)).mp h2) (by omega)
  · intro a w h1 h2
    have e : ab_z0.1 6 a w = if w = 2 then -1 else 0 := by
      rw [z0_1, if_neg (by omega), if_neg (by omega)]
      by_cases b : w = 2
      · rw [if_pos ⟨rfl, b⟩, if_pos b]
      · rw [if_neg (by omega), if_neg b]
    rw [v6 a w h1 h2, e]
  · rw [v08]
    exact z0_fl v75 2200 0 (by omega)
theorem z0_cnt {f : Nat → Bool} (h : ∀ i, f i = false) : ∀ n, ab_cnt f n = 0
  | 0 => rfl
  | n + 1 => by
    rw [ab_cnt_s, z0_cnt h n, h n]
    rfl
theorem z0_4 (i w : Nat) : ab_z0.1 4 i w = 0 := by rw [z0_1, if_neg (by omega), if_neg (by omega), if_neg (by omega)]
theorem z0_3 (i w : Nat) : ab_z0.1 3 i w = 0 := by rw [z0_1, if_neg (by omega), if_neg (by omega), if_neg (by omega)]
theorem z0_B {D S T : Nat} (hD : D ≤ 6) (hS : S ≤ 64) (hT : T ≤ 6) : ab_B D S T 0 0 0 ab_z0 (fun _ => false) := by
  refine ⟨⟨(fun q q' a a' _ _ ha => by cases ha), fun q _ => List.nodup_nil, (fun q a _ ha => by cases ha), fun q _ => by show (0 : Nat) < 3000; omega, (fun d c q a _ _ h => by cases h), (fun d d' c _ _ h => by cases h), (fun d c _ h => by cases h)⟩, fun c => ⟨(fun h => by cases h), fun h => absurd h (z0_live c)⟩, (fun q a _ ha => by cases ha), (fun d c _ h => by cases h), (fun c h => by cases h), ⟨by omega, ?_, by omega, ?_⟩, fun r hr => absurd hr (by omega), fun d hd => ⟨fun _ => ?_, (fun c h => by cases h), 0, by omega, ?_⟩, fun q _ => ⟨(fun a ha => by cases ha), (fun w _ y hy => by cases hy)⟩, hD, hS, hT, by omega⟩
  · rw [z0_1, if_neg (by omega), if_neg (by omega), if_neg (by omega)]
    rfl
  · rw [z0_1, if_neg (by omega), if_neg (by omega), if_neg (by omega)]
    rfl
  · rw [z0_1, if_neg (by omega), if_pos ⟨rfl, rfl⟩]
  · rw [z0_1, if_neg (by omega), if_neg (by omega), if_neg (by omega)]
    rfl
theorem z0_V {D S : Nat} : ab_V D S 0 none ab_z0 (fun _ => false) := by
  refine ⟨⟨by rw [z0_1, if_pos ⟨rfl, .inl rfl⟩], fun k _ => z0_4 k 0, fun d k _ _ => by rw [z0_3]; decide, fun c _ => rfl⟩, fun r hr => absurd hr (by omega), ?_, fun _ r hr => absurd hr (by omega), fun d _ => by rw [z0_1, if_neg (by omega), if_neg (by omega), if_neg (by omega)], (fun f' h => by cases h)⟩
  unfold ab_started
  rw [z0_cnt (fun i => by rw [z0_4]; decide)]
  omega
/-- the program's engine begins anew -/
theorem z0_C (S : Nat) (s5 s6 : cs_S) : ∃ s', f_X1_beginAnew s5 s6 = some (s', cs_i s6 0 0 0) ∧ ab_C S ab_z0 s' := by
  have cfi : ∀ (f : Nat → Int32) (n : Nat) (v : Int32) (i : Nat), cs_fi f n v i = if i < n then v else f i := fun _ _ _ _ => rfl
  have cfl : ∀ (f : Nat → Int64) (n : Nat) (v : Int64) (i : Nat), cs_fl f n v i = if i < n then v else f i := fun _ _ _ _ => rfl
  have ci2 : ∀ (s : cs_S) (p k : Nat) (v : Int32), (cs_i s p k v).2 = s.2 := fun _ _ _ _ => rfl
  unfold f_X1_beginAnew fc_X1_beginAnew_c1 fc_X1_beginAnew_c2 f_X3_clear fc_X3_clear_c1 fc_X3_clear_c2 fc_X3_clear_c3 fc_X3_clear_c4 f_X0_clear fc_X0_clear_c1 fc_X0_clear_c2 fc_X0_clear_c3 fc_X0_clear_c4 fc_X0_clear_c5 f_X5_clear fc_X5_clear_c1 fc_X5_clear_c2 fc_X5_clear_c3 fc_X5_clear_c4 f_X4_clear fc_X4_clear_c1 fc_X4_clear_c2 fc_X4_clear_c3 fc_X4_clear_c4 fc_X4_clear_c5 fc_X4_clear_c6 fc_X4_clear_c7 fc_X4_clear_c8 fc_X4_clear_c9
  refine ⟨_, rfl, ?_, ?_, fun q hq => ?_, fun d hd => ?_, fun t ht => ?_, fun r hr hr' => ?_, fun k hk => ?_⟩
  · simp only [ci_1, cc_1, cd_1, z0_1]
    simp
  · have c1 : ab_started ab_z0.1 S = 0 := z0_cnt (fun i => by rw [z0_4]; decide) S
    have c2 : ab_rebuilt ab_z0.1 S = 0 := z0_cnt (fun i => by rw [z0_4]; decide) S
    have c3 : ab_cached ab_z0.1 S = 0 := by
      unfold ab_cached
      have g : ∀ n, ab_sum (fun k => if ab_z0.1 4 k 0 = 0 then ab_heldOf ab_z0.1 k else 0) n = 0 := by
        intro n
        induction n with
        | zero => rfl
        | succ n ih =>
          show ab_sum _ n + (if ab_z0.1 4 n 0 = 0 then ab_heldOf ab_z0.1 n else 0) = 0
          have hz : ab_heldOf ab_z0.1 n = 0 := z0_cnt (fun i => by rw [z0_3]; decide) 6
          rw [ih, hz]
          split <;> rfl
      exact g S
    rw [c1, c2, c3]
    simp only [ci_1, cc_1, cd_1]
    simp
    rfl
  · unfold ab_Cq
    simp only [ci2, cc_2, cd_2, cd_3, cc_3, cfi, cfl]
    refine ⟨by simp [hq]; rfl, (fun a l h => by cases h), trivial, (fun a h => by cases h), ?_, ?_, ?_⟩
    · simp [hq]
      rfl
    · simp [hq]
      rfl
    · simp [hq]
      rfl
  · unfold ab_Cd
    simp only [ci2, cc_2, cd_2, cfi, z0_1]
    refine ⟨?_, ?_, ?_, ?_⟩
    · simp [hd]
      rfl
    · simp [hd]
    · simp [hd]
    · simp [hd]
  · have t1 : 3 * t < 18 := by omega
    have t2 : 3 * t + 1 < 18 := by omega
    have t3 : 3 * t + 2 < 18 := by omega
    unfold ab_Ct
    simp only [ci2, cc_2, cd_2, cfi, z0_1]
    refine ⟨?_, ?_, ?_, ?_, ?_, ?_, ?_⟩ <;> simp [ht, t1, t2, t3]
  · have e : ab_z0.1 0 0 2 = nI 0 := by rw [z0_1, if_neg (by omega), if_neg (by omega), if_neg (by omega)]; rfl
    rw [e] at hr'
    exact absurd ((nI_ltI (by omega) (by decide)).mp hr') (by omega)
  · refine ⟨?_, 0, by decide, ?_, fun d hd => ?_⟩
    · simp only [ci2, cc_2, cd_2, cfi, z0_4]
      simp [hk]
    · simp only [ci2, cc_2, cd_2, cfi]
      simp [hk]
      rfl
    · rw [z0_3, hb_zero ⟨d, hd⟩]
      decide
theorem z0_Z {D S T : Nat} {p : Nat → Int32} {s4 s5 s6 : cs_S} {t : mo_S} (hP : ab_P p s4) (hp : ab_pl p D S T) (h3 : ∀ k, k < 18186 → t.2.2.1 3 k = bg_5 2200 k) (h0 : t.2.2.1 0 = p) (h19 : t.1 19 = 0) (hC : ab_C S ab_z0 s5) (h6 : s6.1 0 0 = 0) : ab_Z D S T 0 0 0 0 0 (fun _ => 0) none p ab_z0 (fun _ => false) (fun _ => 0) (List.range' 0 2200) s4 s5 s6 t := by
  refine ⟨⟨hP, hp, h0, hC, z0_R D h3, z0_B hp.2.2.2.2.1 hp.2.2.2.2.2.2.1 hp.2.2.2.2.2.2.2.2.1, ?_⟩, z0_V, ⟨⟨by omega, h6, h19, fun i j _ h => absurd h (by omega)⟩, fun i h => absurd h (by omega)⟩, ⟨?_, ?_, Nat.le_refl 0, fun i _ h => absurd h (by omega)⟩, (fun d c _ h => by cases h), (fun f' h => by cases h)⟩
  · rw [z0_cnt (fun _ => rfl), List.length_range']
  · rw [z0_1, if_neg (by omega), if_neg (by omega), if_neg (by omega)]
    rfl
  · rw [z0_1, if_neg (by omega), if_neg (by omega), if_neg (by omega)]
