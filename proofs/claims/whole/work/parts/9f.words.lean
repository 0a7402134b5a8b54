/-! The text's words: letters' codes against bytes. -/
def tk_g (ds : List Nat) (i : Nat) : Nat := ds.getD i 0
def tk_c (f : Nat → Nat) : Nat → Nat
  | 0 => 0
  | l + 1 => 32 * tk_c f l + f l
theorem tk_c_inj {f g : Nat → Nat} : ∀ l m, (∀ i, i < l → 1 ≤ f i ∧ f i ≤ 26) → (∀ i, i < m → 1 ≤ g i ∧ g i ≤ 26) → tk_c f l = tk_c g m → l = m ∧ ∀ i, i < l → f i = g i
  | 0, 0, _, _, _ => ⟨rfl, fun i h => absurd h (by omega)⟩
  | 0, m + 1, _, hg, h => by
    have := hg m (by omega)
    have h' : 0 = 32 * tk_c g m + g m := h
    omega
  | l + 1, 0, hf, _, h => by
    have := hf l (by omega)
    have h' : 32 * tk_c f l + f l = 0 := h
    omega
  | l + 1, m + 1, hf, hg, h => by
    have a := hf l (by omega)
    have b := hg m (by omega)
    have h' : 32 * tk_c f l + f l = 32 * tk_c g m + g m := h
    obtain ⟨e, r⟩ := tk_c_inj l m (fun i hi => hf i (by omega)) (fun i hi => hg i (by omega)) (by omega)
    subst e
    refine ⟨rfl, fun i hi => ?_⟩
    by_cases c : i < l
    · exact r i c
    · rw [show i = l by omega]; omega
theorem tk_c_cg {f g : Nat → Nat} : ∀ l, (∀ i, i < l → f i = g i) → tk_c f l = tk_c g l
  | 0, _ => rfl
  | l + 1, h => by
    show 32 * tk_c f l + f l = 32 * tk_c g l + g l
    rw [tk_c_cg l (fun i hi => h i (by omega)), h l (by omega)]
theorem tk_w_c {x : Nat → Nat} {t : Nat} : ∀ l, l ≤ 7 → tk_w x t l = tk_c (fun i => x (t + i) - 96) l
  | 0, _ => rfl
  | l + 1, h => by
    show (if l < 7 then 32 * tk_w x t l + (x (t + l) - 96) else 0) = 32 * tk_c _ l + (x (t + l) - 96)
    rw [if_pos (by omega), tk_w_c l (by omega)]
theorem tk_w_0 {x : Nat → Nat} {t l : Nat} (h : 7 < l) : tk_w x t l = 0 := by
  cases l with
  | zero => omega
  | succ l =>
    show (if l < 7 then 32 * tk_w x t l + (x (t + l) - 96) else 0) = 0
    rw [if_neg (by omega)]
theorem tk_w_lt {x : Nat → Nat} {t : Nat} : ∀ l, (∀ k, t ≤ k → k < t + l → tk_k (x k) = 3) → tk_w x t l < 2 ^ (5 * l) ∧ tk_w x t l < 2 ^ 35
  | 0, _ => ⟨Nat.zero_lt_one, by show 0 < 2 ^ 35; omega⟩
  | l + 1, h => by
    have ih := tk_w_lt l (fun k h1 h2 => h k h1 (by omega))
    have k3 := tk_k3 (h (t + l) (by omega) (by omega))
    show (if l < 7 then 32 * tk_w x t l + (x (t + l) - 96) else 0) < _ ∧ (if l < 7 then 32 * tk_w x t l + (x (t + l) - 96) else 0) < _
    by_cases a : l < 7
    · rw [if_pos a]
      have e : 2 ^ (5 * (l + 1)) = 32 * 2 ^ (5 * l) := by rw [Nat.mul_succ, Nat.pow_add, Nat.mul_comm]
      have e' : 2 ^ (5 * (l + 1)) ≤ 2 ^ 35 := Nat.pow_le_pow_right (by omega) (by omega)
      rw [e] at e' ⊢
      have : 32 * tk_w x t l + (x (t + l) - 96) < 32 * 2 ^ (5 * l) := by omega
      exact ⟨this, by omega⟩
    · rw [if_neg a]
      exact ⟨Nat.pow_pos (by omega), by omega⟩
/-- word number w of the program has the code W -/
def tk_tab (w W : Nat) : Prop := ∃ L g, (pm_tx w).length = L ∧ 1 ≤ L ∧ L ≤ 7 ∧ (∀ i, i < L → pm_cr w i = nI (g i + 96) ∧ 1 ≤ g i ∧ g i ≤ 26) ∧ tk_c g L = W
theorem tb_disks : tk_tab 2 4509043 := ⟨5, tk_g [4, 9, 19, 11, 19], by decide +kernel, by decide, by decide, by decide +kernel, by decide +kernel⟩
theorem tb_stripes : tk_tab 3 21091369139 := ⟨7, tk_g [19, 20, 18, 9, 16, 5, 19], by decide +kernel, by decide, by decide, by decide +kernel, by decide +kernel⟩
theorem tb_base : tk_tab 4 67173 := ⟨4, tk_g [2, 1, 19, 5], by decide +kernel, by decide, by decide, by decide +kernel, by decide +kernel⟩
theorem tb_seek : tk_tab 5 627883 := ⟨4, tk_g [19, 5, 5, 11], by decide +kernel, by decide, by decide, by decide +kernel, by decide +kernel⟩
theorem tb_rebuild : tk_tab 6 19497919876 := ⟨7, tk_g [18, 5, 2, 21, 9, 12, 4], by decide +kernel, by decide, by decide, by decide +kernel, by decide +kernel⟩
theorem tb_window : tk_tab 7 781652471 := ⟨6, tk_g [23, 9, 14, 4, 15, 23], by decide +kernel, by decide, by decide, by decide +kernel, by decide +kernel⟩
theorem tb_cache : tk_tab 8 3181829 := ⟨5, tk_g [3, 1, 3, 8, 5], by decide +kernel, by decide, by decide, by decide +kernel, by decide +kernel⟩
theorem tb_tenant : tk_tab 9 676791764 := ⟨6, tk_g [20, 5, 14, 1, 14, 20], by decide +kernel, by decide, by decide, by decide +kernel, by decide +kernel⟩
theorem tb_slack : tk_tab 10 20317291 := ⟨5, tk_g [19, 12, 1, 3, 11], by decide +kernel, by decide, by decide, by decide +kernel, by decide +kernel⟩
theorem tb_at : tk_tab 13 52 := ⟨2, tk_g [1, 20], by decide +kernel, by decide, by decide, by decide +kernel, by decide +kernel⟩
theorem tb_writes : tk_tab 14 790941875 := ⟨6, tk_g [23, 18, 9, 20, 5, 19], by decide +kernel, by decide, by decide, by decide +kernel, by decide +kernel⟩
theorem tb_reads : tk_tab 15 19039379 := ⟨5, tk_g [18, 5, 1, 4, 19], by decide +kernel, by decide, by decide, by decide +kernel, by decide +kernel⟩
theorem tb_by : tk_tab 16 89 := ⟨2, tk_g [2, 25], by decide +kernel, by decide, by decide, by decide +kernel, by decide +kernel⟩
/-- the program's token is that of the text -/
def tk_C (x : Nat → Nat) (len t u c : Nat) (s0 : cs_S) : Prop := tk_B x len s0 ∧ s0.1 1 3 = nI c ∧ s0.1 1 4 = nI t ∧ s0.1 1 5 = nI u
theorem tk_T.c5 {x : Nat → Nat} {len p t u c : Nat} {L : Int32} (h : tk_T x len L p t u c) : c = 0 ∨ c = 1 ∨ c = 3 ∨ c = 4 ∨ c = 5 := by
  rcases h.2 with h | ⟨h0, h | h | h⟩
  · omega
  · omega
  · omega
  · rcases h.2.2.2 with h' | h' <;> omega
theorem tk_T.r3 {x : Nat → Nat} {len p t u c : Nat} {L : Int32} (h : tk_T x len L p t u c) (hc : c = 3 ∨ c = 4) : t < u ∧ u ≤ len ∧ (∀ k, t ≤ k → k < u → tk_k (x k) = c) ∧ (u < len → tk_k (x u) ≠ c) ∧ (c = 4 → u - t ≤ 5) := by
  have hu := h.1.2.2.1
  rcases h.2 with h | ⟨h0, h | h | h⟩
  · omega
  · omega
  · omega
  · rcases h.2.2.2 with h' | h'
    · omega
    · rw [← h'.1] at h
      exact ⟨h0.2.1, hu, h.2.1, h.2.2.1, fun e => h'.2.2 (by omega)⟩
theorem cl_sees {x : Nat → Nat} {len p t u c w W : Nat} {L : Int32} {s0 : cs_S} (tb : tk_tab w W) (C : tk_C x len t u c s0) (T : tk_T x len L p t u c) :
    (f_X6_sees s0 w = some 1 ∧ c = 3 ∧ tk_w x t (u - t) = W) ∨ (f_X6_sees s0 w = some 0 ∧ (c = 3 → tk_w x t (u - t) ≠ W)) := by
  obtain ⟨M, g, b1, b2, b3, b4, b5⟩ := tb
  obtain ⟨B, h3, h4, h5⟩ := C
  have hl := B.1
  have hc5 := T.c5
  by_cases a : c = 3
  · obtain ⟨r1, r2, r3, r4, _⟩ := T.r3 (.inl a)
    have kk : s0.1 1 3 = 3 := by rw [h3, a]; rfl
    have f26 : ∀ i, i < u - t → 1 ≤ x (t + i) - 96 ∧ x (t + i) - 96 ≤ 26 := fun i hi => by
      have := tk_k3 ((r3 (t + i) (by omega) (by omega)).trans a)
      omega
    by_cases e : u - t = M
    · obtain ⟨r, q1, q2⟩ : ∃ r, pm_loop pm_fu (lb_X6_sees_28 s0 w) 0 = some r ∧ ((r = 1 ∧ ∀ i, i < M → x (t + i) = g i + 96) ∨ (r = 0 ∧ ∃ i, i < M ∧ x (t + i) ≠ g i + 96)) := by
        refine lp_wh (fun m y => ∃ i, m + i = M ∧ y = nI i ∧ ∀ j, j < i → x (t + j) = g j + 96) ?_ pm_fu M 0 (by show M < 1000000; omega) ⟨0, by omega, rfl, fun j hj => absurd hj (by omega)⟩
        rintro m y ⟨i, hm, rfl, hj⟩
        by_cases d : i < M
        · have k3 := tk_k3 ((r3 (t + i) (by omega) (by omega)).trans a)
          have bt : s0.2.1 2 (Int32.toNatClampNeg (nI (t + i))) = nI (x (t + i)) := by
            rw [nI_clamp (by omega), (B.2.2 (t + i) (by omega)).2, tk_low _ (by omega)]
          have cr := (b4 i d).1
          have n1 : ¬ Int32.ofNat (pm_tx w).length ≤ nI i := by
            rw [b1]
            exact fun h => absurd ((nI_leI (a := M) (by omega) (by omega)).mp h) (by omega)
          have ib1 : pm_inb (nI (t + i)) 800 = true := nb_nI (by omega) (by decide)
          have ib2 : pm_inb (nI i) (pm_tx w).length = true := nb_nI (by omega) (by omega)
          by_cases eq : x (t + i) = g i + 96
          · refine .inl ⟨nI (i + 1), m - 1, ?_, by omega, i + 1, by omega, rfl, fun j h => ?_⟩
            · unfold lb_X6_sees_28
              simp only [if_neg n1, h4, nI_add, ib1, ib2, bt, nI_clamp (show i < 2 ^ 31 by omega), cr]
              rw [if_pos (by rw [eq]), nI_1]
            · by_cases f : j < i
              · exact hj j f
              · rw [show j = i by omega]; exact eq
          · refine .inr ⟨0, ?_, .inr ⟨rfl, i, d, eq⟩⟩
            have g26 := (b4 i d).2
            unfold lb_X6_sees_28
            simp only [if_neg n1, h4, nI_add, ib1, ib2, bt, nI_clamp (show i < 2 ^ 31 by omega), cr]
            rw [if_neg (fun h => eq ((nI_eq (by omega) (by omega)).mp h))]
        · refine .inr ⟨1, ?_, .inl ⟨rfl, fun j h => hj j (by omega)⟩⟩
          unfold lb_X6_sees_28
          simp only []
          rw [if_pos (by rw [b1]; exact (nI_leI (a := M) (by omega) (by omega)).mpr (by omega))]
      have st : f_X6_sees s0 w = some r := by
        unfold f_X6_sees
        rw [if_pos kk, h4, h5, nI_sub (by omega), b1, e]
        rw [if_pos (show nI M = Int32.ofNat M from rfl)]
        exact q1
      rcases q2 with ⟨rfl, q2⟩ | ⟨rfl, i, q2, q3⟩
      · refine .inl ⟨st, a, ?_⟩
        rw [tk_w_c _ (by omega), e, ← b5]
        exact tk_c_cg M (fun i hi => by show x (t + i) - 96 = g i; rw [q2 i hi]; omega)
      · refine .inr ⟨st, fun _ h => q3 ?_⟩
        rw [tk_w_c _ (by omega), ← b5] at h
        have := (tk_c_inj (u - t) M f26 (fun i hi => (b4 i hi).2) h).2 i (by omega)
        have := f26 i (by omega)
        omega
    · refine .inr ⟨?_, fun _ h => ?_⟩
      · unfold f_X6_sees
        rw [if_pos kk, h4, h5, nI_sub (by omega), b1]
        rw [if_neg (show ¬ nI (u - t) = Int32.ofNat M from fun h => e ((nI_eq (b := M) (by omega) (by omega)).mp h))]
      · by_cases d : u - t ≤ 7
        · rw [tk_w_c _ d, ← b5] at h
          exact e (tk_c_inj (u - t) M f26 (fun i hi => (b4 i hi).2) h).1
        · rw [tk_w_0 (by omega), ← b5] at h
          have := (tk_c_inj (f := g) 0 M (fun i hi => absurd hi (by omega)) (fun i hi => (b4 i hi).2) h).1
          omega
  · refine .inr ⟨?_, fun h => absurd h a⟩
    unfold f_X6_sees
    rw [if_neg (by rw [h3]; exact fun h => a ((nI_eq (b := 3) (by omega) (by omega)).mp h))]
theorem lN_inj {a b : Nat} (ha : a < 2 ^ 40) (hb : b < 2 ^ 40) (h : lN a = lN b) : a = b := by
  have h' := congrArg Int64.toInt h
  unfold lN at h'
  rw [Int64.toInt_ofNat_of_lt (by omega), Int64.toInt_ofNat_of_lt (by omega)] at h'
  omega
theorem lg_0 (a b : Int64) : lg_cmp a b = 0 ↔ a = b := by
  unfold lg_cmp
  by_cases h1 : a > b
  · rw [if_pos h1]
    exact ⟨fun h => absurd h (by decide), fun h => absurd h1 (by rw [h]; exact Int64.lt_irrefl)⟩
  · rw [if_neg h1]
    by_cases h2 : a = b
    · rw [if_pos h2]
      exact ⟨fun _ => h2, fun _ => rfl⟩
    · rw [if_neg h2]
      exact ⟨fun h => absurd h (by decide), fun h => absurd h h2⟩
