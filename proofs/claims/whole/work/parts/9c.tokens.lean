/-! The text's tokens: the program's step(). -/
/-- the kind of a byte -/
def tk_k (b : Nat) : Nat := if 97 ≤ b ∧ b ≤ 122 then 3 else if 48 ≤ b ∧ b ≤ 57 then 4 else if b = 32 ∨ b = 10 then 2 else if b = 59 then 5 else 1
theorem tk_kind : ∀ b, b < 256 → f_X6_kindOf (nI b).toInt8.toInt32 = some (nI (tk_k b)) := by decide +kernel
theorem tk_low : ∀ b, b < 128 → (nI b).toInt8.toInt32 = nI b := by decide +kernel
theorem tk_k5 (b : Nat) : tk_k b = 1 ∨ tk_k b = 2 ∨ tk_k b = 3 ∨ tk_k b = 4 ∨ tk_k b = 5 := by
  unfold tk_k
  repeat' split
  all_goals omega
/-- the token behind place p: from t to u, of kind c; L: where the last run ended -/
def tk_T (x : Nat → Nat) (len : Nat) (L : Int32) (p t u c : Nat) : Prop :=
  (p ≤ t ∧ t ≤ len ∧ u ≤ len ∧ ∀ k, p ≤ k → k < t → tk_k (x k) = 2) ∧
  ((c = 0 ∧ t = len) ∨ ((t < len ∧ t < u ∧ tk_k (x t) ≠ 2) ∧
    ((c = 5 ∧ tk_k (x t) = 5 ∧ u = t + 1) ∨ (c = 1 ∧ tk_k (x t) = 1) ∨
     ((tk_k (x t) = 3 ∨ tk_k (x t) = 4) ∧ (∀ k, t ≤ k → k < u → tk_k (x k) = tk_k (x t)) ∧ (u < len → tk_k (x u) ≠ tk_k (x t)) ∧
        ((c = 1 ∧ (L = nI t ∨ (tk_k (x t) = 4 ∧ 5 < u - t))) ∨ (c = tk_k (x t) ∧ L ≠ nI t ∧ (tk_k (x t) = 4 → u - t ≤ 5)))))))
/-- the program's bytes -/
def tk_B (x : Nat → Nat) (len : Nat) (s0 : cs_S) : Prop := len ≤ 800 ∧ s0.1 1 2 = nI len ∧ ∀ k, k < len → x k < 256 ∧ s0.2.1 2 k = (nI (x k)).toInt8.toInt32
/-- all but the token -/
def tk_F (s0 s0' : cs_S) : Prop := s0'.2 = s0.2 ∧ ∀ p k, ¬ (p = 1 ∧ (k = 3 ∨ k = 4 ∨ k = 5)) → s0'.1 p k = s0.1 p k
theorem tk_F.rfl' (s : cs_S) : tk_F s s := ⟨rfl, fun _ _ _ => rfl⟩
theorem tk_F.trans {a b c : cs_S} (h : tk_F a b) (h' : tk_F b c) : tk_F a c := ⟨h'.1.trans h.1, fun p k hk => (h'.2 p k hk).trans (h.2 p k hk)⟩
theorem tk_F.i (s : cs_S) {k : Nat} (v : Int32) (h : k = 3 ∨ k = 4 ∨ k = 5) : tk_F s (cs_i s 1 k v) := ⟨rfl, fun p k' h' => by rw [ci_1, if_neg (by omega)]⟩
theorem tk_B.F {x : Nat → Nat} {len : Nat} {s s' : cs_S} (h : tk_B x len s) (f : tk_F s s') : tk_B x len s' := ⟨h.1, by rw [f.2 1 2 (by omega)]; exact h.2.1, fun k hk => by rw [f.1]; exact h.2.2 k hk⟩
theorem tk_B.k {x : Nat → Nat} {len k : Nat} {s : cs_S} (h : tk_B x len s) (hk : k < len) : f_X6_kindOf (s.2.1 2 (Int32.toNatClampNeg (nI k))) = some (nI (tk_k (x k))) := by
  have hl := h.1
  rw [nI_clamp (by omega), (h.2.2 k hk).2]
  exact tk_kind _ (h.2.2 k hk).1
theorem tk_klt (b : Nat) : tk_k b < 2 ^ 31 := by
  have := tk_k5 b
  omega
theorem st_30e (s : cs_S) (l1 : Int32) (h : s.1 1 2 ≤ s.1 1 4) : lb_X6_step_30 (s, l1) = some (.inr (cs_i s 1 3 0)) := by
  have h' : ¬ s.1 1 4 < s.1 1 2 := Int32.not_lt.mpr h
  unfold lb_X6_step_30
  simp only [if_pos h, if_neg h', ite_self]
theorem st_30b (s : cs_S) (l1 : Int32) (h : ¬ s.1 1 2 ≤ s.1 1 4) (hb : pm_inb (s.1 1 4) 800 = true) (hk : f_X6_kindOf (s.2.1 2 (Int32.toNatClampNeg (s.1 1 4))) = some 2) : lb_X6_step_30 (s, l1) = some (.inl (cs_i s 1 4 (s.1 1 4 + 1), l1)) := by
  unfold lb_X6_step_30
  simp only [if_neg h, hb, hk, if_true]
/-- a token begins -/
def st_n (s : cs_S) (l1 r : Int32) : Option ((cs_S × Int32) ⊕ cs_S) := if r = 3 ∨ r = 4 then (match pm_loop pm_fu lb_X6_step_151 (cs_i (cs_i s 1 3 r) 1 5 (s.1 1 4 + 1), l1, if l1 ≠ 0 ∧ s.1 1 4 = s.1 1 5 then 1 else 0) with | none => none | some e => some (.inr e)) else some (.inr (cs_i (cs_i s 1 3 r) 1 5 (s.1 1 4 + 1)))
theorem st_30k (s : cs_S) (l1 r : Int32) (h : ¬ s.1 1 2 ≤ s.1 1 4) (hb : pm_inb (s.1 1 4) 800 = true) (hk : f_X6_kindOf (s.2.1 2 (Int32.toNatClampNeg (s.1 1 4))) = some r) (hr : r ≠ 2) : lb_X6_step_30 (s, l1) = st_n s l1 r := by
  have h' : s.1 1 4 < s.1 1 2 := Int32.not_le.mp h
  have e3 : ∀ v, (cs_i (cs_i s 1 3 r) 1 5 v).1 1 3 = r := fun v => by rw [ci_1, if_neg (by omega), ci_1, if_pos ⟨rfl, rfl⟩]
  have e4 : (cs_i s 1 3 r).1 1 4 = s.1 1 4 := by rw [ci_1, if_neg (by omega)]
  unfold lb_X6_step_30 st_n
  simp only [if_neg h, hb, hk, if_neg hr, if_pos h', e3, e4]
  by_cases a : l1 = 0
  · by_cases r3 : r = 3
    · simp [a, r3]
      try (generalize pm_loop pm_fu lb_X6_step_151 _ = q; cases q <;> rfl)
    · by_cases r4 : r = 4
      · simp [a, r4]
        try (generalize pm_loop pm_fu lb_X6_step_151 _ = q; cases q <;> rfl)
      · simp [a, r3, r4]
        try (generalize pm_loop pm_fu lb_X6_step_151 _ = q; cases q <;> rfl)
  · by_cases b : s.1 1 4 = s.1 1 5
    · by_cases r3 : r = 3
      · simp only [if_neg a, if_pos b, if_pos r3, if_pos (show r = 3 ∨ r = 4 from .inl r3), if_pos (show l1 ≠ 0 ∧ s.1 1 4 = s.1 1 5 from ⟨a, b⟩)]
        try (generalize pm_loop pm_fu lb_X6_step_151 _ = q; cases q <;> rfl)
      · by_cases r4 : r = 4
        · simp only [if_neg a, if_pos b, if_neg r3, if_pos r4, if_pos (show r = 3 ∨ r = 4 from .inr r4), if_pos (show l1 ≠ 0 ∧ s.1 1 4 = s.1 1 5 from ⟨a, b⟩)]
          try (generalize pm_loop pm_fu lb_X6_step_151 _ = q; cases q <;> rfl)
        · simp only [if_neg a, if_pos b, if_neg r3, if_neg r4, if_neg (show ¬ (r = 3 ∨ r = 4) from fun h => h.elim r3 r4)]
          try (generalize pm_loop pm_fu lb_X6_step_151 _ = q; cases q <;> rfl)
    · have nb : ¬ (l1 ≠ 0 ∧ s.1 1 4 = s.1 1 5) := fun h => b h.2
      by_cases r3 : r = 3
      · simp only [if_neg a, if_neg b, if_pos r3, if_pos (show r = 3 ∨ r = 4 from .inl r3), if_neg nb]
        try (generalize pm_loop pm_fu lb_X6_step_151 _ = q; cases q <;> rfl)
      · by_cases r4 : r = 4
        · simp only [if_neg a, if_neg b, if_neg r3, if_pos r4, if_pos (show r = 3 ∨ r = 4 from .inr r4), if_neg nb]
          try (generalize pm_loop pm_fu lb_X6_step_151 _ = q; cases q <;> rfl)
        · simp only [if_neg a, if_neg b, if_neg r3, if_neg r4, if_neg (show ¬ (r = 3 ∨ r = 4) from fun h => h.elim r3 r4)]
          try (generalize pm_loop pm_fu lb_X6_step_151 _ = q; cases q <;> rfl)
/-- a run is gone through -/
theorem st_run {x : Nat → Nat} {len t K e : Nat} {s : cs_S} {l1 l2 : Int32} (B : tk_B x len s) (h3 : s.1 1 3 = nI K) (hK : K = 3 ∨ K = 4) (h4 : s.1 1 4 = nI t) (h5 : s.1 1 5 = nI e) (he : t < e) (hl : e ≤ len) (hr : ∀ k, t ≤ k → k < e → tk_k (x k) = K) :
    ∃ s', pm_loop pm_fu lb_X6_step_151 (s, l1, l2) = some s' ∧ ∃ u, t < u ∧ u ≤ len ∧ (∀ k, t ≤ k → k < u → tk_k (x k) = K) ∧ (u < len → tk_k (x u) ≠ K) ∧ s'.1 1 3 = (if l2 ≠ 0 ∨ (K = 4 ∧ 5 < u - t) then 1 else nI K) ∧ s'.1 1 4 = nI t ∧ s'.1 1 5 = nI u ∧ tk_F s s' := by
  refine lp_wh (fun m y => ∃ z e, y = (z, l1, l2) ∧ m + e = len ∧ t < e ∧ z.1 1 3 = nI K ∧ z.1 1 4 = nI t ∧ z.1 1 5 = nI e ∧ tk_F s z ∧ ∀ k, t ≤ k → k < e → tk_k (x k) = K) ?_ pm_fu (len - e) _ (by have := B.1; show len - e < 1000000; omega) ⟨s, e, rfl, by omega, he, h3, h4, h5, tk_F.rfl' s, hr⟩
  rintro m y ⟨z, e, rfl, hm, he, z3, z4, z5, zF, zr⟩
  have ZB := B.F zF
  have hl := ZB.1
  have hK31 : K < 2 ^ 31 := by omega
  have fin : (if l2 = 0 then (if z.1 1 3 = 4 then (if z.1 1 5 - z.1 1 4 ≤ 5 then some (.inr z) else some (.inr (cs_i z 1 3 1))) else some (.inr z)) else some (.inr (cs_i z 1 3 1)) : Option ((cs_S × Int32 × Int32) ⊕ cs_S)) = some (.inr (if l2 ≠ 0 ∨ (K = 4 ∧ 5 < e - t) then cs_i z 1 3 1 else z)) := by
    by_cases a : l2 = 0
    · rw [if_pos a, z3, z4, z5, nI_sub (by omega)]
      rcases hK with rfl | rfl
      · rw [if_neg (by decide), if_neg (fun h => h.elim (fun h => h a) (fun h => absurd h.1 (by omega)))]
      · rw [if_pos (show nI 4 = 4 from rfl)]
        by_cases b : 5 < e - t
        · rw [if_neg (show ¬ nI (e - t) ≤ 5 from fun h => absurd ((nI_leI (b := 5) (by omega) (by omega)).mp h) (by omega)), if_pos (.inr ⟨rfl, b⟩)]
        · rw [if_pos (show nI (e - t) ≤ 5 from (nI_leI (b := 5) (by omega) (by omega)).mpr (by omega)), if_neg (fun h => h.elim (fun h => h a) (fun h => b h.2))]
    · rw [if_neg a, if_pos (.inl a)]
  have Qf : (e < len → tk_k (x e) ≠ K) → ∃ u, t < u ∧ u ≤ len ∧ (∀ k, t ≤ k → k < u → tk_k (x k) = K) ∧ (u < len → tk_k (x u) ≠ K) ∧ (if l2 ≠ 0 ∨ (K = 4 ∧ 5 < e - t) then cs_i z 1 3 1 else z).1 1 3 = (if l2 ≠ 0 ∨ (K = 4 ∧ 5 < u - t) then 1 else nI K) ∧ (if l2 ≠ 0 ∨ (K = 4 ∧ 5 < e - t) then cs_i z 1 3 1 else z).1 1 4 = nI t ∧ (if l2 ≠ 0 ∨ (K = 4 ∧ 5 < e - t) then cs_i z 1 3 1 else z).1 1 5 = nI u ∧ tk_F s (if l2 ≠ 0 ∨ (K = 4 ∧ 5 < e - t) then cs_i z 1 3 1 else z) := by
    intro hn
    refine ⟨e, he, by omega, zr, hn, ?_⟩
    by_cases c : l2 ≠ 0 ∨ (K = 4 ∧ 5 < e - t)
    · rw [if_pos c, if_pos c]
      exact ⟨by rw [ci_1, if_pos ⟨rfl, rfl⟩], by rw [ci_1, if_neg (by omega)]; exact z4, by rw [ci_1, if_neg (by omega)]; exact z5, zF.trans (tk_F.i z 1 (.inl rfl))⟩
    · rw [if_neg c, if_neg c]
      exact ⟨z3, z4, z5, zF⟩
  by_cases a : e < len
  · have n1 : ¬ z.1 1 2 ≤ z.1 1 5 := by
      rw [ZB.2.1, z5]
      exact fun h => absurd ((nI_leI (by omega) (by omega)).mp h) (by omega)
    have ib : pm_inb (z.1 1 5) 800 = true := by rw [z5]; exact nb_nI (by omega) (by decide)
    have kk := ZB.k a
    rw [← z5] at kk
    by_cases b : tk_k (x e) = K
    · refine .inl ⟨(cs_i z 1 5 (z.1 1 5 + 1), l1, l2), m - 1, ?_, by omega, cs_i z 1 5 (z.1 1 5 + 1), e + 1, rfl, by omega, by omega, ?_, ?_, ?_, zF.trans (tk_F.i z _ (.inr (.inr rfl))), ?_⟩
      · unfold lb_X6_step_151
        simp only [if_neg n1, ib, kk]
        rw [if_pos (by rw [b, z3])]
      · rw [ci_1, if_neg (by omega)]; exact z3
      · rw [ci_1, if_neg (by omega)]; exact z4
      · rw [ci_1, if_pos ⟨rfl, rfl⟩, z5, nI_1]
      · intro k h1 h2
        by_cases c : k < e
        · exact zr k h1 c
        · rw [show k = e by omega]; exact b
    · refine .inr ⟨_, ?_, Qf (fun _ => b)⟩
      unfold lb_X6_step_151
      simp only [if_neg n1, ib, kk]
      rw [if_neg (show ¬ nI (tk_k (x e)) = z.1 1 3 from fun h => b ((nI_eq (tk_klt _) hK31).mp (h.trans z3)))]
      exact fin
  · refine .inr ⟨_, ?_, Qf (fun h => absurd h a)⟩
    have n1 : z.1 1 2 ≤ z.1 1 5 := by
      rw [ZB.2.1, z5]
      exact (nI_leI (by omega) (by omega)).mpr (by omega)
    unfold lb_X6_step_151
    simp only [if_pos n1]
    exact fin
/-- step() -/
theorem tk_step {x : Nat → Nat} {len u : Nat} {s : cs_S} (B : tk_B x len s) (h5 : s.1 1 5 = nI u) (hu : u ≤ len) :
    ∃ s', f_X6_step s = some s' ∧ ∃ t' u' c', tk_T x len (if s.1 1 3 = 3 ∨ s.1 1 3 = 4 then nI u else -1) u t' u' c' ∧ s'.1 1 3 = nI c' ∧ s'.1 1 4 = nI t' ∧ s'.1 1 5 = nI u' ∧ tk_F s s' := by
  have hl := B.1
  have main : ∀ l1 : Int32, ∃ s', pm_loop pm_fu lb_X6_step_30 (cs_i s 1 4 (s.1 1 5), l1) = some s' ∧ ∃ t' u' c', tk_T x len (if l1 ≠ 0 then nI u else -1) u t' u' c' ∧ s'.1 1 3 = nI c' ∧ s'.1 1 4 = nI t' ∧ s'.1 1 5 = nI u' ∧ tk_F s s' := by
    intro l1
    refine lp_wh (fun m y => ∃ z t, y = (z, l1) ∧ m + t = len ∧ u ≤ t ∧ z.1 1 4 = nI t ∧ z.1 1 5 = nI u ∧ tk_F s z ∧ ∀ k, u ≤ k → k < t → tk_k (x k) = 2) ?_ pm_fu (len - u) _ (by show len - u < 1000000; omega) ⟨_, u, rfl, by omega, by omega, by rw [ci_1, if_pos ⟨rfl, rfl⟩, h5], by rw [ci_1, if_neg (by omega), h5], tk_F.i s _ (.inr (.inl rfl)), fun k h1 h2 => absurd h1 (by omega)⟩
    rintro m y ⟨z, t, rfl, hm, ht, z4, z5, zF, zr⟩
    have ZB := B.F zF
    by_cases a : t < len
    · have n1 : ¬ z.1 1 2 ≤ z.1 1 4 := by
        rw [ZB.2.1, z4]
        exact fun h => absurd ((nI_leI (by omega) (by omega)).mp h) (by omega)
      have ib : pm_inb (z.1 1 4) 800 = true := by rw [z4]; exact nb_nI (by omega) (by decide)
      have kk := ZB.k a
      rw [← z4] at kk
      by_cases b : tk_k (x t) = 2
      · refine .inl ⟨_, m - 1, st_30b z l1 n1 ib (by rw [kk, b]; rfl), by omega, _, t + 1, rfl, by omega, by omega, ?_, ?_, zF.trans (tk_F.i z _ (.inr (.inl rfl))), ?_⟩
        · rw [ci_1, if_pos ⟨rfl, rfl⟩, z4, nI_1]
        · rw [ci_1, if_neg (by omega)]; exact z5
        · intro k h1 h2
          by_cases c : k < t
          · exact zr k h1 c
          · rw [show k = t by omega]; exact b
      · rw [st_30k z l1 _ n1 ib kk (by rw [show (2 : Int32) = nI 2 from rfl, Ne, nI_eq (tk_klt _) (by omega)]; exact b)]
        have w3 : (cs_i (cs_i z 1 3 (nI (tk_k (x t)))) 1 5 (z.1 1 4 + 1)).1 1 3 = nI (tk_k (x t)) := by rw [ci_1, if_neg (by omega), ci_1, if_pos ⟨rfl, rfl⟩]
        have w4 : (cs_i (cs_i z 1 3 (nI (tk_k (x t)))) 1 5 (z.1 1 4 + 1)).1 1 4 = nI t := by rw [ci_1, if_neg (by omega), ci_1, if_neg (by omega)]; exact z4
        have w5 : (cs_i (cs_i z 1 3 (nI (tk_k (x t)))) 1 5 (z.1 1 4 + 1)).1 1 5 = nI (t + 1) := by rw [ci_1, if_pos ⟨rfl, rfl⟩, z4, nI_1]
        have wF : tk_F s (cs_i (cs_i z 1 3 (nI (tk_k (x t)))) 1 5 (z.1 1 4 + 1)) := zF.trans ((tk_F.i z _ (.inl rfl)).trans (tk_F.i _ _ (.inr (.inr rfl))))
        unfold st_n
        by_cases c : tk_k (x t) = 3 ∨ tk_k (x t) = 4
        · have ct : nI (tk_k (x t)) = 3 ∨ nI (tk_k (x t)) = 4 := c.elim (fun h => .inl (by rw [h]; rfl)) (fun h => .inr (by rw [h]; rfl))
          rw [if_pos ct]
          obtain ⟨s', r1, v, v1, v2, v3, v4, v5, v6, v7, v8⟩ := st_run (l1 := l1) (l2 := if l1 ≠ 0 ∧ z.1 1 4 = z.1 1 5 then 1 else 0) (B.F wF) w3 c w4 w5 (by omega) (by omega) (fun k h1 h2 => by rw [show k = t by omega])
          rw [r1]
          have gl : ((if l1 ≠ 0 ∧ z.1 1 4 = z.1 1 5 then (1 : Int32) else 0) ≠ 0) ↔ (if l1 ≠ 0 then nI u else -1) = nI t := by
            rw [z4, z5]
            by_cases d : l1 ≠ 0
            · rw [if_pos d, nI_eq (a := u) (b := t) (by omega) (by omega)]
              by_cases e : t = u
              · rw [if_pos ⟨d, by rw [e]⟩]
                exact ⟨fun _ => e.symm, fun _ => by decide⟩
              · rw [if_neg (fun h => e ((nI_eq (by omega) (by omega)).mp h.2))]
                exact ⟨fun h => absurd rfl h, fun h => absurd h.symm e⟩
            · rw [if_neg d, if_neg (fun h => d h.1)]
              refine ⟨fun h => absurd rfl h, fun h => ?_⟩
              have := nI_pos' (n := t) (by omega)
              rw [← h] at this
              exact absurd this (by decide)
          refine .inr ⟨_, rfl, t, v, if (if l1 ≠ 0 ∧ z.1 1 4 = z.1 1 5 then (1 : Int32) else 0) ≠ 0 ∨ (tk_k (x t) = 4 ∧ 5 < v - t) then 1 else tk_k (x t), ⟨⟨ht, by omega, v2, zr⟩, .inr ⟨⟨a, v1, b⟩, .inr (.inr ⟨c, v3, v4, ?_⟩)⟩⟩, ?_, v6, v7, wF.trans v8⟩
          · by_cases g : (if l1 ≠ 0 ∧ z.1 1 4 = z.1 1 5 then (1 : Int32) else 0) ≠ 0 ∨ (tk_k (x t) = 4 ∧ 5 < v - t)
            · rw [if_pos g]
              exact .inl ⟨rfl, g.elim (fun h => .inl (gl.mp h)) .inr⟩
            · rw [if_neg g]
              exact .inr ⟨rfl, fun h => g (.inl (gl.mpr h)), fun h => by
                by_cases q : 5 < v - t
                · exact absurd (.inr ⟨h, q⟩) g
                · omega⟩
          · rw [v5]
            by_cases g : (if l1 ≠ 0 ∧ z.1 1 4 = z.1 1 5 then (1 : Int32) else 0) ≠ 0 ∨ (tk_k (x t) = 4 ∧ 5 < v - t)
            · rw [if_pos g, if_pos g]; rfl
            · rw [if_neg g, if_neg g]
        · have ct : ¬ (nI (tk_k (x t)) = 3 ∨ nI (tk_k (x t)) = 4) := fun h => h.elim (fun h => c (.inl ((nI_eq (b := 3) (tk_klt _) (by omega)).mp h))) (fun h => c (.inr ((nI_eq (b := 4) (tk_klt _) (by omega)).mp h)))
          rw [if_neg ct]
          refine .inr ⟨_, rfl, t, t + 1, tk_k (x t), ⟨⟨ht, by omega, by omega, zr⟩, .inr ⟨⟨a, by omega, b⟩, ?_⟩⟩, w3, w4, w5, wF⟩
          have := tk_k5 (x t)
          by_cases d : tk_k (x t) = 5
          · exact .inl ⟨d, d, rfl⟩
          · exact .inr (.inl ⟨by omega, by omega⟩)
    · refine .inr ⟨_, st_30e z l1 ?_, t, u, 0, ⟨⟨ht, by omega, hu, zr⟩, .inl ⟨rfl, by omega⟩⟩, ?_, ?_, ?_, zF.trans (tk_F.i z 0 (.inl rfl))⟩
      · rw [ZB.2.1, z4]
        exact (nI_leI (by omega) (by omega)).mpr (by omega)
      · rw [ci_1, if_pos ⟨rfl, rfl⟩]; rfl
      · rw [ci_1, if_neg (by omega)]; exact z4
      · rw [ci_1, if_neg (by omega)]; exact z5
  unfold f_X6_step
  by_cases a : s.1 1 3 = 3
  · rw [if_pos a, if_pos (.inl a)]
    have := main 1
    rw [if_pos (by decide)] at this
    exact this
  · rw [if_neg a]
    by_cases b : s.1 1 3 = 4
    · rw [if_pos b, if_pos (.inr b)]
      have := main 1
      rw [if_pos (by decide)] at this
      exact this
    · rw [if_neg b, if_neg (fun h => h.elim a b)]
      have := main 0
      rw [if_neg (by decide)] at this
      exact this
