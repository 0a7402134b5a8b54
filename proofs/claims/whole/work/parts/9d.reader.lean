/-! The text's tokens: the reference's reader. -/
def rq (l : List Nat) (s s' : mo_S) : Prop := s'.2.2 = s.2.2 ∧ ∀ k, k ∉ l → s'.1 k = s.1 k
theorem rq.rfl' {l : List Nat} (s : mo_S) : rq l s s := ⟨rfl, fun _ _ => rfl⟩
theorem rq.trans {l : List Nat} {a b c : mo_S} (h : rq l a b) (h' : rq l b c) : rq l a c := ⟨h'.1.trans h.1, fun k hk => (h'.2 k hk).trans (h.2 k hk)⟩
theorem rq.mono {l l' : List Nat} {a b : mo_S} (h : rq l a b) (hl : ∀ k ∈ l, k ∈ l') : rq l' a b := ⟨h.1, fun k hk => h.2 k (fun m => hk (hl k m))⟩
theorem rq.i {l : List Nat} (s : mo_S) {k : Nat} (v : Int32) (h : k ∈ l) : rq l s (mo_i s k v) := ⟨rfl, fun k' h' => by rw [mo_i_1, if_neg (fun e : k' = k => h' (e ▸ h))]⟩
theorem rq.w {l : List Nat} (s : mo_S) (v : Int64) : rq l s (mo_w s v) := ⟨rfl, fun _ _ => rfl⟩
/-- the reference's bytes -/
def tk_Rb (x : Nat → Nat) (len : Nat) (s : mo_S) : Prop := len ≤ 800 ∧ s.1 10 = nI len ∧ ∀ k, k < len → x k < 256 ∧ s.2.2.1 7 k = nI (x k)
theorem tk_Rb.F {x : Nat → Nat} {len : Nat} {l : List Nat} {s s' : mo_S} (h : tk_Rb x len s) (f : rq l s s') (hl : 10 ∉ l) : tk_Rb x len s' := ⟨h.1, by rw [f.2 10 hl]; exact h.2.1, fun k hk => by rw [f.1]; exact h.2.2 k hk⟩
def tk_b (x : Nat → Nat) (len k : Nat) : Int32 := if k < len then nI (x k) else -1
theorem tk_byte {x : Nat → Nat} {len k : Nat} {s : mo_S} (R : tk_Rb x len s) (hk : k < 2000) : f_X9_byteAt s (nI k) = some (tk_b x len k) := by
  have hl := R.1
  unfold f_X9_byteAt tk_b
  rw [R.2.1]
  by_cases a : k < len
  · rw [if_neg (fun h => absurd ((nI_leI (by omega) (by omega)).mp h) (by omega)), if_pos a]
    simp only [nb_nI (show k < 800 by omega) (by decide), nI_clamp (show k < 2 ^ 31 by omega), (R.2.2 k a).2]
  · rw [if_pos ((nI_leI (by omega) (by omega)).mpr (by omega)), if_neg a]
theorem tk_in3 : ∀ b, b < 256 → (if nI b < 97 then (0 : Int32) else if 122 < nI b then 0 else 1) = if tk_k b = 3 then 1 else 0 := by decide +kernel
theorem tk_in4 : ∀ b, b < 256 → (if nI b < 48 then (0 : Int32) else if 57 < nI b then 0 else 1) = if tk_k b = 4 then 1 else 0 := by decide +kernel
theorem tk_in2 : ∀ b, b < 256 → ((nI b = 32 ∨ nI b = 10) ↔ tk_k b = 2) := by decide +kernel
theorem tk_in5 : ∀ b, b < 256 → (nI b = 59 ↔ tk_k b = 5) := by decide +kernel
theorem tk_inN : ∀ b, b < 256 → nI b ≠ -1 := by decide +kernel
theorem in_v (s : mo_S) (a b c : Int32) : f_X9_in s a b c = some (if a < b then 0 else if c < a then 0 else 1) := by
  unfold f_X9_in
  repeat' split
  all_goals rfl
theorem tk_let {x : Nat → Nat} {len k : Nat} {s s1 : mo_S} (R : tk_Rb x len s1) : f_X9_isLetter s (tk_b x len k) = some (if k < len ∧ tk_k (x k) = 3 then 1 else 0) := by
  unfold f_X9_isLetter tk_b
  rw [in_v]
  by_cases a : k < len
  · rw [if_pos a, tk_in3 _ (R.2.2 k a).1]
    by_cases b : tk_k (x k) = 3
    · rw [if_pos b, if_pos ⟨a, b⟩]; rfl
    · rw [if_neg b, if_neg (fun h => b h.2)]; rfl
  · rw [if_neg a, if_neg (show ¬ (k < len ∧ tk_k (x k) = 3) from fun h => a h.1)]; rfl
theorem tk_dig {x : Nat → Nat} {len k : Nat} {s s1 : mo_S} (R : tk_Rb x len s1) : f_X9_isDigit s (tk_b x len k) = some (if k < len ∧ tk_k (x k) = 4 then 1 else 0) := by
  unfold f_X9_isDigit tk_b
  rw [in_v]
  by_cases a : k < len
  · rw [if_pos a, tk_in4 _ (R.2.2 k a).1]
    by_cases b : tk_k (x k) = 4
    · rw [if_pos b, if_pos ⟨a, b⟩]; rfl
    · rw [if_neg b, if_neg (fun h => b h.2)]; rfl
  · rw [if_neg a, if_neg (show ¬ (k < len ∧ tk_k (x k) = 4) from fun h => a h.1)]; rfl
theorem tk_T.ne {x : Nat → Nat} {len p t u c : Nat} {L : Int32} (h : tk_T x len L p t u c) (ht : t < len) : tk_k (x t) ≠ 2 := by
  rcases h.2 with h | h
  · exact absurd h.2 (by omega)
  · exact h.1.2.2
theorem tk_T.at {x : Nat → Nat} {len p t u c : Nat} {L : Int32} (h : tk_T x len L p t u c) : tk_T x len L t t u c := ⟨⟨Nat.le_refl _, h.1.2.1, h.1.2.2.1, fun k h1 h2 => absurd h1 (by omega)⟩, h.2⟩
theorem fails_v (s : mo_S) (a b : Int32) : f_X9_fails s a b = some (0, mo_i (mo_i s 14 a) 15 b) := rfl
/-- peek() -/
theorem rp_peek {x : Nat → Nat} {len p t u c : Nat} {L : Int32} {s : mo_S} (R : tk_Rb x len s) (h9 : s.1 9 = nI p) (T : tk_T x len L p t u c) :
    ∃ s', f_X9_peek s = some (tk_b x len t, s') ∧ s'.1 9 = nI t ∧ s'.1 12 = nI t ∧ s'.2.1 = s.2.1 ∧ rq [9, 12] s s' := by
  have hl := R.1
  obtain ⟨⟨T1, T2, T3, T4⟩, T5⟩ := id T
  obtain ⟨⟨r, s'⟩, e1, e2⟩ : ∃ e : Int32 × mo_S, pm_loop pm_fu lb_X9_peek_0 s = some e ∧ (e.1 = tk_b x len t ∧ e.2.1 9 = nI t ∧ e.2.1 12 = nI t ∧ e.2.2.1 = s.2.1 ∧ rq [9, 12] s e.2) := by
    refine lp_wh (fun m y => ∃ q, m + q = t ∧ p ≤ q ∧ y.1 9 = nI q ∧ y.2.1 = s.2.1 ∧ rq [9, 12] s y) ?_ pm_fu (t - p) s (by show t - p < 1000000; omega) ⟨p, by omega, by omega, h9, rfl, rq.rfl' s⟩
    rintro m y ⟨q, hm, hq, y9, yw, yF⟩
    have YR := R.F yF (by decide)
    by_cases a : q < t
    · have kb := (tk_in2 _ (YR.2.2 q (by omega)).1).mpr (T4 q hq a)
      refine .inl ⟨mo_i y 9 (nI (q + 1)), m - 1, ?_, by omega, q + 1, by omega, by omega, by rw [mo_i_1, if_pos rfl], yw, yF.trans (rq.i y _ (by decide))⟩
      unfold lb_X9_peek_0
      simp only [y9, tk_byte YR (show q < 2000 by omega), nI_1]
      unfold tk_b
      rw [if_pos (show q < len by omega)]
      rcases kb with kb | kb
      · rw [if_pos kb]
      · by_cases z : nI (x q) = 32
        · rw [if_pos z]
        · rw [if_neg z, if_pos kb]
    · have qt : q = t := by omega
      subst qt
      refine .inr ⟨(tk_b x len q, mo_i y 12 (nI q)), ?_, rfl, by rw [mo_i_1, if_neg (by decide)]; exact y9, by rw [mo_i_1, if_pos rfl], yw, yF.trans (rq.i y _ (by decide))⟩
      have nk : ¬ (tk_b x len q = 32 ∨ tk_b x len q = 10) := by
        unfold tk_b
        by_cases b : q < len
        · rw [if_pos b, tk_in2 _ (YR.2.2 q b).1]
          exact T.ne b
        · rw [if_neg b]; decide
      unfold lb_X9_peek_0
      have YR' := YR.F (rq.i (l := [12]) (k := 12) y (nI q) (by decide)) (by decide)
      have y9' : (mo_i y 12 (nI q)).1 9 = nI q := by rw [mo_i_1, if_neg (by decide)]; exact y9
      simp only [y9, y9', tk_byte YR (show q < 2000 by omega), tk_byte YR' (show q < 2000 by omega)]
      rw [if_neg (fun h => nk (.inl h)), if_neg (fun h => nk (.inr h))]
  refine ⟨s', ?_, e2.2.1, e2.2.2.1, e2.2.2.2.1, e2.2.2.2.2⟩
  rw [show tk_b x len t = r from e2.1.symm]
  exact e1
/-- the letters' code -/
def tk_w (x : Nat → Nat) (t : Nat) : Nat → Nat
  | 0 => 0
  | l + 1 => if l < 7 then 32 * tk_w x t l + (x (t + l) - 96) else 0
theorem tk_lNa (a b : Nat) : lN a + lN b = lN (a + b) := (Int64.ofNat_add a b).symm
theorem tk_lNm (a b : Nat) : lN a * lN b = lN (a * b) := (Int64.ofNat_mul a b).symm
theorem tk_lNs {a b : Nat} (h : b ≤ a) : lN a - lN b = lN (a - b) := by
  have : lN a = lN (a - b) + lN b := by rw [tk_lNa, Nat.sub_add_cancel h]
  rw [this, Int64.add_sub_cancel]
theorem tk_k3 {b : Nat} (h : tk_k b = 3) : 97 ≤ b ∧ b ≤ 122 := by
  unfold tk_k at h
  repeat' split at h
  all_goals first | omega | assumption
theorem tk_k4 {b : Nat} (h : tk_k b = 4) : 48 ≤ b ∧ b ≤ 57 := by
  unfold tk_k at h
  repeat' split at h
  all_goals first | omega | assumption
/-- seesWord() -/
theorem rp_sees {x : Nat → Nat} {len p t u c : Nat} {s : mo_S} (R : tk_Rb x len s) (h9 : s.1 9 = nI p) (T : tk_T x len (s.1 11) p t u c) :
    ∃ s', rq [9, 12, 14, 15] s s' ∧ s'.1 9 = nI t ∧ s'.1 12 = nI t ∧
      ((c = 3 ∧ f_X9_seesWord s = some (1, s') ∧ s'.2.1 = lN (tk_w x t (u - t)) ∧ s'.1 14 = s.1 14 ∧ s'.1 15 = s.1 15) ∨
       (c ≠ 3 ∧ f_X9_seesWord s = some (0, s') ∧ s'.1 14 = 1 ∧ s'.1 15 = nI t)) := by
  have hl := R.1
  obtain ⟨s1, e1, q9, q12, qw, qF⟩ := rp_peek R h9 T
  have R1 := R.F qF (by decide)
  have q11 : s1.1 11 = s.1 11 := qF.2 11 (by decide)
  have bad : ∀ b, (b ∨ ¬ b) → c ≠ 3 → (f_X9_seesWord s = some (0, mo_i (mo_i s1 14 1) 15 (nI t))) → ∃ s', rq [9, 12, 14, 15] s s' ∧ s'.1 9 = nI t ∧ s'.1 12 = nI t ∧
      ((c = 3 ∧ f_X9_seesWord s = some (1, s') ∧ s'.2.1 = lN (tk_w x t (u - t)) ∧ s'.1 14 = s.1 14 ∧ s'.1 15 = s.1 15) ∨
       (c ≠ 3 ∧ f_X9_seesWord s = some (0, s') ∧ s'.1 14 = 1 ∧ s'.1 15 = nI t)) := by
    intro _ _ hc he
    refine ⟨_, (qF.mono (by decide)).trans ((rq.i s1 1 (by decide)).trans (rq.i _ (nI t) (by decide))), ?_, ?_, .inr ⟨hc, he, ?_, ?_⟩⟩
    · rw [mo_i_1, if_neg (by decide), mo_i_1, if_neg (by decide)]; exact q9
    · rw [mo_i_1, if_neg (by decide), mo_i_1, if_neg (by decide)]; exact q12
    · rw [mo_i_1, if_neg (by decide), mo_i_1, if_pos rfl]
    · rw [mo_i_1, if_pos rfl]
  have e0 : f_X9_isLetter s1 (tk_b x len t) = some (if t < len ∧ tk_k (x t) = 3 then 1 else 0) := tk_let R1
  by_cases a : t < len ∧ tk_k (x t) = 3
  · rw [if_pos a] at e0
    obtain ⟨a1, a2⟩ := a
    by_cases b : s.1 11 = nI t
    · refine bad True (.inl trivial) ?_ ?_
      · intro hc
        rcases T.2 with h | ⟨_, h | h | h⟩
        · omega
        · omega
        · omega
        · rcases h.2.2.2 with h' | h'
          · omega
          · exact h'.2.1 b
      · unfold f_X9_seesWord
        simp only [e1, e0, i32_10, if_false, q12, q11, b, if_true, fails_v]
        rfl
    · obtain ⟨hc, hu, hr, hn⟩ : c = 3 ∧ t < u ∧ (∀ k, t ≤ k → k < u → tk_k (x k) = 3) ∧ (u < len → tk_k (x u) ≠ 3) := by
        rcases T.2 with h | ⟨h0, h | h | h⟩
        · omega
        · omega
        · omega
        · rw [a2] at h
          refine ⟨?_, h0.2.1, h.2.1, h.2.2.1⟩
          rcases h.2.2.2 with h' | h'
          · rcases h'.2 with h'' | h''
            · exact absurd h'' b
            · omega
          · exact h'.1
      have hul : u ≤ len := T.1.2.2.1
      obtain ⟨⟨r, s'⟩, l1, l2⟩ : ∃ e : Int32 × mo_S, pm_loop pm_fu lb_X9_seesWord_38 (mo_w s1 0, 0) = some e ∧ (e.1 = 1 ∧ e.2.2.1 = lN (tk_w x t (u - t)) ∧ e.2.1 = s1.1 ∧ e.2.2.2 = s1.2.2) := by
        refine lp_for (u - t) (fun i y => y.2 = nI i ∧ y.1.2.1 = lN (tk_w x t i) ∧ y.1.1 = s1.1 ∧ y.1.2.2 = s1.2.2) (by show u - t < 1000000; omega) ?_ ?_ ⟨rfl, rfl, rfl, rfl⟩
        · rintro i ⟨y, l⟩ hi ⟨y1, y2, y3, y4⟩
          have YR : tk_Rb x len y := ⟨hl, by rw [show y.1 = s1.1 from y3]; exact R1.2.1, fun k hk => by rw [show y.2.2 = s1.2.2 from y4]; exact R1.2.2 k hk⟩
          have y12 : y.1 12 = nI t := by rw [show y.1 = s1.1 from y3]; exact q12
          have hk := hr (t + i) (by omega) (by omega)
          have lt := tk_let (s := y) (k := t + i) YR
          rw [if_pos ⟨by omega, hk⟩] at lt
          have bb := tk_byte YR (show t + i < 2000 by omega)
          have y1' : l = nI i := y1
          subst y1'
          by_cases c7 : i < 7
          · refine ⟨(mo_w y ((32 * y.2.1 + Int32.toInt64 (tk_b x len (t + i))) - 96), nI i + 1), ?_, nI_1 i, ?_, y3, y4⟩
            · unfold lb_X9_seesWord_38
              simp only [y12, nI_add, bb, lt, i32_10, if_false]
              rw [if_neg (show ¬ 7 ≤ nI i from fun h => absurd ((nI_leI (a := 7) (by omega) (by omega)).mp h) (by omega))]
            · show (32 * y.2.1 + Int32.toInt64 (tk_b x len (t + i))) - 96 = _
              have k3 := tk_k3 hk
              rw [show y.2.1 = lN (tk_w x t i) from y2]
              unfold tk_b
              rw [if_pos (show t + i < len by omega), nI_l (by omega), show (32 : Int64) = lN 32 from rfl, show (96 : Int64) = lN 96 from rfl, tk_lNm, tk_lNa, tk_lNs (by omega)]
              show _ = lN (if i < 7 then 32 * tk_w x t i + (x (t + i) - 96) else 0)
              rw [if_pos c7, Nat.add_sub_assoc (by omega)]
          · refine ⟨(mo_w y 0, nI i + 1), ?_, nI_1 i, ?_, y3, y4⟩
            · unfold lb_X9_seesWord_38
              simp only [y12, nI_add, bb, lt, i32_10, if_false]
              rw [if_pos (show 7 ≤ nI i from (nI_leI (a := 7) (by omega) (by omega)).mpr (by omega))]
            · show (0 : Int64) = lN (if i < 7 then 32 * tk_w x t i + (x (t + i) - 96) else 0)
              rw [if_neg c7]
              rfl
        · rintro ⟨y, l⟩ ⟨y1, y2, y3, y4⟩
          have YR : tk_Rb x len y := ⟨hl, by rw [show y.1 = s1.1 from y3]; exact R1.2.1, fun k hk => by rw [show y.2.2 = s1.2.2 from y4]; exact R1.2.2 k hk⟩
          have y12 : y.1 12 = nI t := by rw [show y.1 = s1.1 from y3]; exact q12
          have y1' : l = nI (u - t) := y1
          subst y1'
          have lt := tk_let (s := y) (k := u) YR
          rw [if_neg (fun h => hn h.1 h.2)] at lt
          have bb := tk_byte YR (show u < 2000 by omega)
          refine ⟨(1, y), ?_, rfl, y2, y3, y4⟩
          unfold lb_X9_seesWord_38
          simp only [y12, nI_add, show t + (u - t) = u by omega, bb, lt, if_true]
      have l3 : s'.1 = s1.1 := l2.2.2.1
      refine ⟨s', ⟨?_, fun k hk => ?_⟩, ?_, ?_, .inl ⟨hc, ?_, l2.2.1, ?_, ?_⟩⟩
      · rw [show s'.2.2 = s1.2.2 from l2.2.2.2]; exact qF.1
      · rw [l3]; exact (qF.mono (l' := [9, 12, 14, 15]) (by decide)).2 k hk
      · rw [l3]; exact q9
      · rw [l3]; exact q12
      · unfold f_X9_seesWord
        simp only [e1, e0, i32_10, if_false, q12, q11]
        rw [if_neg (fun h => b h.symm), l1, show r = 1 from l2.1]
      · rw [l3]; exact qF.2 14 (by decide)
      · rw [l3]; exact qF.2 15 (by decide)
  · rw [if_neg a] at e0
    refine bad True (.inl trivial) ?_ ?_
    · intro hc
      rcases T.2 with h | ⟨h0, h | h | h⟩
      · omega
      · omega
      · omega
      · rcases h.2.2.2 with h' | h'
        · omega
        · exact a ⟨h0.1, by omega⟩
    · unfold f_X9_seesWord
      simp only [e1, e0, if_true, q12, fails_v]
      rfl
/-- passWord() -/
theorem rp_pass {x : Nat → Nat} {len t u : Nat} {s : mo_S} (R : tk_Rb x len s) (h9 : s.1 9 = nI t) (htu : t ≤ u) (hu : u ≤ len) (hr : ∀ k, t ≤ k → k < u → tk_k (x k) = 3) (hn : u < len → tk_k (x u) ≠ 3) :
    ∃ s', f_X9_passWord s = some s' ∧ rq [9, 11] s s' ∧ s'.1 9 = nI u ∧ s'.1 11 = nI u := by
  have hl := R.1
  refine lp_wh (fun m y => ∃ q, m + q = u ∧ t ≤ q ∧ y.1 9 = nI q ∧ rq [9, 11] s y) ?_ pm_fu (u - t) s (by show u - t < 1000000; omega) ⟨t, by omega, by omega, h9, rq.rfl' s⟩
  rintro m y ⟨q, hm, hq, y9, yF⟩
  have YR := R.F yF (by decide)
  have lt := tk_let (s := y) (k := q) YR
  have bb := tk_byte YR (show q < 2000 by omega)
  by_cases a : q < u
  · rw [if_pos ⟨by omega, hr q hq a⟩] at lt
    refine .inl ⟨mo_i y 9 (nI (q + 1)), m - 1, ?_, by omega, q + 1, by omega, by omega, by rw [mo_i_1, if_pos rfl], yF.trans (rq.i y _ (by decide))⟩
    unfold lb_X9_passWord_0
    simp only [y9, bb, lt, i32_10, if_false, nI_1]
  · have qu : q = u := by omega
    subst qu
    rw [if_neg (fun h => hn h.1 h.2)] at lt
    refine .inr ⟨mo_i y 11 (nI q), ?_, yF.trans (rq.i y _ (by decide)), by rw [mo_i_1, if_neg (by decide)]; exact y9, by rw [mo_i_1, if_pos rfl]⟩
    unfold lb_X9_passWord_0
    simp only [y9, bb, lt, if_true]
/-- readSemicolon() -/
theorem rp_semi {x : Nat → Nat} {len p t u c : Nat} {L : Int32} {s : mo_S} (R : tk_Rb x len s) (h9 : s.1 9 = nI p) (T : tk_T x len L p t u c) :
    ∃ s', rq [9, 11, 12, 14, 15] s s' ∧
      ((c = 5 ∧ f_X9_readSemicolon s = some (1, s') ∧ s'.1 9 = nI u ∧ s'.1 11 = -1 ∧ s'.1 14 = s.1 14 ∧ s'.1 15 = s.1 15) ∨
       (c ≠ 5 ∧ f_X9_readSemicolon s = some (0, s') ∧ s'.1 14 = 1 ∧ s'.1 15 = nI t)) := by
  obtain ⟨s1, e1, q9, q12, qw, qF⟩ := rp_peek R h9 T
  have c5 : tk_b x len t = 59 ↔ c = 5 := by
    unfold tk_b
    rcases T.2 with h | ⟨h0, h | h | h⟩
    · rw [if_neg (by omega)]
      exact ⟨(fun h' => absurd h' (by decide)), fun h' => by omega⟩
    · rw [if_pos h0.1, tk_in5 _ (R.2.2 t h0.1).1]
      exact ⟨fun _ => h.1, fun _ => h.2.1⟩
    · rw [if_pos h0.1, tk_in5 _ (R.2.2 t h0.1).1]
      omega
    · rw [if_pos h0.1, tk_in5 _ (R.2.2 t h0.1).1]
      rcases h.2.2.2 with h' | h' <;> omega
  by_cases a : c = 5
  · have hu : u = t + 1 := by
      rcases T.2 with h | ⟨h0, h | h | h⟩
      · omega
      · exact h.2.2
      · omega
      · rcases h.2.2.2 with h' | h' <;> omega
    refine ⟨mo_i (mo_i s1 9 (nI u)) 11 (-1), (qF.mono (by decide)).trans ((rq.i s1 _ (by decide)).trans (rq.i _ _ (by decide))), .inl ⟨a, ?_, ?_, ?_, ?_, ?_⟩⟩
    · unfold f_X9_readSemicolon fc_X9_readSemicolon_c1
      simp only [e1, if_pos (c5.mpr a), q12, nI_1, ← hu]
    · rw [mo_i_1, if_neg (by decide), mo_i_1, if_pos rfl]
    · rw [mo_i_1, if_pos rfl]
    · rw [mo_i_1, if_neg (by decide), mo_i_1, if_neg (by decide)]; exact qF.2 14 (by decide)
    · rw [mo_i_1, if_neg (by decide), mo_i_1, if_neg (by decide)]; exact qF.2 15 (by decide)
  · refine ⟨mo_i (mo_i s1 14 1) 15 (nI t), (qF.mono (by decide)).trans ((rq.i s1 _ (by decide)).trans (rq.i _ _ (by decide))), .inr ⟨a, ?_, ?_, ?_⟩⟩
    · unfold f_X9_readSemicolon
      simp only [e1, if_neg (fun h => a (c5.mp h)), q12, fails_v]
      rfl
    · rw [mo_i_1, if_neg (by decide), mo_i_1, if_pos rfl]
    · rw [mo_i_1, if_pos rfl]
