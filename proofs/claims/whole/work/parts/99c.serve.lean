/-! A disk chooses and serves, in both programs. -/
theorem ab_abs_f : ∀ a b : Fin 64, (if 0 ≤ nI a.val - nI b.val then nI a.val - nI b.val else 0 - (nI a.val - nI b.val)) = nI (if b.val ≤ a.val then a.val - b.val else b.val - a.val) := by decide +kernel
theorem ab_tk_n {p : Nat → Int32} {D S T a b : Nat} (hp : ab_pl p D S T) (ha : a < 64) (hb : b < 64) : ∃ e, 1 ≤ e ∧ e ≤ 500 ∧ ab_tk p (nI a) (nI b) = nI e := by
  obtain ⟨b0, h1, h2, h3⟩ := hp.2.2.2.2.2.2.2.2.2.1
  obtain ⟨k, k1, k2⟩ := hp.2.2.2.2.2.2.2.2.2.2.1
  have e := ab_abs_f ⟨a, ha⟩ ⟨b, hb⟩
  simp only [] at e
  unfold ab_tk
  rw [e, h3, k2]
  generalize hj : (if b ≤ a then a - b else b - a) = j
  have hj' : j < 64 := by
    rw [← hj]
    split <;> omega
  have hm : j * k ≤ 63 * 99 := Nat.mul_le_mul (by omega) k1
  rw [nI_mul, show nI (j * k) / 16 = nI (j * k / 16) from nI_div (b := 16) (by omega) (by decide), nI_add]
  exact ⟨b0 + j * k / 16, by omega, by omega, rfl⟩
theorem ab_cr_1 (A : ab_S) (q : Nat) (st : Int64) : (ab_cr A q st).1 = A.1 := rfl
theorem ab_cr_2 (A : ab_S) (q : Nat) (st : Int64) (q' : Nat) : (ab_cr A q st).2.1 q' = if q' = q then (A.2.1 q).map (ab_sub st) else A.2.1 q' := rfl
theorem ab_cr_4 (A : ab_S) (q : Nat) (st : Int64) : (ab_cr A q st).2.2.2 = A.2.2.2 := rfl
theorem ab_cr_mem {A : ab_S} {q q' : Nat} {st : Int64} {x : ab_O} (h : x ∈ (ab_cr A q st).2.1 q') : ∃ y, y ∈ A.2.1 q' ∧ y.1 = x.1 ∧ (x = y ∨ x = ab_sub st y) := by
  rw [ab_cr_2] at h
  by_cases z : q' = q
  · rw [if_pos z] at h
    obtain ⟨y, hy, hxy⟩ := List.mem_map.mp h
    exact ⟨y, z ▸ hy, by rw [← hxy]; rfl, .inr hxy.symm⟩
  · rw [if_neg z] at h
    exact ⟨x, h, rfl, .inl rfl⟩
theorem ab_live_cr {A : ab_S} {q : Nat} {st : Int64} (y : Nat) : ab_live (ab_cr A q st) y ↔ ab_live A y := by
  constructor
  · rintro (⟨q', hq', x, hx, hy⟩ | h)
    · obtain ⟨z, hz, hz', _⟩ := ab_cr_mem hx
      exact .inl ⟨q', hq', z, hz, hz'.trans hy⟩
    · exact .inr h
  · rintro (⟨q', hq', x, hx, hy⟩ | h)
    · by_cases z : q' = q
      · refine .inl ⟨q', hq', ab_sub st x, ?_, hy⟩
        rw [ab_cr_2, if_pos z]
        exact List.mem_map.mpr ⟨x, z ▸ hx, rfl⟩
      · refine .inl ⟨q', hq', x, ?_, hy⟩
        rw [ab_cr_2, if_neg z]
        exact hx
    · exact .inr h
theorem ab_U_cr {A : ab_S} {q : Nat} {st : Int64} (H : ab_U A) : ab_U (ab_cr A q st) := by
  obtain ⟨U1, U2, U3, U4, U5, U6, U7⟩ := H
  refine ⟨?_, ?_, ?_, ?_, ?_, U6, U7⟩
  · intro q1 q2 a b h1 h2 ha hb e
    obtain ⟨a', x1, x2, _⟩ := ab_cr_mem ha
    obtain ⟨b', y1, y2, _⟩ := ab_cr_mem hb
    exact U1 q1 q2 a' b' h1 h2 x1 y1 (by rw [x2, y2]; exact e)
  · intro q' hq'
    rw [ab_cr_2]
    by_cases z : q' = q
    · rw [if_pos z, List.map_map]
      exact z ▸ U2 q' hq'
    · rw [if_neg z]
      exact U2 q' hq'
  · intro q' a hq' ha
    obtain ⟨a', x1, x2, _⟩ := ab_cr_mem ha
    rw [← x2]
    exact U3 q' a' hq' x1
  · intro q' hq'
    rw [ab_cr_2]
    by_cases z : q' = q
    · rw [if_pos z, List.length_map]
      exact z ▸ U4 q' hq'
    · rw [if_neg z]
      exact U4 q' hq'
  · intro d c q' a hd hq' hc ha
    obtain ⟨a', x1, x2, _⟩ := ab_cr_mem ha
    rw [← x2]
    exact U5 d c q' a' hd hq' hc x1
theorem ab_B_cr {D S T m n N q : Nat} {st : Int64} {A : ab_S} {L : Nat → Bool} (hq : q < 42) (h0 : 0 ≤ st.toInt) (h1 : st.toInt ≤ 1000000) (hN : N + 1 ≤ 1000000000000) (H : ab_B D S T m n N A L) : ab_B D S T m n (N + 1) (ab_cr A q st) L := by
  obtain ⟨B1, B2, B3, B4, B5, B6, B7, B8, B9, B10⟩ := H
  refine ⟨ab_U_cr B1, fun c => (B2 c).trans (ab_live_cr c).symm, ?_, B4, B5, B6, B7, B8, ?_, B10.1, B10.2.1, B10.2.2.1, hN⟩
  · intro q' a hq' ha
    obtain ⟨a', x1, x2, _⟩ := ab_cr_mem ha
    have := B3 q' a' hq' x1
    rw [← x2]
    exact this
  · intro q' hq'
    have T := B9 q' hq'
    refine ⟨fun a ha => ?_, fun w hw y hy => ?_⟩
    · obtain ⟨a', x1, x2, x3⟩ := ab_cr_mem ha
      have t := T.1 a' x1
      rcases x3 with rfl | rfl
      · exact ⟨fun y hy => (t.1 y hy).le (Nat.le_succ N), t.2.1.le (Nat.le_succ N), t.2.2.le (Nat.le_succ N)⟩
      · refine ⟨fun y hy => ?_, t.2.1.le (Nat.le_succ N), t.2.2.le (Nat.le_succ N)⟩
        have hy' : a'.2.2.1.map (fun y => y - st) = some y := hy
        cases hr : a'.2.2.1 with
        | none =>
          rw [hr] at hy'
          cases hy'
        | some z =>
          rw [hr] at hy'
          rw [← Option.some.inj hy']
          exact (ab_bd_add B10.2.2.2 (t.1 z hr) h0 h1).2
    · by_cases z : q' = q ∧ w = 0
      · have hy' : (A.2.2.1 q 0).map (fun y => y - st) = some y := by
          have : (ab_cr A q st).2.2.1 q' w = (A.2.2.1 q 0).map (fun y => y - st) := if_pos z
          rw [← this]
          exact hy
        cases hr : A.2.2.1 q 0 with
        | none =>
          rw [hr] at hy'
          cases hy'
        | some x =>
          rw [hr] at hy'
          rw [← Option.some.inj hy']
          exact (ab_bd_add B10.2.2.2 ((B9 q hq).2 0 (by decide) x hr) h0 h1).2
      · have : (ab_cr A q st).2.2.1 q' w = A.2.2.1 q' w := if_neg z
        rw [this] at hy
        exact (T.2 w hw y hy).le (Nat.le_succ N)
theorem ab_B_sv {D S T m n N d t way : Nat} {p : Nat → Int32} {A : ab_S} {L : Nat → Bool} {a : ab_O} {l : List ab_O} (hp : ab_pl p D S T) (hd : d ≤ D) (ht : t < T) (hl : A.2.1 (6 * d + t) = a :: l) (hi : A.2.2.2 d = none) (H : ab_B D S T m n N A L) : ab_B D S T m n N (ab_sv p (ab_q A (6 * d + t) l) d t way a.1 (ab_stripe A a.1)) L ∧ ∃ e, n < e ∧ e ≤ 101000 ∧ (ab_sv p (ab_q A (6 * d + t) l) d t way a.1 (ab_stripe A a.1)).1 1 d 1 = nI e := by
  have HB := H
  obtain ⟨B1, B2, B3, B4, B5, B6, B7, B8, B9, B10⟩ := H
  have hD := hp.2.2.2.2.1
  have hT := hp.2.2.2.2.2.2.2.2.1
  have hS := hp.2.2.2.2.2.2.1
  have hq : 6 * d + t < 42 := by omega
  have ma : a ∈ A.2.1 (6 * d + t) := by rw [hl]; exact List.mem_cons_self
  obtain ⟨V1, V2, V3⟩ := ab_U_q hq hl B1
  have la : ab_live A a.1 := .inl ⟨_, hq, a, ma, rfl⟩
  have La : L a.1 = true := (B2 a.1).mpr la
  have o : ∀ g i w, ¬ (g = 1 ∧ i = d) → ¬ (g = 6 ∧ i = t) → (ab_sv p (ab_q A (6 * d + t) l) d t way a.1 (ab_stripe A a.1)).1 g i w = A.1 g i w := by
    intro g i w h1 h2
    rw [ab_sv_1, if_neg (by omega), if_neg (by omega), if_neg (by omega), if_neg (by omega)]
    rfl
  obtain ⟨ks, hks, est⟩ : ∃ ks, ks < 64 ∧ ab_stripe A a.1 = nI ks := by
    have h5 := B5 a.1 La
    unfold ab_stripe
    by_cases u : a.1 < 448
    · rw [if_pos u]
      exact ⟨a.1 / 7, by omega, rfl⟩
    · rw [if_neg u]
      obtain ⟨k, k1, k2⟩ := (B7 (a.1 / 7 - 64) (by omega)).2.1
      exact ⟨k, by omega, k2⟩
  obtain ⟨kp, hkp, ekp⟩ := (B8 d (by omega)).2.2
  obtain ⟨tk, t1, t2, t3⟩ := ab_tk_n hp hkp hks
  have e1 : (ab_sv p (ab_q A (6 * d + t) l) d t way a.1 (ab_stripe A a.1)).1 1 d 1 = nI (n + tk) := by
    rw [ab_sv_1, if_neg (by omega), if_neg (by omega), if_neg (by omega), if_pos ⟨rfl, rfl, rfl⟩]
    show A.1 0 0 0 + ab_tk p (A.1 1 d 2) (ab_stripe A a.1) = _
    rw [B6.2.2.2, ekp, est, t3, nI_add]
  have e2 : (ab_sv p (ab_q A (6 * d + t) l) d t way a.1 (ab_stripe A a.1)).1 1 d 2 = nI ks := by
    rw [ab_sv_1, if_neg (by omega), if_neg (by omega), if_pos ⟨rfl, rfl, rfl⟩, est]
  refine ⟨⟨ab_U_sv (B1.2.2.1 _ a hq ma) (fun q x hq' hx => (V2 q x hq' hx).2) V3 V1, ?_, ?_, ?_, B5, ?_, ?_, ?_, ?_, B10⟩, n + tk, by omega, by have := B6.2.2.1; omega, e1⟩
  · intro c
    rw [B2]
    constructor
    · rintro (⟨q, hq', x, hx, hy⟩ | ⟨d', hd', h⟩)
      · by_cases z : q = 6 * d + t
        · rw [z, hl] at hx
          rcases List.mem_cons.mp hx with h | h
          · refine .inr ⟨d, by omega, ?_⟩
            rw [ab_sv_4, if_pos rfl, ← hy, h]
          · refine .inl ⟨q, hq', x, ?_, hy⟩
            rw [ab_sv_2, ab_q_2, if_pos z]
            exact h
        · refine .inl ⟨q, hq', x, ?_, hy⟩
          rw [ab_sv_2, ab_q_2, if_neg z]
          exact hx
      · refine .inr ⟨d', hd', ?_⟩
        rw [ab_sv_4]
        by_cases z : d' = d
        · rw [z, hi] at h
          cases h
        · rw [if_neg z]
          exact h
    · rintro (⟨q, hq', x, hx, hy⟩ | ⟨d', hd', h⟩)
      · exact .inl ⟨q, hq', x, (V2 q x hq' hx).1, hy⟩
      · rw [ab_sv_4] at h
        by_cases z : d' = d
        · rw [if_pos z] at h
          rw [← Option.some.inj h]
          exact la
        · rw [if_neg z] at h
          exact .inr ⟨d', hd', h⟩
  · intro q x hq' hx
    have := B3 q x hq' (V2 q x hq' hx).1
    unfold ab_ten at this ⊢
    rw [o _ _ _ (by omega) (by omega)]
    exact this
  · intro d' c hd' h
    rw [ab_sv_4] at h
    by_cases z : d' = d
    · rw [if_pos z] at h
      rw [← Option.some.inj h]
      have := B3 _ a hq ma
      omega
    · rw [if_neg z] at h
      exact B4 d' c hd' h
  · rw [o _ _ _ (by omega) (by omega), o _ _ _ (by omega) (by omega)]
    exact B6
  · intro r hr
    rw [o _ _ _ (by omega) (by omega), o _ _ _ (by omega) (by omega), o _ _ _ (by omega) (by omega), o _ _ _ (by omega) (by omega)]
    exact B7 r hr
  · intro d' hd'
    by_cases z : d' = d
    · rw [z, ab_sv_4, if_pos rfl, e1, e2]
      exact ⟨(fun h => by cases h), fun c _ => ⟨n + tk, rfl, by omega, by have := B6.2.2.1; omega⟩, ks, hks, rfl⟩
    · rw [ab_sv_4, if_neg z, o _ _ _ (by omega) (by omega), o _ _ _ (by omega) (by omega)]
      exact B8 d' hd'
  · intro q hq'
    exact ⟨fun x hx => (B9 q hq').1 x (V2 q x hq' hx).1, (B9 q hq').2⟩
/-- what choosing leaves alone -/
def ab_cf (A A' : ab_S) (d : Nat) : Prop := (∀ g i w, ¬ (g = 1 ∧ i = d ∧ w ≠ 7) → g ≠ 6 → A'.1 g i w = A.1 g i w) ∧ ∀ d', d' ≠ d → A'.2.2.2 d' = A.2.2.2 d'
theorem ab_V_cf {D S m d : Nat} {f : Option Nat} {A A' : ab_S} {L : Nat → Bool} (h : ab_cf A A' d) (V : ab_V D S m f A L) : ab_V D S m f A' L := by
  obtain ⟨VK, Vr, Vs, Vn, Vh, Vo⟩ := V
  obtain ⟨q1, q2⟩ := h
  refine ⟨?_, Vr, ?_, ?_, fun d hd => by rw [q1 _ _ _ (by omega) (by omega)]; exact Vh d hd, Vo⟩
  · cases f with
    | none => exact ⟨by rw [q1 _ _ _ (by omega) (by omega)]; exact VK.1, fun k hk => by rw [q1 _ _ _ (by omega) (by omega)]; exact VK.2.1 k hk, fun d k h1 h2 => by rw [q1 _ _ _ (by omega) (by omega)]; exact VK.2.2.1 d k h1 h2, VK.2.2.2⟩
    | some f => exact ⟨by rw [q1 _ _ _ (by omega) (by omega)]; exact VK.1, VK.2.1, fun d k h1 h2 h3 => VK.2.2.1 d k h1 h2 (by rw [← q1 _ _ _ (by omega) (by omega)]; exact h3), fun k hk => ab_Ks_tr (q1 _ _ _ (by omega) (by omega)) (fun d => q1 _ _ _ (by omega) (by omega)) (fun d hd => rfl) (VK.2.2.2 k hk)⟩
  · rw [(ab_cnts (A := A) (A' := A') (fun i w => q1 _ _ _ (by omega) (by omega)) (fun i w => q1 _ _ _ (by omega) (by omega)) S).1]
    exact Vs
  · intro hf r hr h6
    rw [q1 _ _ _ (by omega) (by omega)] at h6
    exact Vn hf r hr h6
theorem ab_srv_cf {p : Nat → Int32} {A : ab_S} {d t way : Nat} {a : ab_O} {l : List ab_O} : ab_cf A (ab_srv p A d t way a l) d ∧ (ab_srv p A d t way a l).2.2.2 d = some a.1 ∧ (ab_srv p A d t way a l).1 = (ab_sv p (ab_q A (6 * d + t) l) d t way a.1 (ab_stripe A a.1)).1 := by
  have e1 : (ab_srv p A d t way a l).1 = (ab_sv p (ab_q A (6 * d + t) l) d t way a.1 (ab_stripe A a.1)).1 := by
    unfold ab_srv
    split <;> rfl
  have e2 : (ab_srv p A d t way a l).2.2.2 = (ab_sv p (ab_q A (6 * d + t) l) d t way a.1 (ab_stripe A a.1)).2.2.2 := by
    unfold ab_srv
    split <;> rfl
  refine ⟨⟨fun g i w h1 h2 => ?_, fun d' hd' => ?_⟩, ?_, e1⟩
  · rw [e1, ab_sv_1, if_neg (by omega), if_neg (by omega), if_neg (by omega), if_neg (by omega)]
    rfl
  · rw [e2, ab_sv_4, if_neg hd']
    rfl
  · rw [e2, ab_sv_4, if_pos rfl]
theorem ab_B_srv {D S T m n N d t way : Nat} {p : Nat → Int32} {A : ab_S} {L : Nat → Bool} {a : ab_O} {l : List ab_O} (hp : ab_pl p D S T) (hd : d ≤ D) (ht : t < T) (hl : A.2.1 (6 * d + t) = a :: l) (hi : A.2.2.2 d = none) (hN : N + 1 ≤ 1000000000000) (H : ab_B D S T m n N A L) : ab_B D S T m n (N + 1) (ab_srv p A d t way a l) L := by
  have hD := hp.2.2.2.2.1
  have hT := hp.2.2.2.2.2.2.2.2.1
  obtain ⟨b, _⟩ := ab_B_sv (way := way) hp hd ht hl hi H
  unfold ab_srv
  by_cases u : way = 1 ∨ p (8 + 3 * t) ≤ 0
  · rw [if_pos u]
    exact b.up (Nat.le_succ N) hN
  · rw [if_neg u]
    have st := ab_st (sh := p (8 + 3 * t)) (fun h => u (.inr h))
    exact ab_B_cr (by omega) st.1 st.2 hN b
