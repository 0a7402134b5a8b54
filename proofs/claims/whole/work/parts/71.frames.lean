/-! Frames of the model's parts; serving, the program's side. -/
theorem nI_div {a b : Nat} (ha : a < 2 ^ 31) (hb : b < 2 ^ 31) : nI a / nI b = nI (a / b) := by
  apply Int32.toInt_inj.mp
  have h : a / b < 2 ^ 31 := Nat.lt_of_le_of_lt (Nat.div_le_self a b) ha
  have h0 : ((a / b : Nat) : Int) = (a : Int) / (b : Int) := Int.natCast_ediv a b
  rw [Int32.toInt_div, nI_toInt ha, nI_toInt hb, nI_toInt h, Int.tdiv_eq_ediv_of_nonneg (by omega), ← h0]
  clear h0
  generalize a / b = m at h ⊢
  exact Int.bmod_eq_of_le (by omega) (by omega)
theorem nI_sub {a b : Nat} (h : b ≤ a) : nI a - nI b = nI (a - b) := by
  have : nI a = nI (a - b) + nI b := by rw [nI_add]; congr 1; omega
  rw [this, Int32.add_sub_cancel]
theorem isOfRebuild_w {c : Nat} (hc : c < 3248) : f_X3_isOfRebuild (nI c) = some (if c < 448 then 1 else 0) := by
  have h : (448 : Int32) ≤ nI c ↔ 448 ≤ c := nI_leI (a := 448) (by decide) (by omega)
  unfold f_X3_isOfRebuild
  by_cases u : 448 ≤ c
  · rw [if_pos (h.mpr u), if_neg (by omega)]
  · rw [if_neg (fun k => u (h.mp k)), if_pos (by omega)]
theorem stripeBehind_w {s : cs_S} {c : Nat} (hc : c < 3248) : f_X5_stripeBehind s (nI c) = some (if c < 448 then nI (c / 7) else s.2.1 21 (c / 7 - 64)) := by
  have e7 : nI c / 7 = nI (c / 7) := nI_div (b := 7) (by omega) (by decide)
  unfold f_X5_stripeBehind
  rw [isOfRebuild_w hc]
  by_cases u : c < 448
  · rw [if_pos u, if_pos u]
    simp only [f_X3_rebuiltStripe, e7]
    rw [if_neg (by decide)]
  · rw [if_neg u, if_neg u]
    have e : nI (c / 7) - 64 = nI (c / 7 - 64) := nI_sub (b := 64) (by omega)
    simp (disch := omega) only [f_X3_requestBehind, e7, e, nb_nI, nI_clamp]
    rw [if_pos trivial]
theorem ab_Cq_fr {A A' : ab_S} {s s' : cs_S} {q : Nat} (h1 : A'.2.1 q = A.2.1 q) (h2 : ∀ w, A'.2.2.1 q w = A.2.2.1 q w) (h3 : ∀ P k, P = 2 ∨ P = 3 ∨ P = 4 ∨ P = 11 ∨ P = 12 → s'.2.1 P k = s.2.1 P k) (h4 : s'.2.2 = s.2.2) (H : ab_Cq A s q) : ab_Cq A' s' q := by
  unfold ab_Cq at H ⊢
  rw [h1, h2, h2, h2, h4, h3 4 q (by omega), h3 2 q (by omega), h3 3 q (by omega)]
  refine ⟨H.1, H.2.1, ab_ch_eq _ H.2.2.1 (fun x _ => h3 12 _ (by omega)), fun x hx => ?_, H.2.2.2.2⟩
  rw [h3 11 _ (by omega)]
  exact H.2.2.2.1 x hx
theorem ab_Cd_fr {A A' : ab_S} {s s' : cs_S} {d : Nat} (h1 : A'.2.2.2 d = A.2.2.2 d) (h2 : ∀ w, A'.1 1 d w = A.1 1 d w) (h3 : ∀ P, P = 14 ∨ P = 15 ∨ P = 16 ∨ P = 17 → s'.2.1 P d = s.2.1 P d) (H : ab_Cd A s d) : ab_Cd A' s' d := by
  unfold ab_Cd at H ⊢
  rw [h1, h2, h2, h2, h3 14 (by omega), h3 15 (by omega), h3 16 (by omega), h3 17 (by omega)]
  exact H
theorem ab_Ct_fr {A A' : ab_S} {s s' : cs_S} {t : Nat} (h2 : ∀ w, A'.1 6 t w = A.1 6 t w) (h3 : ∀ P k, P = 18 ∨ P = 27 ∨ P = 28 ∨ P = 29 ∨ P = 30 → s'.2.1 P k = s.2.1 P k) (H : ab_Ct A s t) : ab_Ct A' s' t := by
  unfold ab_Ct at H ⊢
  rw [h2, h2, h2, h2, h2, h2, h2, h3 27 _ (by omega), h3 28 _ (by omega), h3 29 _ (by omega), h3 30 _ (by omega), h3 18 _ (by omega), h3 18 _ (by omega), h3 18 _ (by omega)]
  exact H
theorem ab_Cr_fr {A A' : ab_S} {s s' : cs_S} {r : Nat} (h2 : ∀ w, A'.1 5 r w = A.1 5 r w) (h3 : ∀ P, 20 ≤ P → P ≤ 26 → s'.2.1 P r = s.2.1 P r) (H : ab_Cr A s r) : ab_Cr A' s' r := by
  unfold ab_Cr at H ⊢
  rw [h2, h2, h2, h2, h2, h2, h2, h3 20 (by omega) (by omega), h3 24 (by omega) (by omega), h3 23 (by omega) (by omega), h3 26 (by omega) (by omega), h3 25 (by omega) (by omega), h3 21 (by omega) (by omega), h3 22 (by omega) (by omega)]
  exact H
theorem ab_Ch_fr {A A' : ab_S} {s s' : cs_S} {k : Nat} (h1 : A'.1 4 k 0 = A.1 4 k 0) (h2 : ∀ d, A'.1 3 d k = A.1 3 d k) (h3 : ∀ P, P = 32 ∨ P = 33 → s'.2.1 P k = s.2.1 P k) (H : ab_Ch A s k) : ab_Ch A' s' k := by
  unfold ab_Ch at H ⊢
  rw [h1, h3 32 (by omega), h3 33 (by omega)]
  obtain ⟨a, n, b, c, d⟩ := H
  exact ⟨a, n, b, c, fun e he => by rw [h2]; exact d e he⟩
theorem ab_cnt_eq {f g : Nat → Bool} : ∀ n, (∀ i, i < n → f i = g i) → ab_cnt f n = ab_cnt g n
  | 0, _ => rfl
  | n + 1, h => by
    unfold ab_cnt
    rw [h n (by omega), ab_cnt_eq n (fun i hi => h i (by omega))]
theorem ab_sum_eq {f g : Nat → Nat} : ∀ n, (∀ i, i < n → f i = g i) → ab_sum f n = ab_sum g n
  | 0, _ => rfl
  | n + 1, h => by
    unfold ab_sum
    rw [h n (by omega), ab_sum_eq n (fun i hi => h i (by omega))]
/-- the counts of the rebuild look at regions 3 and 4 alone -/
theorem ab_cnts {A A' : ab_S} (h3 : ∀ i w, A'.1 3 i w = A.1 3 i w) (h4 : ∀ i w, A'.1 4 i w = A.1 4 i w) (S : Nat) : ab_started A'.1 S = ab_started A.1 S ∧ ab_cached A'.1 S = ab_cached A.1 S ∧ ab_rebuilt A'.1 S = ab_rebuilt A.1 S := by
  unfold ab_started ab_cached ab_rebuilt ab_heldOf
  simp only [h3, h4]
  exact ⟨trivial, trivial, trivial⟩
/-- how long a service takes -/
def ab_tk (p : Nat → Int32) (pos st : Int32) : Int32 := p 2 + (if 0 ≤ pos - st then pos - st else 0 - (pos - st)) * p 3 / 16
def ab_sv (p : Nat → Int32) (A : ab_S) (d t way c : Nat) (st : Int32) : ab_S :=
  ab_v (ab_v (ab_v (ab_v (ab_d A d (some c)) 1 d 1 (A.1 0 0 0 + ab_tk p (A.1 1 d 2) st)) 1 d 2 st) 1 d 3 (A.1 1 d 3 + ab_tk p (A.1 1 d 2) st)) 6 t (4 + way) (A.1 6 t (4 + way) + 1)
theorem ab_sv_1 (p : Nat → Int32) (A : ab_S) (d t way c : Nat) (st : Int32) (g i w : Nat) : (ab_sv p A d t way c st).1 g i w = if g = 6 ∧ i = t ∧ w = 4 + way then A.1 6 t (4 + way) + 1 else if g = 1 ∧ i = d ∧ w = 3 then A.1 1 d 3 + ab_tk p (A.1 1 d 2) st else if g = 1 ∧ i = d ∧ w = 2 then st else if g = 1 ∧ i = d ∧ w = 1 then A.1 0 0 0 + ab_tk p (A.1 1 d 2) st else A.1 g i w := by
  simp only [ab_sv, ab_v_1, ab_d_1]
theorem ab_sv_2 (p : Nat → Int32) (A : ab_S) (d t way c : Nat) (st : Int32) : (ab_sv p A d t way c st).2.1 = A.2.1 := rfl
theorem ab_sv_3 (p : Nat → Int32) (A : ab_S) (d t way c : Nat) (st : Int32) : (ab_sv p A d t way c st).2.2.1 = A.2.2.1 := rfl
theorem ab_sv_4 (p : Nat → Int32) (A : ab_S) (d t way c : Nat) (st : Int32) (d' : Nat) : (ab_sv p A d t way c st).2.2.2 d' = if d' = d then some c else A.2.2.2 d' := rfl
/-- a disk begins to serve: the program's class -/
theorem sv_cls (s4 s : cs_S) {d : Nat} (x st n : Int32) (hd : d < 7) : ∃ s', f_X0_serve s4 s (nI d) x st n = some s' ∧ s'.1 = s.1 ∧ s'.2.2 = s.2.2 ∧ ∀ P k, s'.2.1 P k = if P = 17 ∧ k = d then s.2.1 17 d + (s4.1 0 2 + (if 0 ≤ s.2.1 16 d - st then s.2.1 16 d - st else 0 - (s.2.1 16 d - st)) * s4.1 0 3 / 16) else if P = 16 ∧ k = d then st else if P = 15 ∧ k = d then n + (s4.1 0 2 + (if 0 ≤ s.2.1 16 d - st then s.2.1 16 d - st else 0 - (s.2.1 16 d - st)) * s4.1 0 3 / 16) else if P = 14 ∧ k = d then x else s.2.1 P k := by
  generalize hk : (s4.1 0 2 + (if 0 ≤ s.2.1 16 d - st then s.2.1 16 d - st else 0 - (s.2.1 16 d - st)) * s4.1 0 3 / 16) = tk
  refine ⟨cs_a (cs_a (cs_a (cs_a s 14 (nI d) x) 15 (nI d) (n + tk)) 16 (nI d) st) 17 (nI d) (s.2.1 17 d + tk), ?_, rfl, rfl, ?_⟩
  · simp (disch := omega) only [f_X0_serve, fc_X0_serve_c1, fc_X0_serve_c2, fc_X0_serve_c3, nb_nI, nI_clamp, hk, ca_2]
    rfl
  · intro P k
    simp (disch := omega) only [ca_2]
theorem numberOf_w (d t : Nat) : f_X3_numberOf (nI d) (nI t) = some (nI (6 * d + t)) := by
  unfold f_X3_numberOf
  rw [show nI d * 6 = nI (d * 6) from nI_mul d 6, nI_add, Nat.mul_comm]
/-- what the class's plan says of the plan's words p -/
def ab_P (p : Nat → Int32) (s4 : cs_S) : Prop := s4.1 0 0 = p 0 ∧ s4.1 0 1 = p 1 ∧ s4.1 0 2 = p 2 ∧ s4.1 0 3 = p 3 ∧ s4.1 0 4 = p 4 ∧ s4.1 0 5 = p 5 ∧ s4.1 0 7 = p 6 ∧ s4.1 0 6 = p 7 ∧ ∀ t, t < 6 → s4.2.1 1 t = p (8 + 3 * t) ∧ s4.2.1 2 t = p (8 + 3 * t + 1) ∧ s4.2.1 3 t = p (8 + 3 * t + 2)
def ab_nt (A : ab_S) : Prop := ∀ q, q < 42 → (∀ a, a ∈ A.2.1 q → a.2.2.1 ≠ some ab_no) ∧ A.2.2.1 q 0 ≠ some ab_no
/-- the first operation of a queue is served: the model -/
def ab_srv (p : Nat → Int32) (A : ab_S) (d t way : Nat) (a : ab_O) (l : List ab_O) : ab_S :=
  if way = 1 ∨ p (8 + 3 * t) ≤ 0 then ab_sv p (ab_q A (6 * d + t) l) d t way a.1 (ab_stripe A a.1)
  else ab_cr (ab_sv p (ab_q A (6 * d + t) l) d t way a.1 (ab_stripe A a.1)) (6 * d + t) (1000000 / p (8 + 3 * t)).toInt64
theorem ab_U_q {A : ab_S} {q : Nat} {a : ab_O} {l : List ab_O} (hq : q < 42) (hl : A.2.1 q = a :: l) (hU : ab_U A) : ab_U (ab_q A q l) ∧ (∀ q' x, q' < 42 → x ∈ (ab_q A q l).2.1 q' → x ∈ A.2.1 q' ∧ x.1 ≠ a.1) ∧ (∀ d, d < 7 → A.2.2.2 d ≠ some a.1) := by
  obtain ⟨U1, U2, U3, U4, U5, U6, U7⟩ := hU
  have ha : a ∈ A.2.1 q := by rw [hl]; exact List.mem_cons_self
  have nd := U2 q hq
  rw [hl, List.map_cons] at nd
  have nd' := List.nodup_cons.mp nd
  have sub : ∀ q' x, x ∈ (ab_q A q l).2.1 q' → x ∈ A.2.1 q' := by
    intro q' x hx
    rw [ab_q_2] at hx
    by_cases z : q' = q
    · rw [if_pos z] at hx
      rw [z, hl]
      exact List.mem_cons_of_mem _ hx
    · rw [if_neg z] at hx
      exact hx
  refine ⟨⟨fun q1 q2 x y h1 h2 hx hy e => U1 q1 q2 x y h1 h2 (sub _ _ hx) (sub _ _ hy) e, ?_, fun q1 x h1 hx => U3 q1 x h1 (sub _ _ hx), ?_, fun d c q1 x hd h1 hc hx => U5 d c q1 x hd h1 hc (sub _ _ hx), U6, U7⟩, ?_, fun d hd h => U5 d a.1 q a hd hq h ha rfl⟩
  · intro q' hq'
    rw [ab_q_2]
    by_cases z : q' = q
    · rw [if_pos z]
      exact nd'.2
    · rw [if_neg z]
      exact U2 q' hq'
  · intro q' hq'
    rw [ab_q_2]
    by_cases z : q' = q
    · rw [if_pos z]
      have := U4 q hq
      rw [hl, List.length_cons] at this
      omega
    · rw [if_neg z]
      exact U4 q' hq'
  · intro q' x hq' hx
    refine ⟨sub _ _ hx, fun e => ?_⟩
    have z := U1 q' q x a hq' hq (sub _ _ hx) ha e
    subst z
    rw [ab_q_2, if_pos rfl] at hx
    exact nd'.1 (List.mem_map.mpr ⟨x, hx, e⟩)
theorem ab_U_sv {A : ab_S} {p : Nat → Int32} {d t way c : Nat} {st : Int32} (hc : c < 3248) (h1 : ∀ q x, q < 42 → x ∈ A.2.1 q → x.1 ≠ c) (h2 : ∀ d, d < 7 → A.2.2.2 d ≠ some c) (hU : ab_U A) : ab_U (ab_sv p A d t way c st) := by
  obtain ⟨U1, U2, U3, U4, U5, U6, U7⟩ := hU
  refine ⟨U1, U2, U3, U4, ?_, ?_, ?_⟩
  · intro d' c' q a hd hq h ha
    rw [ab_sv_4] at h
    by_cases z : d' = d
    · rw [if_pos z] at h
      rw [← Option.some.inj h]
      exact h1 q a hq ha
    · rw [if_neg z] at h
      exact U5 d' c' q a hd hq h ha
  · intro d1 d2 c' hd1 hd2 g1 g2
    rw [ab_sv_4] at g1 g2
    by_cases z1 : d1 = d <;> by_cases z2 : d2 = d
    · rw [z1, z2]
    · rw [if_pos z1] at g1
      rw [if_neg z2, ← Option.some.inj g1] at g2
      exact absurd g2 (h2 d2 hd2)
    · rw [if_pos z2] at g2
      rw [if_neg z1, ← Option.some.inj g2] at g1
      exact absurd g1 (h2 d1 hd1)
    · rw [if_neg z1] at g1
      rw [if_neg z2] at g2
      exact U6 d1 d2 c' hd1 hd2 g1 g2
  · intro d' c' hd g
    rw [ab_sv_4] at g
    by_cases z : d' = d
    · rw [if_pos z] at g
      rw [← Option.some.inj g]
      exact hc
    · rw [if_neg z] at g
      exact U7 d' c' hd g
