/-! What is always so of the model: operations, requests, disks, the tags' bounds. -/
def ab_bd (N : Nat) (y : Int64) : Prop := -(1000000000 + 1000000 * (N : Int)) ≤ y.toInt ∧ y.toInt ≤ 1000000000 + 1000000 * (N : Int)
def ab_tb (A : ab_S) (N : Nat) : Prop := ∀ q, q < 42 → (∀ a, a ∈ A.2.1 q → (∀ y, a.2.2.1 = some y → ab_bd N y) ∧ ab_bd N a.2.2.2.1 ∧ ab_bd N a.2.2.2.2) ∧ ∀ w, w < 3 → ∀ y, A.2.2.1 q w = some y → ab_bd N y
theorem ab_bd.le {N M : Nat} {y : Int64} (h : ab_bd N y) (l : N ≤ M) : ab_bd M y := by
  unfold ab_bd at h ⊢
  omega
theorem ab_tb.le {A : ab_S} {N M : Nat} (h : ab_tb A N) (l : N ≤ M) : ab_tb A M := fun q hq =>
  ⟨fun a ha => ⟨fun y hy => (((h q hq).1 a ha).1 y hy).le l, (((h q hq).1 a ha).2.1).le l, (((h q hq).1 a ha).2.2).le l⟩, fun w hw y hy => ((h q hq).2 w hw y hy).le l⟩
theorem ab_bd_no {N : Nat} (hN : N ≤ 1000000000000) {y : Int64} (h : ab_bd N y) : y ≠ ab_no := by
  intro e
  have : ab_no.toInt = -1152921504606846976 := by decide
  unfold ab_bd at h
  rw [e, this] at h
  omega
theorem ab_tb.nt {A : ab_S} {N : Nat} (hN : N ≤ 1000000000000) (h : ab_tb A N) : ab_nt A := fun q hq =>
  ⟨fun a ha e => ab_bd_no hN (((h q hq).1 a ha).1 _ e) rfl, fun e => ab_bd_no hN ((h q hq).2 0 (by decide) _ e) rfl⟩
theorem ab_bd_add {N : Nat} (hN : N ≤ 1000000000000) {y st : Int64} (h : ab_bd N y) (h0 : 0 ≤ st.toInt) (h1 : st.toInt ≤ 1000000) : ab_bd (N + 1) (y + st) ∧ ab_bd (N + 1) (y - st) := by
  unfold ab_bd at h ⊢
  rw [Int64.toInt_add, Int64.toInt_sub, Int.bmod_eq_of_le (by omega) (by omega), Int.bmod_eq_of_le (by omega) (by omega)]
  omega
theorem ab_st {sh : Int32} (h : ¬ sh ≤ 0) : 0 ≤ (1000000 / sh).toInt64.toInt ∧ (1000000 / sh).toInt64.toInt ≤ 1000000 := by
  rw [Int32.toInt_toInt64]
  exact ab_step (i32_npos h).1
theorem ab_pr {n : Nat} {x : Int32} (hx : x = nI n) (hn : n ≤ 100000) : (1000 * x.toInt64 : Int64).toInt = 1000 * (n : Int) := by
  rw [Int64.toInt_mul, Int32.toInt_toInt64, hx, nI_toInt (by omega), show (1000 : Int64).toInt = 1000 from rfl]
  exact Int.bmod_eq_of_le (by omega) (by omega)
theorem ab_bd_nx {N n : Nat} (hN : N ≤ 1000000000000) {x : Option Int64} {z : Int32} {sh : Int32} (hz : z = nI n) (hn : n ≤ 100000) (hs : ¬ sh ≤ 0) (h : ∀ y, x = some y → ab_bd N y) : ab_bd (N + 1) (ab_nx x (1000 * z.toInt64) sh) := by
  have P : ab_bd (N + 1) (1000 * z.toInt64) := by
    unfold ab_bd
    rw [ab_pr hz hn]
    omega
  cases x with
  | none => exact P
  | some y =>
    unfold ab_nx
    simp only []
    split
    · exact P
    · exact (ab_bd_add hN (h y rfl) (ab_st hs).1 (ab_st hs).2).1
def ab_row (L : Nat → Bool) (i : Nat) : Nat := ab_cnt (fun d => L (7 * i + d)) 7
/-- the base: D disks, S stripes, T tenants, m requests, the tick n, at most N tags given out -/
def ab_B (D S T m n N : Nat) (A : ab_S) (L : Nat → Bool) : Prop :=
  ab_U A ∧ (∀ c, L c = true ↔ ab_live A c) ∧
  (∀ q a, q < 42 → a ∈ A.2.1 q → a.1 % 7 = q / 6 ∧ ab_ten A a.1 = nI (q % 6) ∧ q / 6 ≤ D ∧ q % 6 < T) ∧
  (∀ d c, d < 7 → A.2.2.2 d = some c → c % 7 = d ∧ d ≤ D) ∧
  (∀ c, L c = true → (c < 448 ∧ c / 7 < S) ∨ (448 ≤ c ∧ c / 7 - 64 < m)) ∧
  (m ≤ 400 ∧ A.1 0 0 2 = nI m ∧ n ≤ 100000 ∧ A.1 0 0 0 = nI n) ∧
  (∀ r, r < m → (∃ t, 1 ≤ t ∧ t < T ∧ A.1 5 r 0 = nI t) ∧ (∃ k, k < S ∧ A.1 5 r 5 = nI k) ∧ (A.1 5 r 6 = 0 ∨ A.1 5 r 6 = 1) ∧ A.1 5 r 3 = nI (ab_row L (64 + r))) ∧
  (∀ d, d < 7 → (A.2.2.2 d = none → A.1 1 d 1 = -1) ∧ (∀ c, A.2.2.2 d = some c → ∃ e, A.1 1 d 1 = nI e ∧ n ≤ e ∧ e ≤ 101000) ∧ (∃ k, k < 64 ∧ A.1 1 d 2 = nI k)) ∧
  ab_tb A N ∧ (D ≤ 6 ∧ S ≤ 64 ∧ T ≤ 6 ∧ N ≤ 1000000000000)
theorem ab_live_2 {A A' : ab_S} (h : A'.2 = A.2) (c : Nat) : ab_live A' c ↔ ab_live A c := by
  unfold ab_live
  rw [h]
theorem ab_U_2 {A A' : ab_S} (h : A'.2 = A.2) (H : ab_U A) : ab_U A' := by
  unfold ab_U at H ⊢
  rw [h]
  exact H
theorem ab_tb_2 {A A' : ab_S} (h : A'.2 = A.2) {N : Nat} (H : ab_tb A N) : ab_tb A' N := by
  unfold ab_tb at H ⊢
  rw [h]
  exact H
/-- what changes none of the numbers that the base looks at -/
theorem ab_B_v {D S T m n N : Nat} {A A' : ab_S} {L : Nat → Bool} (hA : A'.2 = A.2) (h02 : A'.1 0 0 2 = A.1 0 0 2) (h00 : A'.1 0 0 0 = A.1 0 0 0) (h5 : ∀ r w, w ≠ 4 → A'.1 5 r w = A.1 5 r w) (h1 : ∀ d w, w = 1 ∨ w = 2 → A'.1 1 d w = A.1 1 d w) (H : ab_B D S T m n N A L) : ab_B D S T m n N A' L := by
  obtain ⟨B1, B2, B3, B4, B5, B6, B7, B8, B9, B10⟩ := H
  refine ⟨ab_U_2 hA B1, fun c => (B2 c).trans (ab_live_2 hA c).symm, ?_, ?_, B5, ?_, ?_, ?_, ab_tb_2 hA B9, B10⟩
  · intro q a hq ha
    rw [hA] at ha
    have := B3 q a hq ha
    unfold ab_ten at this ⊢
    rw [h5 _ _ (by decide)]
    exact this
  · rw [hA]
    exact B4
  · rw [h02, h00]
    exact B6
  · intro r hr
    rw [h5 _ _ (by decide), h5 _ _ (by decide), h5 _ _ (by decide), h5 _ _ (by decide)]
    exact B7 r hr
  · intro d hd
    rw [hA, h1 d 1 (.inl rfl), h1 d 2 (.inr rfl)]
    exact B8 d hd
def ab_L (L : Nat → Bool) (c : Nat) (b : Bool) : Nat → Bool := fun y => if y = c then b else L y
theorem ab_cnt_up {f : Nat → Bool} {c : Nat} (hf : f c = false) : ∀ n, ab_cnt (ab_L f c true) n = ab_cnt f n + (if c < n then 1 else 0)
  | 0 => rfl
  | n + 1 => by
    unfold ab_cnt
    rw [ab_cnt_up hf n]
    by_cases h : n = c
    · subst h
      simp [ab_L, hf]
    · have : ab_L f c true n = f n := if_neg h
      rw [this]
      by_cases h' : c < n
      · have h2 : c < n + 1 := by omega
        simp only [if_pos h', if_pos h2]
        omega
      · have h2 : ¬ c < n + 1 := by omega
        simp only [if_neg h', if_neg h2]
        omega
theorem ab_cnt_dn {f : Nat → Bool} {c : Nat} (hf : f c = true) (n : Nat) (hc : c < n) : ab_cnt f n = ab_cnt (ab_L f c false) n + 1 := by
  have e : f = ab_L (ab_L f c false) c true := by
    funext y
    unfold ab_L
    by_cases h : y = c
    · rw [if_pos h, h, hf]
    · rw [if_neg h, if_neg h]
  have := ab_cnt_up (f := ab_L f c false) (c := c) (if_pos rfl) n
  rw [← e, if_pos hc] at this
  exact this
theorem ab_row_L {L : Nat → Bool} {c i : Nat} {b : Bool} (h : c / 7 ≠ i) : ab_row (ab_L L c b) i = ab_row L i := by
  unfold ab_row
  refine ab_cnt_eq 7 (fun d hd => ?_)
  exact if_neg (by omega)
theorem ab_row_up {L : Nat → Bool} {c : Nat} (h : L c = false) : ab_row (ab_L L c true) (c / 7) = ab_row L (c / 7) + 1 := by
  have e := ab_cnt_up (f := fun d => L (7 * (c / 7) + d)) (c := c % 7) (by show L (7 * (c / 7) + c % 7) = false; rw [show 7 * (c / 7) + c % 7 = c by omega]; exact h) 7
  rw [if_pos (by omega)] at e
  unfold ab_row
  rw [← e]
  refine ab_cnt_eq 7 (fun d hd => ?_)
  unfold ab_L
  by_cases u : d = c % 7
  · rw [if_pos u, if_pos (by omega)]
  · rw [if_neg u, if_neg (by omega)]
theorem ab_row_dn {L : Nat → Bool} {c : Nat} (h : L c = true) : ab_row L (c / 7) = ab_row (ab_L L c false) (c / 7) + 1 := by
  have e : L = ab_L (ab_L L c false) c true := by
    funext y
    unfold ab_L
    by_cases h' : y = c
    · rw [if_pos h', h', h]
    · rw [if_neg h', if_neg h']
  have := ab_row_up (L := ab_L L c false) (c := c) (if_pos rfl)
  rw [← e] at this
  exact this
theorem ab_cnt_le (f : Nat → Bool) : ∀ n, ab_cnt f n ≤ n
  | 0 => Nat.le_refl 0
  | n + 1 => by
    have := ab_cnt_le f n
    unfold ab_cnt
    split <;> omega
theorem ab_row_le (L : Nat → Bool) (i : Nat) : ab_row L i ≤ 7 := ab_cnt_le _ 7
/-- a list of different live operations is no longer than there are live ones -/
theorem ab_nd_len {L : Nat → Bool} : ∀ (N : Nat) (l : List Nat), l.Nodup → (∀ x, x ∈ l → x < N ∧ L x = true) → l.length ≤ ab_cnt L N
  | 0, l, _, h => by
    cases l with
    | nil => exact Nat.le_refl 0
    | cons a l => exact absurd (h a List.mem_cons_self).1 (by omega)
  | N + 1, l, nd, h => by
    unfold ab_cnt
    by_cases z : N ∈ l
    · have ih := ab_nd_len N (l.erase N) (nd.erase N) (fun x hx => by
        have hm := (nd.mem_erase_iff).mp hx
        have := h x hm.2
        exact ⟨by have := hm.1; omega, this.2⟩)
      rw [List.length_erase_of_mem z] at ih
      have : 0 < l.length := List.length_pos_of_mem z
      rw [if_pos (h N z).2]
      omega
    · have ih := ab_nd_len N l nd (fun x hx => by
        have := h x hx
        refine ⟨?_, this.2⟩
        have : x ≠ N := fun e => z (e ▸ hx)
        omega)
      omega
