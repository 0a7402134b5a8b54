/-! What is so between the steps of the engine; how many operations there are. -/
def ab_K (D S : Nat) (f : Option Nat) (A : ab_S) (L : Nat → Bool) : Prop := match f with
  | none => A.1 0 0 1 = -1 ∧ (∀ k, k < 64 → A.1 4 k 0 = 0) ∧ (∀ d k, d < 6 → k < 64 → A.1 3 d k ≠ 1) ∧ (∀ c, c < 448 → L c = false)
  | some f => A.1 0 0 1 = nI f ∧ f < D ∧ (∀ d k, d < 6 → k < 64 → A.1 3 d k = 1 → d < D ∧ d ≠ f) ∧ (∀ k, k < S → ab_Ks D f A L k)
def ab_V (D S m : Nat) (f : Option Nat) (A : ab_S) (L : Nat → Bool) : Prop :=
  ab_K D S f A L ∧ (∀ r, r < m → ab_row L (64 + r) ≤ 5) ∧ ab_started A.1 S ≤ 8 ∧ (f = none → ∀ r, r < m → A.1 5 r 6 = 0 → ab_row L (64 + r) ≤ 1) ∧ (∀ d, d < 7 → A.1 1 d 7 = 0) ∧ (∀ f', f = some f' → ∀ c, L c = true → c % 7 ≠ f')
theorem ab_cnt_add (f : Nat → Bool) (a : Nat) : ∀ b, ab_cnt f (a + b) = ab_cnt f a + ab_cnt (fun i => f (a + i)) b
  | 0 => rfl
  | b + 1 => by
    rw [ab_cnt_s, show a + (b + 1) = (a + b) + 1 from rfl, ab_cnt_s, ab_cnt_add f a b]
    omega
theorem ab_cnt_rows (L : Nat → Bool) : ∀ i, ab_cnt L (7 * i) = ab_sum (ab_row L) i
  | 0 => rfl
  | i + 1 => by
    rw [show 7 * (i + 1) = 7 * i + 7 by omega, ab_cnt_add, ab_cnt_rows L i]
    rfl
theorem ab_sum_le {f : Nat → Nat} {a c : Nat} : ∀ b, (∀ j, j < b → f (a + j) ≤ c) → ab_sum f (a + b) ≤ ab_sum f a + b * c
  | 0, _ => by simp
  | b + 1, h => by
    have ih := ab_sum_le b (fun j hj => h j (by omega))
    have h' := h b (by omega)
    show ab_sum f (a + b) + f (a + b) ≤ _
    rw [Nat.add_mul]
    omega
theorem ab_tot {D S T m n N : Nat} {f : Option Nat} {A : ab_S} {L : Nat → Bool} (hB : ab_B D S T m n N A L) (hK : ab_K D S f A L) (h5 : ∀ r, r < m → ab_row L (64 + r) ≤ 5) (hs : ab_started A.1 S ≤ 8) : ab_cnt L 3248 ≤ 2056 := by
  have hS := hB.2.2.2.2.2.2.2.2.2.2.1
  have hm := hB.2.2.2.2.2.1.1
  rw [show (3248 : Nat) = 7 * (64 + 400) from rfl, ab_cnt_rows]
  have e1 := ab_sum_le (f := ab_row L) (a := 64) (c := 5) 400 (fun j hj => by
    by_cases u : j < m
    · exact h5 j u
    · rw [ab_row_0 (fun d hd => by
        cases hl : L (7 * (64 + j) + d) with
        | false => rfl
        | true =>
          have := hB.2.2.2.2.1 _ hl
          omega)]
      omega)
  have e2 : ab_sum (ab_row L) 64 ≤ 56 := by
    have st : ∀ j, j ≤ S → ab_sum (ab_row L) j ≤ 7 * ab_cnt (fun k => decide (A.1 4 k 0 = 1 ∨ A.1 4 k 0 = 2)) j := by
      intro j
      induction j with
      | zero => exact fun _ => Nat.le_refl 0
      | succ j ih =>
        intro hj
        have i1 := ih (by omega)
        show ab_sum (ab_row L) j + ab_row L j ≤ _
        rw [ab_cnt_s]
        by_cases u : A.1 4 j 0 = 1 ∨ A.1 4 j 0 = 2
        · rw [if_pos (decide_eq_true u)]
          have := ab_row_le L j
          omega
        · rw [if_neg (fun h => u (of_decide_eq_true h))]
          have : ab_row L j = 0 := ab_row_0 (fun d hd => by
            cases f with
            | none => exact hK.2.2.2 _ (by omega)
            | some f =>
              rcases hK.2.2.2 j (by omega) with h | h | h | h
              · exact h.2 d hd
              · exact absurd (.inl h.1) u
              · exact absurd (.inr h.1) u
              · exact h.2 d hd)
          omega
    have s1 := st S (Nat.le_refl S)
    have s2 := ab_sum_le (f := ab_row L) (a := S) (c := 0) (64 - S) (fun j hj => by
      rw [ab_row_0 (fun d hd => by
        cases hl : L (7 * (S + j) + d) with
        | false => rfl
        | true =>
          have := hB.2.2.2.2.1 _ hl
          omega)]
      exact Nat.le_refl 0)
    rw [show S + (64 - S) = 64 by omega] at s2
    unfold ab_started at hs
    omega
  omega
/-- the stripes under way, when a stripe's state stays or goes over to writing -/
theorem ab_s12.started {B B' : ab_S} {k S : Nat} (h : ab_s12 B B' k) (ho : ∀ k', k' ≠ k → B'.1 4 k' 0 = B.1 4 k' 0) : ab_started B'.1 S = ab_started B.1 S := by
  unfold ab_started
  refine ab_cnt_eq S (fun i hi => ?_)
  by_cases u : i = k
  · rw [u]
    rcases h with h | ⟨h, h'⟩
    · rw [h]
    · rw [h, h']
      decide
  · rw [ho i u]
