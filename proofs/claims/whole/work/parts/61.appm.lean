/-! Append between the two programs: the model's, kept by the program's class. -/
def ab_app (p : Nat → Int32) (A : ab_S) (q t c : Nat) (due : Int32) : ab_S :=
  (A.1, fun q' => if q' = q then A.2.1 q ++ [(c, due, (if p (8 + 3 * t) ≤ 0 then none else some (ab_nx (A.2.2.1 q 0) (1000 * (A.1 0 0 0).toInt64) (p (8 + 3 * t)))), ab_nx (A.2.2.1 q 1) (1000 * (A.1 0 0 0).toInt64) (p (8 + 3 * t + 1)), (if p (8 + 3 * t + 2) ≤ 0 then 0 else ab_nx (A.2.2.1 q 2) (1000 * (A.1 0 0 0).toInt64) (p (8 + 3 * t + 2))))] else A.2.1 q',
    fun q' w => if q' = q ∧ w = 0 ∧ ¬ p (8 + 3 * t) ≤ 0 then some (ab_nx (A.2.2.1 q 0) (1000 * (A.1 0 0 0).toInt64) (p (8 + 3 * t))) else if q' = q ∧ w = 1 then some (ab_nx (A.2.2.1 q 1) (1000 * (A.1 0 0 0).toInt64) (p (8 + 3 * t + 1))) else if q' = q ∧ w = 2 ∧ ¬ p (8 + 3 * t + 2) ≤ 0 then some (ab_nx (A.2.2.1 q 2) (1000 * (A.1 0 0 0).toInt64) (p (8 + 3 * t + 2))) else A.2.2.1 q' w, A.2.2.2)
/-- the links when an operation is hung on at the end -/
theorem ab_ch_app {nx nx' : Nat → Int32} {f : Nat → Nat} {b : ab_O} : ∀ (l : List ab_O), ab_ch nx f l → (∀ a, a ∈ l → ∀ e, l.getLast? = some e → f a.1 ≠ f e.1 → nx' (f a.1) = nx (f a.1)) → (∀ e, l.getLast? = some e → nx' (f e.1) = nI (f b.1)) → (l.map (fun a => f a.1)).Nodup → ab_ch nx' f (l ++ [b])
  | [], _, _, _, _ => trivial
  | [a], _, _, h, _ => ⟨h a rfl, trivial⟩
  | a :: a' :: l, h, g, k, nd => by
    have nd' := List.nodup_cons.mp nd
    refine ⟨?_, ab_ch_app (a' :: l) h.2 (fun x hx e he => g x (List.mem_cons_of_mem _ hx) e (by rw [List.getLast?_cons_cons]; exact he)) (fun e he => k e (by rw [List.getLast?_cons_cons]; exact he)) nd'.2⟩
    obtain ⟨e, he⟩ : ∃ e, (a' :: l).getLast? = some e := ⟨_, List.getLast?_eq_some_getLast (List.cons_ne_nil a' l)⟩
    rw [g a (List.mem_cons_self) e (by rw [List.getLast?_cons_cons]; exact he) (fun c => nd'.1 (List.mem_map.mpr ⟨e, List.mem_of_getLast? he, c.symm⟩))]
    exact h.1
theorem ab_ch_eq {nx nx' : Nat → Int32} {f : Nat → Nat} : ∀ (l : List ab_O), ab_ch nx f l → (∀ a, a ∈ l → nx' (f a.1) = nx (f a.1)) → ab_ch nx' f l
  | [], _, _ => trivial
  | [_], _, _ => trivial
  | a :: a' :: l, h, g => ⟨(g a List.mem_cons_self).trans h.1, ab_ch_eq (a' :: l) h.2 (fun x hx => g x (List.mem_cons_of_mem _ hx))⟩
theorem ap_oth {s s' : cs_S} {q c L e : Nat} {due : Int32} {r : Option Int64} {p : Int64} {l : Option Int64} (h : ap_eff s s' q c L e due r p l) (P k : Nat) (h1 : P ≠ 2) (h2 : P ≠ 3) (h3 : P ≠ 4) (h4 : P ≠ 11) (h5 : P ≠ 12) : s'.2.1 P k = s.2.1 P k := by
  rw [h.2.1, if_neg (by omega), if_neg (by omega), if_neg (by omega), if_neg (by omega), if_neg (by omega), if_neg (by omega)]
/-- another queue is as it was -/
theorem ap_Cq {s s' : cs_S} {A : ab_S} {q c L e : Nat} {due : Int32} {r : Option Int64} {p : Int64} {l : Option Int64} (h : ap_eff s s' q c L e due r p l) {A' : ab_S} {q' : Nat} (hq : q' ≠ q) (hA : A'.2.1 q' = A.2.1 q') (hT : ∀ w, A'.2.2.1 q' w = A.2.2.1 q' w) (hc : ∀ a, a ∈ A.2.1 q' → a.1 ≠ c) (he : L ≠ 0 → ∀ a, a ∈ A.2.1 q' → a.1 ≠ e) (H : ab_Cq A s q') : ab_Cq A' s' q' := by
  obtain ⟨h1, h2, h3, h4, h5, h6, h7⟩ := H
  unfold ab_Cq
  rw [hA, hT, hT, hT]
  have el : ∀ P, P ≠ 8 → P ≠ 9 → P ≠ 10 → s'.2.2 P q' = s.2.2 P q' := fun P a b d => by
    rw [h.2.2, if_neg (by omega), if_neg (by omega), if_neg (by omega), if_neg (by omega), if_neg (by omega), if_neg (by omega)]
  have ei : ∀ P, P ≠ 11 → P ≠ 12 → s'.2.1 P q' = s.2.1 P q' := fun P a b => by
    rw [h.2.1, if_neg (by omega), if_neg (by omega), if_neg (by omega), if_neg (by omega), if_neg (by omega), if_neg (by omega)]
  refine ⟨by rw [ei 4 (by decide) (by decide)]; exact h1, fun a l' hl => by rw [ei 2 (by decide) (by decide), ei 3 (by decide) (by decide)]; exact h2 a l' hl, ?_, ?_, by rw [el 5 (by decide) (by decide) (by decide)]; exact h5, by rw [el 6 (by decide) (by decide) (by decide)]; exact h6, by rw [el 7 (by decide) (by decide) (by decide)]; exact h7⟩
  · refine ab_ch_eq _ h3 (fun a ha => ?_)
    show s'.2.1 12 a.1 = s.2.1 12 a.1
    have k1 := hc a ha
    have k2 : ¬ (12 = 12 ∧ a.1 = e ∧ L ≠ 0) := fun x => he x.2.2 a ha x.2.1
    rw [h.2.1, if_neg (by omega), if_neg (by omega), if_neg (by omega), if_neg k2, if_neg (by omega), if_neg (by omega)]
  · intro a ha
    have k1 := hc a ha
    obtain ⟨g1, g2, g3, g4⟩ := h4 a ha
    refine ⟨?_, ?_, ?_, ?_⟩
    · rw [h.2.1, if_neg (by omega), if_neg (by omega), if_neg (by omega), if_neg (by omega), if_neg (by omega), if_neg (by omega), g1]
    · rw [h.2.2, if_neg (by omega), if_neg (by omega), if_neg (by omega), if_neg (by omega), if_neg (by omega), if_neg (by omega), g2]
    · rw [h.2.2, if_neg (by omega), if_neg (by omega), if_neg (by omega), if_neg (by omega), if_neg (by omega), if_neg (by omega), g3]
    · rw [h.2.2, if_neg (by omega), if_neg (by omega), if_neg (by omega), if_neg (by omega), if_neg (by omega), if_neg (by omega), g4]
/-- the queue itself -/
theorem ap_Co {s s' : cs_S} {A : ab_S} {q c L e : Nat} {due : Int32} {r : Option Int64} {p : Int64} {l : Option Int64} (h : ap_eff s s' q c L e due r p l) {A' : ab_S} (hL : L = (A.2.1 q).length) (hA : A'.2.1 q = A.2.1 q ++ [(c, due, r, p, l.getD 0)]) (h0 : A'.2.2.1 q 0 = if r.isSome = true then r else A.2.2.1 q 0) (hp : A'.2.2.1 q 1 = some p) (hl : A'.2.2.1 q 2 = if l.isSome = true then l else A.2.2.1 q 2) (hc : ∀ a, a ∈ A.2.1 q → a.1 ≠ c) (he : ∀ a, (A.2.1 q).getLast? = some a → a.1 = e) (hn : ((A.2.1 q).map (fun a => a.1)).Nodup) (H : ab_Cq A s q) : ab_Cq A' s' q := by
  obtain ⟨h1, h2, h3, h4, h5, h6, h7⟩ := H
  refine ⟨?_, ?_, ?_, ?_, ?_, ?_, ?_⟩
  · rw [h.2.1, if_pos ⟨rfl, rfl⟩, hA, List.length_append, hL]
    rfl
  · intro a l' hl'
    rw [hA] at hl'
    have e3 : s'.2.1 3 q = nI c := by
      rw [h.2.1, if_neg (by omega), if_pos ⟨rfl, rfl⟩]
    have eb : ((a :: l').getLast (List.cons_ne_nil a l')).1 = c := by
      have : (a :: l').getLast? = some (c, due, r, p, l.getD 0) := by
        rw [← hl']
        exact List.getLast?_concat
      rw [List.getLast?_eq_some_getLast (List.cons_ne_nil a l')] at this
      rw [Option.some.inj this]
    refine ⟨?_, by rw [e3, eb]⟩
    cases hQ : A.2.1 q with
    | nil =>
      rw [hQ] at hl' hL
      have : a = (c, due, r, p, l.getD 0) := ((List.cons.inj hl').1).symm
      rw [h.2.1, if_neg (by omega), if_neg (by omega), if_pos ⟨rfl, rfl, hL⟩, this]
    | cons a0 l0 =>
      rw [hQ] at hl' hL
      have : a = a0 := ((List.cons.inj hl').1).symm
      have hL0 : L ≠ 0 := by rw [hL]; exact Nat.succ_ne_zero _
      rw [h.2.1, if_neg (by omega), if_neg (by omega), if_neg (by omega), if_neg (by omega), if_neg (by omega), if_neg (by omega), this]
      exact (h2 a0 l0 hQ).1
  · rw [hA]
    refine ab_ch_app _ h3 ?_ ?_ hn
    · intro a ha x hx hax
      have k1 := hc a ha
      have k2 := he x hx
      have k3 : a.1 ≠ x.1 := hax
      show s'.2.1 12 a.1 = s.2.1 12 a.1
      rw [h.2.1, if_neg (by omega), if_neg (by omega), if_neg (by omega), if_neg (by omega), if_neg (by omega), if_neg (by omega)]
    · intro x hx
      have k2 := he x hx
      have hL0 : L ≠ 0 := by
        intro z
        rw [hL] at z
        rw [List.eq_nil_of_length_eq_zero z] at hx
        cases hx
      show s'.2.1 12 x.1 = nI c
      rw [h.2.1, if_neg (by omega), if_neg (by omega), if_neg (by omega), if_pos ⟨rfl, k2, hL0⟩]
  · intro a ha
    rw [hA] at ha
    rcases List.mem_append.mp ha with ha | ha
    · have k1 := hc a ha
      obtain ⟨g1, g2, g3, g4⟩ := h4 a ha
      refine ⟨?_, ?_, ?_, ?_⟩
      · rw [h.2.1, if_neg (by omega), if_neg (by omega), if_neg (by omega), if_neg (by omega), if_neg (by omega), if_neg (by omega), g1]
      · rw [h.2.2, if_neg (by omega), if_neg (by omega), if_neg (by omega), if_neg (by omega), if_neg (by omega), if_neg (by omega), g2]
      · rw [h.2.2, if_neg (by omega), if_neg (by omega), if_neg (by omega), if_neg (by omega), if_neg (by omega), if_neg (by omega), g3]
      · rw [h.2.2, if_neg (by omega), if_neg (by omega), if_neg (by omega), if_neg (by omega), if_neg (by omega), if_neg (by omega), g4]
    · have : a = (c, due, r, p, l.getD 0) := List.mem_singleton.mp ha
      subst this
      refine ⟨?_, ?_, ?_, ?_⟩
      · show s'.2.1 11 c = due
        rw [h.2.1, if_neg (by omega), if_neg (by omega), if_neg (by omega), if_neg (by omega), if_neg (by omega), if_pos ⟨rfl, rfl⟩]
      · show s'.2.2 8 c = r.getD ab_no
        rw [h.2.2, if_pos ⟨rfl, rfl⟩]
      · show s'.2.2 9 c = p
        rw [h.2.2, if_neg (by omega), if_pos ⟨rfl, rfl⟩]
      · show s'.2.2 10 c = l.getD 0
        rw [h.2.2, if_neg (by omega), if_neg (by omega), if_pos ⟨rfl, rfl⟩]
  · rw [h.2.2, if_neg (by omega), if_neg (by omega), if_neg (by omega), h0]
    cases r with
    | none => simpa using h5
    | some y => simp
  · rw [h.2.2, if_neg (by omega), if_neg (by omega), if_neg (by omega), if_neg (by omega), if_pos ⟨rfl, rfl⟩, hp]
    rfl
  · rw [h.2.2, if_neg (by omega), if_neg (by omega), if_neg (by omega), if_neg (by omega), if_neg (by omega), hl]
    cases l with
    | none => simpa using h7
    | some y => simp
