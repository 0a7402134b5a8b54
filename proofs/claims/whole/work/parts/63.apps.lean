/-! Append between the two programs, the reference's side: its parts. -/
theorem ab_fl_eq {nx nx' : Nat → Int32} : ∀ (F : List Nat) (x : Int32), ab_fl nx x F → (∀ o, o ∈ F → nx' o = nx o) → ab_fl nx' x F
  | [], _, h, _ => h
  | o :: F, _, h, g => ⟨h.1, h.2.1, by
      rw [g o List.mem_cons_self]
      exact ab_fl_eq F _ h.2.2 (fun y hy => g y (List.mem_cons_of_mem _ hy))⟩
theorem rq_oth {s s' : mo_S} {q t o : Nat} {kind stripe due req : Int32} {rq E : Option Nat} {r : Option Int64} {p : Int64} {l : Option Int64} (h : rq_eff s s' q t o kind stripe due req rq E r p l) {g i w : Nat} (h2 : g ≠ 2) (h5 : g ≠ 5) (h7 : g ≠ 7) (h0 : g = 0 → w ≠ 8) : vn s' g i w = vn s g i w := by
  rw [h.2.1, if_neg (by omega), if_neg (by omega), if_neg (by omega), if_neg (by omega), if_neg (by omega), if_neg (by omega), if_neg (by omega), if_neg (by omega), if_neg (by omega), if_neg (by omega), if_neg (by omega), if_neg (by omega), if_neg (by omega), if_neg (by omega), if_neg (by omega), if_neg (by omega)]
/-- the words of another operation -/
theorem rq_op {s s' : mo_S} {q t o : Nat} {kind stripe due req : Int32} {rq E : Option Nat} {r : Option Int64} {p : Int64} {l : Option Int64} (h : rq_eff s s' q t o kind stripe due req rq E r p l) {i w : Nat} (hi : i ≠ o) (hw : w = 5 → some i ≠ E) : vn s' 7 i w = vn s 7 i w := by
  have k : ¬ (7 = 7 ∧ some i = E ∧ w = 5) := fun x => hw x.2.2 x.2.1
  rw [h.2.1, if_neg (by omega), if_neg (by omega), if_neg (by omega), if_neg (by omega), if_neg k, if_neg (by omega), if_neg (by omega), if_neg (by omega), if_neg (by omega), if_neg (by omega), if_neg (by omega), if_neg (by omega), if_neg (by omega), if_neg (by omega), if_neg (by omega), if_neg (by omega)]
theorem rq_q {s s' : mo_S} {q t o : Nat} {kind stripe due req : Int32} {rq E : Option Nat} {r : Option Int64} {p : Int64} {l : Option Int64} (h : rq_eff s s' q t o kind stripe due req rq E r p l) {i w : Nat} (hi : i ≠ q) : vn s' 2 i w = vn s 2 i w := by
  rw [h.2.1, if_neg (by omega), if_neg (by omega), if_neg (by omega), if_neg (by omega), if_neg (by omega), if_neg (by omega), if_neg (by omega), if_neg (by omega), if_neg (by omega), if_neg (by omega), if_neg (by omega), if_neg (by omega), if_neg (by omega), if_neg (by omega), if_neg (by omega), if_neg (by omega)]
theorem rq_t {s s' : mo_S} {q t o : Nat} {kind stripe due req : Int32} {rq E : Option Nat} {r : Option Int64} {p : Int64} {l : Option Int64} (h : rq_eff s s' q t o kind stripe due req rq E r p l) {i w : Nat} (hi : i ≠ o) : vt s' i w = vt s i w := by
  rw [h.2.2.1, if_neg (by omega), if_neg (by omega), if_neg (by omega)]
theorem rq_tq {s s' : mo_S} {q t o : Nat} {kind stripe due req : Int32} {rq E : Option Nat} {r : Option Int64} {p : Int64} {l : Option Int64} (h : rq_eff s s' q t o kind stripe due req rq E r p l) {i w : Nat} (hi : i ≠ q) : vq s' i w = vq s i w := by
  rw [h.2.2.2, if_neg (by omega), if_neg (by omega), if_neg (by omega)]
theorem ab_ch_W {nx : Nat → Int32} {f f' : Nat → Nat} : ∀ (l : List ab_O), ab_ch nx f l → (∀ a, a ∈ l → f' a.1 = f a.1) → ab_ch nx f' l
  | [], _, _ => trivial
  | [_], _, _ => trivial
  | a :: b :: l, h, g => ⟨by rw [g a List.mem_cons_self, g b (List.mem_cons_of_mem _ List.mem_cons_self)]; exact h.1, ab_ch_W (b :: l) h.2 (fun x hx => g x (List.mem_cons_of_mem _ hx))⟩
/-- another queue is as it was -/
theorem rq_Rq {s s' : mo_S} {A A' : ab_S} {W W' : Nat → Nat} {q t o q' : Nat} {kind stripe due req : Int32} {rq E : Option Nat} {r : Option Int64} {p : Int64} {l : Option Int64} (h : rq_eff s s' q t o kind stripe due req rq E r p l) (hq : q' ≠ q) (hA : A'.2.1 q' = A.2.1 q') (hT : ∀ w, A'.2.2.1 q' w = A.2.2.1 q' w) (hW : ∀ a, a ∈ A.2.1 q' → W' a.1 = W a.1) (ho : ∀ a, a ∈ A.2.1 q' → W a.1 ≠ o) (hE : ∀ a, a ∈ A.2.1 q' → some (W a.1) ≠ E) (H : ab_Rq A s W q') : ab_Rq A' s' W' q' := by
  obtain ⟨h1, h2, h3, h4, h5⟩ := H
  refine ⟨?_, ?_, ?_, ?_, ?_⟩
  · rw [hA, rq_q h hq]
    exact h1
  · rw [hA]
    cases hl : A.2.1 q' with
    | nil =>
      rw [hl] at h2
      exact ⟨(rq_q h hq).trans h2.1, (rq_q h hq).trans h2.2⟩
    | cons a l' =>
      rw [hl] at h2
      have m : (a :: l').getLast (List.cons_ne_nil a l') ∈ A.2.1 q' := by rw [hl]; exact List.getLast_mem _
      have ma : a ∈ A.2.1 q' := by rw [hl]; exact List.mem_cons_self
      refine ⟨?_, ?_, ?_⟩
      · rw [rq_q h hq, hW a ma]
        exact h2.1
      · rw [rq_q h hq, hW _ m]
        exact h2.2.1
      · rw [hW _ m, rq_op h (ho _ m) (fun _ => hE _ m)]
        exact h2.2.2
  · rw [hA]
    refine ab_ch_W _ (ab_ch_eq _ h3 (fun a ha => rq_op h (ho a ha) (fun _ => hE a ha))) hW
  · intro a ha
    rw [hA] at ha
    obtain ⟨g1, g2, g3, g4, g5⟩ := h4 a ha
    rw [hW a ha, rq_op h (ho a ha) (fun z => absurd z (by decide)), rq_op h (ho a ha) (fun z => absurd z (by decide)), rq_t h (ho a ha), rq_t h (ho a ha), rq_t h (ho a ha)]
    exact ⟨g1, g2, g3, g4, g5⟩
  · intro w hw
    rw [hT, rq_q h hq, rq_tq h hq]
    exact h5 w hw
/-- the queue itself -/
theorem rq_own {s s' : mo_S} {A A' : ab_S} {W W' : Nat → Nat} {q t o c : Nat} {kind stripe due req : Int32} {rq E : Option Nat} {r : Option Int64} {p : Int64} {l : Option Int64} (h : rq_eff s s' q t o kind stripe due req rq E r p l) (hE : E = (A.2.1 q).getLast?.map (fun a => W a.1)) (hA : A'.2.1 q = A.2.1 q ++ [(c, due, r, p, l.getD 0)]) (h0 : A'.2.2.1 q 0 = if r.isSome = true then r else A.2.2.1 q 0) (hp : A'.2.2.1 q 1 = some p) (hl : A'.2.2.1 q 2 = if l.isSome = true then l else A.2.2.1 q 2) (hc : W' c = o) (hW : ∀ a, a ∈ A.2.1 q → W' a.1 = W a.1) (ho : ∀ a, a ∈ A.2.1 q → W a.1 ≠ o) (hn : ((A.2.1 q).map (fun a => W a.1)).Nodup) (H : ab_Rq A s W q) : ab_Rq A' s' W' q := by
  obtain ⟨h1, h2, h3, h4, h5⟩ := H
  have hoE : some o ≠ E := by
    rw [hE]
    cases hl : (A.2.1 q).getLast? with
    | none => exact fun z => by cases z
    | some x => exact fun z => ho x (List.mem_of_getLast? hl) (Option.some.inj z).symm
  have o5 : vn s' 7 o 5 = -1 := by
    have k : ¬ (7 = 7 ∧ some o = E ∧ 5 = 5) := fun x => hoE x.2.1
    rw [h.2.1, if_neg (by omega), if_neg (by omega), if_neg (by omega), if_neg (by omega), if_neg k, if_neg (by omega), if_neg (by omega), if_neg (by omega), if_neg (by omega), if_pos ⟨rfl, rfl, rfl⟩]
  refine ⟨?_, ?_, ?_, ?_, ?_⟩
  · rw [h.2.1, if_neg (by omega), if_pos ⟨rfl, rfl, rfl⟩, h1, hA, List.length_append, nI_1]
    rfl
  · have q1 : vn s' 2 q 1 = nI o := by
      rw [h.2.1, if_neg (by omega), if_neg (by omega), if_pos ⟨rfl, rfl, rfl⟩]
    cases hQ : A'.2.1 q with
    | nil => rw [hQ] at hA; exact absurd hA.symm (List.append_ne_nil_of_right_ne_nil _ (List.cons_ne_nil _ _))
    | cons a l' =>
      rw [hQ] at hA
      have eb : (a :: l').getLast (List.cons_ne_nil a l') = (c, due, r, p, l.getD 0) := by
        have : (a :: l').getLast? = some (c, due, r, p, l.getD 0) := by
          rw [hA]
          exact List.getLast?_concat
        rw [List.getLast?_eq_some_getLast (List.cons_ne_nil a l')] at this
        exact Option.some.inj this
      show vn s' 2 q 0 = nI (W' a.1) ∧ vn s' 2 q 1 = nI (W' ((a :: l').getLast (List.cons_ne_nil a l')).1) ∧ vn s' 7 (W' ((a :: l').getLast (List.cons_ne_nil a l')).1) 5 = -1
      rw [eb]
      refine ⟨?_, by rw [q1, hc], by rw [hc]; exact o5⟩
      cases hq0 : A.2.1 q with
      | nil =>
        rw [hq0] at hA
        have ea : a = (c, due, r, p, l.getD 0) := (List.cons.inj hA).1
        have eE : E = none := by rw [hE, hq0]; rfl
        rw [h.2.1, if_neg (by omega), if_neg (by omega), if_neg (by omega), if_pos ⟨rfl, rfl, rfl, eE⟩, ea, hc]
      | cons a0 l0 =>
        rw [hq0] at hA h2
        have ea : a = a0 := (List.cons.inj hA).1
        have eE : E ≠ none := by
          rw [hE, hq0, List.getLast?_eq_some_getLast (List.cons_ne_nil a0 l0)]
          exact fun z => by cases z
        have k : ¬ (2 = 2 ∧ q = q ∧ 0 = 0 ∧ E = none) := fun x => eE x.2.2.2
        rw [h.2.1, if_neg (by omega), if_neg (by omega), if_neg (by omega), if_neg k, if_neg (by omega), if_neg (by omega), if_neg (by omega), if_neg (by omega), if_neg (by omega), if_neg (by omega), if_neg (by omega), if_neg (by omega), if_neg (by omega), if_neg (by omega), if_neg (by omega), if_neg (by omega), ea, hW a0 (by rw [hq0]; exact List.mem_cons_self)]
        exact h2.1
  · rw [hA]
    have hx : ∀ a, a ∈ A.2.1 q ++ [(c, due, r, p, l.getD 0)] → W' a.1 = (fun y => if y = c then o else W y) a.1 ∨ True := fun _ _ => .inr trivial
    refine ab_ch_app _ (ab_ch_W _ h3 hW) ?_ ?_ ?_
    · intro a ha x hx hax
      rw [hW a ha, hW x (List.mem_of_getLast? hx)] at hax
      show vn s' 7 (W' a.1) 5 = vn s 7 (W' a.1) 5
      rw [hW a ha]
      refine rq_op h (ho a ha) (fun _ z => ?_)
      rw [hE, hx] at z
      exact hax (Option.some.inj z)
    · intro x hx
      show vn s' 7 (W' x.1) 5 = nI (W' c)
      have k : some (W x.1) = E := by rw [hE, hx]; rfl
      rw [hW x (List.mem_of_getLast? hx), hc, h.2.1, if_neg (by omega), if_neg (by omega), if_neg (by omega), if_neg (by omega), if_pos ⟨rfl, k, rfl⟩]
    · rw [List.map_congr_left hW]
      exact hn
  · intro a ha
    rw [hA] at ha
    rcases List.mem_append.mp ha with ha | ha
    · obtain ⟨g1, g2, g3, g4, g5⟩ := h4 a ha
      rw [hW a ha, rq_op h (ho a ha) (fun z => absurd z (by decide)), rq_op h (ho a ha) (fun z => absurd z (by decide)), rq_t h (ho a ha), rq_t h (ho a ha), rq_t h (ho a ha)]
      exact ⟨g1, g2, g3, g4, g5⟩
    · have : a = (c, due, r, p, l.getD 0) := List.mem_singleton.mp ha
      subst this
      show vn s' 7 (W' c) 3 = due ∧ vn s' 7 (W' c) 6 = (if r.isSome = true then 1 else 0) ∧ vt s' (W' c) 0 = r.getD 0 ∧ vt s' (W' c) 1 = p ∧ vt s' (W' c) 2 = l.getD 0
      rw [hc]
      refine ⟨?_, ?_, ?_, ?_, ?_⟩
      · rw [h.2.1, if_neg (by omega), if_neg (by omega), if_neg (by omega), if_neg (by omega), if_neg (by omega), if_neg (by omega), if_neg (by omega), if_neg (by omega), if_neg (by omega), if_neg (by omega), if_neg (by omega), if_pos ⟨rfl, rfl, rfl⟩]
      · rw [h.2.1, if_neg (by omega), if_neg (by omega), if_neg (by omega), if_neg (by omega), if_neg (by omega), if_pos ⟨rfl, rfl, rfl⟩]
      · rw [h.2.2.1, if_pos ⟨rfl, rfl⟩]
      · rw [h.2.2.1, if_neg (by omega), if_pos ⟨rfl, rfl⟩]
      · rw [h.2.2.1, if_neg (by omega), if_neg (by omega), if_pos ⟨rfl, rfl⟩]
  · have f3 : vn s' 2 q 3 = if r.isSome = true then 1 else vn s 2 q 3 := by
      rw [h.2.1, if_neg (by omega), if_neg (by omega), if_neg (by omega), if_neg (by omega), if_neg (by omega), if_neg (by omega)]
      by_cases z : r.isSome = true
      · rw [if_pos ⟨rfl, rfl, rfl, z⟩, if_pos z]
      · rw [if_neg (fun x => z x.2.2.2), if_neg (by omega), if_neg (by omega), if_neg (by omega), if_neg (by omega), if_neg (by omega), if_neg (by omega), if_neg (by omega), if_neg (by omega), if_neg (by omega), if_neg z]
    have f4 : vn s' 2 q 4 = 1 := by
      rw [h.2.1, if_neg (by omega), if_neg (by omega), if_neg (by omega), if_neg (by omega), if_neg (by omega), if_neg (by omega), if_neg (by omega), if_pos ⟨rfl, rfl, rfl⟩]
    have f5 : vn s' 2 q 5 = if l.isSome = true then 1 else vn s 2 q 5 := by
      rw [h.2.1, if_neg (by omega), if_neg (by omega), if_neg (by omega), if_neg (by omega), if_neg (by omega), if_neg (by omega), if_neg (by omega), if_neg (by omega)]
      by_cases z : l.isSome = true
      · rw [if_pos ⟨rfl, rfl, rfl, z⟩, if_pos z]
      · rw [if_neg (fun x => z x.2.2.2), if_neg (by omega), if_neg (by omega), if_neg (by omega), if_neg (by omega), if_neg (by omega), if_neg (by omega), if_neg (by omega), if_neg z]
    have g0 : vq s' q 0 = if r.isSome = true then r.getD 0 else vq s q 0 := by
      rw [h.2.2.2]
      by_cases z : r.isSome = true
      · rw [if_pos ⟨rfl, rfl, z⟩, if_pos z]
      · rw [if_neg (fun x => z x.2.2), if_neg (by omega), if_neg (by omega), if_neg z]
    have g1 : vq s' q 1 = p := by
      rw [h.2.2.2, if_neg (by omega), if_pos ⟨rfl, rfl⟩]
    have g2 : vq s' q 2 = if l.isSome = true then l.getD 0 else vq s q 2 := by
      rw [h.2.2.2, if_neg (by omega), if_neg (by omega)]
      by_cases z : l.isSome = true
      · rw [if_pos ⟨rfl, rfl, z⟩, if_pos z]
      · rw [if_neg (fun x => z x.2.2), if_neg z]
    intro w hw
    have f := h5 w hw
    have cw : w = 0 ∨ w = 1 ∨ w = 2 := by omega
    rcases cw with e | e | e <;> subst e
    · rw [h0, g0]
      show vn s' 2 q 3 = _ ∧ _
      rw [f3]
      cases r with
      | none => exact f
      | some y => exact ⟨rfl, fun x hx => Option.some.inj hx⟩
    · rw [hp, g1]
      exact ⟨f4, fun x hx => Option.some.inj hx⟩
    · rw [hl, g2]
      show vn s' 2 q 5 = _ ∧ _
      rw [f5]
      cases l with
      | none => exact f
      | some y => exact ⟨rfl, fun x hx => Option.some.inj hx⟩
