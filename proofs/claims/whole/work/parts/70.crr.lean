/-! A reservation's part is given back, on the model; the reference's side. -/
theorem ab_anyW_mem {W : Nat → Nat} {l : List ab_O} {a : ab_O} (h : a ∈ l) (hn : (l.map (fun a => W a.1)).Nodup) : ab_anyW W l (W a.1) = a.2.2.1.isSome := by
  induction l with
  | nil => cases h
  | cons b l ih =>
    have nd := List.nodup_cons.mp hn
    rw [ab_anyW_cons]
    rcases List.mem_cons.mp h with e | e
    · subst e
      rw [ab_anyW_no (fun x hx c => nd.1 (List.mem_map.mpr ⟨x, hx, c⟩))]
      simp
    · have : ¬ W b.1 = W a.1 := fun c => nd.1 (List.mem_map.mpr ⟨a, e, c.symm⟩)
      rw [ih e nd.2, decide_eq_false this]
      simp
theorem ab_R_cr {D : Nat} {A : ab_S} {s : mo_S} {W : Nat → Nat} {F : List Nat} {q t : Nat} {R : Int32} (hq : q < 42) (ht : t < 6) (hs : s.2.2.1 0 (8 + 3 * t) = R) (hR : ¬ R ≤ 0) (hU : ab_U A) (H : ab_R D A s W F) : ∃ s', f_X9_giveBack s (nI q) (nI t) = some s' ∧ rf_F s s' ∧ ab_R D (ab_cr A q (1000000 / R).toInt64) s' W F := by
  obtain ⟨R1, R2, R3, R4, R5, R6, R7, R8, R9, R10, R11, R12, R13, R14⟩ := H
  obtain ⟨U1, U2, U3, U4, U5, U6, U7⟩ := hU
  have L : ∀ q a, q < 42 → a ∈ A.2.1 q → ab_live A a.1 := fun q a h1 h2 => .inl ⟨q, h1, a, h2, rfl⟩
  have Q := R4 q hq
  have R0 := i32_npos hR
  have ndW : ((A.2.1 q).map (fun a => W a.1)).Nodup := ab_ndW (A.2.1 q) (U2 _ hq) (fun a b ha hb e => R11 _ _ (L _ _ hq ha) (L _ _ hq hb) e)
  obtain ⟨s', e1, e2, e3, e4, e5⟩ := gb_loop (q := q) (l2 := nI t) (st := (1000000 / R).toInt64) (W := W) (x := A.2.2.1 q 0) hq (A.2.1 q) s pm_fu (vn s 2 q 0) (by have := U4 q hq; unfold pm_fu; omega) (fun h => by have := Q.2.1; rw [h] at this; exact this.1) (fun a l h => by have := Q.2.1; rw [h] at this; exact this.1) Q.2.2.1 (fun a h => by
    have k := Q.2.1
    cases hl : A.2.1 q with
    | nil => rw [hl] at h; cases h
    | cons b l =>
      rw [hl] at k h
      rw [List.getLast?_eq_some_getLast (List.cons_ne_nil b l)] at h
      rw [← Option.some.inj h]
      exact k.2.2) (fun a ha => ⟨(R10 _ (L _ _ hq ha)).1, (Q.2.2.2.1 a ha).2.1⟩) ndW (Q.2.2.2.2 0 (by decide)).1
  have nxe : (fun o => vn s' 7 o 5) = (fun o => vn s 7 o 5) := by
    funext o
    exact e3 7 o 5
  have lv : ∀ y, ab_live (ab_cr A q (1000000 / R).toInt64) y → ab_live A y := by
    intro y h
    rcases h with ⟨q', hq', x, hx, hy⟩ | h
    · by_cases z : q' = q
      · subst z
        rw [show (ab_cr A q' (1000000 / R).toInt64).2.1 q' = (A.2.1 q').map (ab_sub (1000000 / R).toInt64) from if_pos rfl] at hx
        obtain ⟨a, ha, hax⟩ := List.mem_map.mp hx
        subst hax
        exact .inl ⟨q', hq', a, ha, hy⟩
      · rw [show (ab_cr A q (1000000 / R).toInt64).2.1 q' = A.2.1 q' from if_neg z] at hx
        exact .inl ⟨q', hq', x, hx, hy⟩
    · exact .inr h
  refine ⟨s', ?_, e2, fun w hw => by rw [e3]; exact R1 w hw, by rw [e3]; exact R2, by rw [e3]; exact R3, ?_, fun d hd => by rw [e3, e3, e3, e3]; exact R5 d hd, fun d k h1 h2 => by rw [e3]; exact R6 d k h1 h2, fun k h1 => by rw [e3]; exact R7 k h1, fun r w h1 h2 h3 => by rw [e3]; exact R8 r w h1 h2 h3, fun t w h1 h2 => by rw [e3]; exact R9 t w h1 h2, fun y hy => ?_, fun y z hy hz => R11 y z (lv y hy) (lv z hz), ?_, R13, fun y hy => R14 y (lv y hy)⟩
  · have hp : f_X9_part s (nI t) 0 = some ((1000000 / R).toInt64) := by
      simp only [f_X9_part, shareOf_0 s ht, Nat.add_zero, hs, if_neg (sh_ne0 R0.2), ab_d64 R0.1]
    simp only [f_X9_giveBack, shareOf_0 s ht, Nat.add_zero, hs, if_neg R0.2, hp, ofQueue_0 s hq]
    exact e1
  · intro q' hq'
    by_cases z : q' = q
    · subst z
      obtain ⟨h1, h2, h3, h4, h5⟩ := Q
      unfold ab_Rq
      rw [show (ab_cr A q' (1000000 / R).toInt64).2.1 q' = (A.2.1 q').map (ab_sub (1000000 / R).toInt64) from if_pos rfl, nxe]
      refine ⟨by rw [e3, List.length_map]; exact h1, ?_, ab_ch_map _ h3, ?_, ?_⟩
      · cases hl : A.2.1 q' with
        | nil =>
          rw [hl] at h2
          rw [List.map_nil]
          exact ⟨(e3 _ _ _).trans h2.1, (e3 _ _ _).trans h2.2⟩
        | cons a l =>
          rw [hl] at h2
          have g : (ab_sub (1000000 / R).toInt64 a :: l.map (ab_sub (1000000 / R).toInt64)).getLast (List.cons_ne_nil _ _) = ab_sub (1000000 / R).toInt64 ((a :: l).getLast (List.cons_ne_nil a l)) := by
            have k : (ab_sub (1000000 / R).toInt64 a :: l.map (ab_sub (1000000 / R).toInt64)).getLast? = some (ab_sub (1000000 / R).toInt64 ((a :: l).getLast (List.cons_ne_nil a l))) := by
              rw [← List.map_cons, List.getLast?_map, List.getLast?_eq_some_getLast (List.cons_ne_nil a l)]
              rfl
            rw [List.getLast?_eq_some_getLast (List.cons_ne_nil _ _)] at k
            exact Option.some.inj k
          show vn s' 2 q' 0 = _ ∧ vn s' 2 q' 1 = nI (W ((ab_sub (1000000 / R).toInt64 a :: l.map (ab_sub (1000000 / R).toInt64)).getLast (List.cons_ne_nil _ _)).1) ∧ vn s' 7 (W ((ab_sub (1000000 / R).toInt64 a :: l.map (ab_sub (1000000 / R).toInt64)).getLast (List.cons_ne_nil _ _)).1) 5 = -1
          rw [g, e3, e3, e3]
          exact h2
      · intro x hx
        obtain ⟨a, ha, hax⟩ := List.mem_map.mp hx
        subst hax
        obtain ⟨g1, g2, g3, g4, g5⟩ := h4 a ha
        have an := ab_anyW_mem (W := W) ha ndW
        show vn s' 7 (W a.1) 3 = a.2.1 ∧ vn s' 7 (W a.1) 6 = (if (a.2.2.1.map (fun y => y - (1000000 / R).toInt64)).isSome = true then 1 else 0) ∧ vt s' (W a.1) 0 = (a.2.2.1.map (fun y => y - (1000000 / R).toInt64)).getD 0 ∧ vt s' (W a.1) 1 = a.2.2.2.1 ∧ vt s' (W a.1) 2 = a.2.2.2.2
        rw [e3, e3, e4, e4, e4, an]
        cases hr : a.2.2.1 with
        | none =>
          rw [hr] at g2 g3
          exact ⟨g1, g2, by simpa using g3, by simpa using g4, by simpa using g5⟩
        | some y =>
          rw [hr] at g2 g3
          exact ⟨g1, g2, by simpa using g3, by simpa using g4, by simpa using g5⟩
      · intro w hw
        have f := h5 w hw
        rw [e3, e5]
        by_cases u : w = 0
        · subst u
          rw [show (ab_cr A q' (1000000 / R).toInt64).2.2.1 q' 0 = (A.2.2.1 q' 0).map (fun y => y - (1000000 / R).toInt64) from if_pos ⟨rfl, rfl⟩]
          cases hr : A.2.2.1 q' 0 with
          | none =>
            rw [hr] at f
            exact ⟨f.1, fun x hx => by cases hx⟩
          | some y =>
            rw [hr] at f
            refine ⟨f.1, fun x hx => ?_⟩
            rw [if_pos ⟨rfl, rfl, rfl⟩, f.2 y rfl]
            exact Option.some.inj hx
        · have u' : ¬ (q' = q' ∧ w = 0 ∧ (A.2.2.1 q' 0).isSome = true) := fun c => u c.2.1
          rw [show (ab_cr A q' (1000000 / R).toInt64).2.2.1 q' w = A.2.2.1 q' w from if_neg (fun c => u c.2), if_neg u']
          exact f
    · have K := R4 q' hq'
      unfold ab_Rq at K ⊢
      rw [show (ab_cr A q (1000000 / R).toInt64).2.1 q' = A.2.1 q' from if_neg z, nxe]
      have an : ∀ x, x ∈ A.2.1 q' → ab_anyW W (A.2.1 q) (W x.1) = false := fun x hx => ab_anyW_no (fun a ha c => z (U1 q' q x a hq' hq hx ha (R11 _ _ (L _ _ hq' hx) (L _ _ hq ha) c.symm)))
      refine ⟨by rw [e3]; exact K.1, ?_, K.2.2.1, fun x hx => ?_, fun w hw => ?_⟩
      · simp only [e3]
        exact K.2.1
      · rw [e3, e3, e4, e4, e4, an x hx]
        simpa using K.2.2.2.1 x hx
      · have u' : ¬ (q' = q ∧ w = 0 ∧ (A.2.2.1 q 0).isSome = true) := fun c => z c.1
        rw [e3, e5, if_neg u', show (ab_cr A q (1000000 / R).toInt64).2.2.1 q' w = A.2.2.1 q' w from if_neg (fun c => z c.1)]
        exact K.2.2.2.2 w hw
  · have := R10 y (lv y hy)
    unfold ab_Ro at this ⊢
    rw [e3, e3, e3, e3]
    exact this
  · rw [nxe, e3]
    exact R12
