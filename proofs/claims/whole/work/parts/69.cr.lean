/-! A reservation's part is given back, on the model; the program's side. -/
def ab_sub (st : Int64) (a : ab_O) : ab_O := (a.1, a.2.1, a.2.2.1.map (fun y => y - st), a.2.2.2.1, a.2.2.2.2)
def ab_cr (A : ab_S) (q : Nat) (st : Int64) : ab_S := ab_t (ab_q A q ((A.2.1 q).map (ab_sub st))) q 0 ((A.2.2.1 q 0).map (fun y => y - st))
theorem ab_ch_map {nx : Nat → Int32} {f : Nat → Nat} {st : Int64} : ∀ (l : List ab_O), ab_ch nx f l → ab_ch nx f (l.map (ab_sub st))
  | [], _ => trivial
  | [_], _ => trivial
  | _ :: b :: l, h => ⟨h.1, ab_ch_map (b :: l) h.2⟩
theorem ab_any_mem {l : List ab_O} {a : ab_O} (h : a ∈ l) (hn : (l.map (fun a => a.1)).Nodup) : ab_any l a.1 = a.2.2.1.isSome := by
  induction l with
  | nil => cases h
  | cons b l ih =>
    have nd := List.nodup_cons.mp hn
    rw [ab_any_cons]
    rcases List.mem_cons.mp h with e | e
    · subst e
      rw [ab_any_no (fun x hx c => nd.1 (List.mem_map.mpr ⟨x, hx, c⟩))]
      simp
    · have : ¬ b.1 = a.1 := fun c => nd.1 (List.mem_map.mpr ⟨a, e, c.symm⟩)
      rw [ih e nd.2, decide_eq_false this]
      simp
theorem ab_C_cr {S : Nat} {A : ab_S} {s : cs_S} {q : Nat} {R : Int32} (hq : q < 42) (hR : ¬ R ≤ 0) (hU : ab_U A) (hT : ∀ a, a ∈ A.2.1 q → a.2.2.1 ≠ some ab_no) (hT' : A.2.2.1 q 0 ≠ some ab_no) (H : ab_C S A s) : ∃ s', f_X3_credit s (nI q) R = some s' ∧ ab_C S (ab_cr A q (1000000 / R).toInt64) s' := by
  obtain ⟨U1, U2, U3, U4, U5, U6, U7⟩ := hU
  obtain ⟨H1, H2, H3, H4, H5, H6, H7⟩ := H
  have Q := H3 q hq
  have R0 := i32_npos hR
  obtain ⟨s', e1, e2, e3, e4⟩ := cr_loop (q := q) (l2 := R) (st := 1000000 / R) hq (A.2.1 q) s pm_fu (s.2.1 2 q) (by have := U4 q hq; unfold pm_fu; omega) (U4 q hq) (fun a t h => (Q.2.1 a t h).1) Q.2.2.1 (fun a ha => ⟨U3 q a hq ha, (Q.2.2.2.1 a ha).2.1, hT a ha⟩) (U2 q hq)
  refine ⟨s', ?_, by rw [e2]; exact H1, by rw [e2]; exact H2, ?_, ?_, ?_, ?_, ?_⟩
  · simp (disch := omega) only [f_X3_credit, if_neg hR, if_neg R0.2, nb_nI, nI_clamp, Q.1]
    exact e1
  · intro q' hq'
    by_cases z : q' = q
    · subst z
      obtain ⟨h1, h2, h3, h4, h5, h6, h7⟩ := Q
      have eA : (ab_cr A q' (1000000 / R).toInt64).2.1 q' = (A.2.1 q').map (ab_sub (1000000 / R).toInt64) := if_pos rfl
      unfold ab_Cq
      rw [eA, e3]
      refine ⟨by rw [List.length_map]; exact h1, ?_, ab_ch_map _ h3, ?_, ?_, ?_, ?_⟩
      · intro b l' hb
        cases hl : A.2.1 q' with
        | nil => rw [hl] at hb; cases hb
        | cons a l =>
          rw [hl, List.map_cons] at hb
          have k := h2 a l hl
          obtain ⟨hb1, hb2⟩ := List.cons.inj hb
          refine ⟨by rw [k.1, ← hb1]; rfl, ?_⟩
          have g : (b :: l').getLast? = some (ab_sub (1000000 / R).toInt64 ((a :: l).getLast (List.cons_ne_nil a l))) := by
            rw [← hb1, ← hb2, ← List.map_cons, List.getLast?_map, List.getLast?_eq_some_getLast (List.cons_ne_nil a l)]
            rfl
          rw [List.getLast?_eq_some_getLast (List.cons_ne_nil b l')] at g
          rw [Option.some.inj g, k.2]
          rfl
      · intro x hx
        obtain ⟨a, ha, hax⟩ := List.mem_map.mp hx
        subst hax
        obtain ⟨g1, g2, g3, g4⟩ := h4 a ha
        have anyq := ab_any_mem ha (U2 q' hq)
        refine ⟨g1, ?_, ?_, ?_⟩
        · show s'.2.2 8 a.1 = (a.2.2.1.map (fun y => y - (1000000 / R).toInt64)).getD ab_no
          rw [e4, if_neg (by omega), anyq]
          cases hr : a.2.2.1 with
          | none => rw [hr] at g2; simpa using g2
          | some y => rw [hr] at g2; simp [g2]
        · show s'.2.2 9 a.1 = a.2.2.2.1
          rw [e4, if_neg (by omega), if_neg (by omega)]
          exact g3
        · show s'.2.2 10 a.1 = a.2.2.2.2
          rw [e4, if_neg (by omega), if_neg (by omega)]
          exact g4
      · have e0 : (ab_cr A q' (1000000 / R).toInt64).2.2.1 q' 0 = (A.2.2.1 q' 0).map (fun y => y - (1000000 / R).toInt64) := if_pos ⟨rfl, rfl⟩
        rw [e0, e4, if_pos ⟨rfl, rfl⟩, h5]
        cases hr : A.2.2.1 q' 0 with
        | none => simp
        | some y =>
          rw [hr] at hT'
          have : ¬ y = ab_no := fun c => hT' (by rw [c])
          simp [this]
      · have e0 : (ab_cr A q' (1000000 / R).toInt64).2.2.1 q' 1 = A.2.2.1 q' 1 := if_neg (by omega)
        rw [e0, e4, if_neg (by omega), if_neg (by omega)]
        exact h6
      · have e0 : (ab_cr A q' (1000000 / R).toInt64).2.2.1 q' 2 = A.2.2.1 q' 2 := if_neg (by omega)
        rw [e0, e4, if_neg (by omega), if_neg (by omega)]
        exact h7
    · have K := H3 q' hq'
      have eA : (ab_cr A q (1000000 / R).toInt64).2.1 q' = A.2.1 q' := if_neg z
      have eT : ∀ w, (ab_cr A q (1000000 / R).toInt64).2.2.1 q' w = A.2.2.1 q' w := fun w => if_neg (fun c => z c.1)
      unfold ab_Cq at K ⊢
      rw [eA, eT, eT, eT, e3]
      have lq : ∀ P, P ≠ 8 → s'.2.2 P q' = s.2.2 P q' := fun P h => by rw [e4, if_neg (by omega), if_neg (by omega)]
      rw [lq 5 (by decide), lq 6 (by decide), lq 7 (by decide)]
      refine ⟨K.1, K.2.1, K.2.2.1, fun x hx => ?_, K.2.2.2.2⟩
      obtain ⟨g1, g2, g3, g4⟩ := K.2.2.2.1 x hx
      have an : ab_any (A.2.1 q) x.1 = false := ab_any_no (fun a ha c => z (U1 q' q x a hq' hq hx ha c.symm))
      refine ⟨g1, ?_, ?_, ?_⟩
      · rw [e4, if_neg (by omega), an]
        simpa using g2
      · rw [e4, if_neg (by omega), if_neg (by omega)]
        exact g3
      · rw [e4, if_neg (by omega), if_neg (by omega)]
        exact g4
  · intro d hd
    have := H4 d hd
    unfold ab_Cd at this ⊢
    rw [e3]
    exact this
  · intro t ht
    have := H5 t ht
    unfold ab_Ct at this ⊢
    rw [e3]
    exact this
  · intro r hr hr'
    have := H6 r hr hr'
    unfold ab_Cr at this ⊢
    rw [e3]
    exact this
  · intro k hk
    have := H7 k hk
    unfold ab_Ch at this ⊢
    rw [e3]
    exact this
