/-! The best tenant for a disk, in both programs. -/
theorem lgc_ge (a b : Int64) : 0 ≤ lg_cmp a b ↔ ¬ a < b := by
  unfold lg_cmp
  by_cases h : a > b
  · rw [if_pos h]
    refine ⟨fun _ k => ?_, fun _ => by decide⟩
    have h1 := Int64.lt_iff_toInt_lt.mp h
    have h2 := Int64.lt_iff_toInt_lt.mp k
    omega
  · rw [if_neg h]
    by_cases e : a = b
    · rw [if_pos e, e]
      exact ⟨fun _ k => absurd (Int64.lt_iff_toInt_lt.mp k) (by omega), fun _ => by decide⟩
    · rw [if_neg e]
      refine ⟨fun k => absurd k (by decide), fun k => ?_⟩
      exfalso
      have h1 : ¬ b.toInt < a.toInt := fun x => h (Int64.lt_iff_toInt_lt.mpr x)
      have h2 : ¬ a.toInt < b.toInt := fun x => k (Int64.lt_iff_toInt_lt.mpr x)
      exact e (Int64.toInt_inj.mp (by omega))
theorem lgc_gt (a b : Int64) : 0 < lg_cmp a b ↔ b < a := by
  unfold lg_cmp
  by_cases h : a > b
  · rw [if_pos h]
    exact ⟨fun _ => h, fun _ => by decide⟩
  · rw [if_neg h]
    refine ⟨fun k => ?_, fun k => absurd k h⟩
    by_cases e : a = b
    · rw [if_pos e] at k
      exact absurd k (by decide)
    · rw [if_neg e] at k
      exact absurd k (by decide)
theorem lgc_eq (a b : Int64) : lg_cmp a b = 0 ↔ a = b := by
  unfold lg_cmp
  by_cases h : a > b
  · rw [if_pos h]
    refine ⟨fun k => absurd k (by decide), fun k => ?_⟩
    rw [k] at h
    exact absurd (Int64.lt_iff_toInt_lt.mp h) (by omega)
  · rw [if_neg h]
    by_cases e : a = b
    · rw [if_pos e]
      exact ⟨fun _ => e, fun _ => rfl⟩
    · rw [if_neg e]
      exact ⟨fun k => absurd k (by decide), fun k => absurd k e⟩
/-- the rank of a queue's first operation, if it takes part -/
def ab_rk (p : Nat → Int32) (x : Int32) (way : Nat) (a : ab_O) : Option Int64 :=
  if way = 0 then (if a.2.1 = -1 then none else if x + p 7 < a.2.1 then none else some a.2.1.toInt64)
  else if way = 1 then (match a.2.2.1 with | none => none | some y => if 1000 * x.toInt64 < y then none else some y)
  else if 1000 * x.toInt64 < a.2.2.2.2 then none else some a.2.2.2.1
def ab_cd (p : Nat → Int32) (A : ab_S) (d way t : Nat) : Option Int64 := match A.2.1 (6 * d + t) with
  | [] => none
  | a :: _ => ab_rk p (A.1 0 0 0) way a
def ab_be (c : Nat → Option Int64) : Nat → Option (Nat × Int64)
  | 0 => none
  | i + 1 => match c i with
    | none => ab_be c i
    | some r => match ab_be c i with
      | none => some (i, r)
      | some (b, l) => if r < l then some (i, r) else some (b, l)
def ab_bi (x : Option (Nat × Int64)) : Int32 := match x with | none => -1 | some (b, _) => nI b
def ab_far : Int64 := 1152921504606846976
theorem ab_be_c {c : Nat → Option Int64} : ∀ {i b l}, ab_be c i = some (b, l) → b < i ∧ c b = some l
  | 0, b, l, h => by cases h
  | i + 1, b, l, h => by
    unfold ab_be at h
    cases hc : c i with
    | none =>
      rw [hc] at h
      have := ab_be_c h
      exact ⟨by omega, this.2⟩
    | some r =>
      rw [hc] at h
      simp only [] at h
      cases hb : ab_be c i with
      | none =>
        rw [hb] at h
        have e := Option.some.inj h
        obtain ⟨rfl, rfl⟩ := Prod.mk.inj e
        exact ⟨by omega, hc⟩
      | some x =>
        obtain ⟨b', l'⟩ := x
        rw [hb] at h
        simp only [] at h
        split at h
        · have e := Option.some.inj h
          obtain ⟨rfl, rfl⟩ := Prod.mk.inj e
          exact ⟨by omega, hc⟩
        · have e := Option.some.inj h
          obtain ⟨rfl, rfl⟩ := Prod.mk.inj e
          have := ab_be_c hb
          exact ⟨by omega, this.2⟩
/-- the rank, the program's class -/
theorem ab_rk_C {p : Nat → Int32} {A : ab_S} {s : cs_S} {q way : Nat} {a : ab_O} {x : Int32} (hq : q < 42) (ha : a ∈ A.2.1 q) (hc : a.1 < 3248) (hw : way < 3) (hn : a.2.2.1 ≠ some ab_no) (H : ab_Cq A s q) : f_X3_rank s (nI a.1) (nI way) (p 7) x = some ((ab_rk p x way a).getD ab_far) := by
  obtain ⟨g1, g2, g3, g4⟩ := H.2.2.2.1 a ha
  have e0 : nI way = 0 ↔ way = 0 := nI_eq (b := 0) (by omega) (by decide)
  have e1 : nI way = 1 ↔ way = 1 := nI_eq (b := 1) (by omega) (by decide)
  unfold f_X3_rank f_X3_hasTagR ab_rk
  simp (disch := omega) only [nb_nI, nI_clamp, g1, g2, g3, g4, lgc_gt, lgc_eq]
  by_cases u0 : way = 0
  · rw [if_pos (e0.mpr u0), if_pos u0]
    split
    · rfl
    · split <;> rfl
  · rw [if_neg (fun h => u0 (e0.mp h)), if_neg u0]
    by_cases u1 : way = 1
    · rw [if_pos (e1.mpr u1), if_pos u1]
      cases hr : a.2.2.1 with
      | none =>
        simp only [Option.getD_none]
        rw [if_pos (show ab_no = -1152921504606846976 from rfl)]
        rfl
      | some y =>
        have ny : ¬ y = -1152921504606846976 := fun h => hn (by rw [hr, h]; rfl)
        simp only [Option.getD_some, if_neg ny, i32_10, if_false]
        split <;> rfl
    · rw [if_neg (fun h => u1 (e1.mp h)), if_neg u1]
      split <;> rfl
theorem ab_rk_far {p : Nat → Int32} {A : ab_S} {N q way : Nat} {a : ab_O} {x : Int32} {y : Int64} (hN : N ≤ 1000000000000) (hq : q < 42) (ha : a ∈ A.2.1 q) (H : ab_tb A N) (h : ab_rk p x way a = some y) : y < ab_far := by
  have T := (H q hq).1 a ha
  have lt : ∀ z, ab_bd N z → z < ab_far := fun z hz => by
    rw [Int64.lt_iff_toInt_lt, show ab_far.toInt = 1152921504606846976 by decide]
    unfold ab_bd at hz
    omega
  unfold ab_rk at h
  split at h
  · split at h
    · cases h
    · split at h
      · cases h
      · rw [← Option.some.inj h, Int64.lt_iff_toInt_lt, show ab_far.toInt = 1152921504606846976 by decide, Int32.toInt_toInt64]
        have := Int32.toInt_lt a.2.1
        omega
  · split at h
    · cases hr : a.2.2.1 with
      | none =>
        rw [hr] at h
        cases h
      | some z =>
        rw [hr] at h
        simp only [] at h
        split at h
        · cases h
        · rw [← Option.some.inj h]
          exact lt z (T.1 z hr)
    · split at h
      · cases h
      · rw [← Option.some.inj h]
        exact lt _ T.2.1
theorem ab_best_C {D S T m n N d way : Nat} {p : Nat → Int32} {A : ab_S} {s4 s : cs_S} {L : Nat → Bool} (hp : ab_pl p D S T) (hP : ab_P p s4) (hd : d < 7) (hw : way < 3) (hB : ab_B D S T m n N A L) (H : ab_C S A s) : f_X3_bestTenant s4 s (nI d) (nI way) (s.1 0 4) = some (ab_bi (ab_be (ab_cd p A d way) T)) := by
  have hT := hp.2.2.2.2.2.2.2.2.1
  have now := H.1.1
  unfold f_X3_bestTenant
  obtain ⟨e, h1, h2⟩ := lp_for (Q := fun e => e = ab_bi (ab_be (ab_cd p A d way) T)) (B := lb_X3_bestTenant_11 s4 s) T (fun i x => x = (nI d, nI way, s.1 0 4, ab_bi (ab_be (ab_cd p A d way) i), ((ab_be (ab_cd p A d way) i).map (fun y => y.2)).getD ab_far, nI i) ∧ (∀ y, ab_be (ab_cd p A d way) i = some y → y.2 < ab_far)) (by unfold pm_fu; omega) (by
    rintro i x hi ⟨rfl, hfar⟩
    have le : ¬ s4.1 0 7 ≤ nI i := by
      rw [hP.2.2.2.2.2.2.1, hp.2.2.1]
      exact fun k => absurd ((nI_leI (by omega) (by omega)).mp k) (by omega)
    have Q := H.2.2.1 (6 * d + i) (by omega)
    have U4 := hB.1.2.2.2.1 (6 * d + i) (by omega)
    unfold lb_X3_bestTenant_11
    simp (disch := omega) only [if_neg le, numberOf_w, nb_nI, nI_clamp, Q.1, nI_1, lgc_ge, hP.2.2.2.2.2.2.2.1]
    cases hl : A.2.1 (6 * d + i) with
    | nil =>
      have cn : ab_cd p A d way i = none := by unfold ab_cd; rw [hl]
      have be : ab_be (ab_cd p A d way) (i + 1) = ab_be (ab_cd p A d way) i := by
        show (match ab_cd p A d way i with | none => ab_be (ab_cd p A d way) i | some r => _) = _
        rw [cn]
      have nlt : ¬ (1152921504606846976 : Int64) < ((ab_be (ab_cd p A d way) i).map (fun y => y.2)).getD ab_far := by
        cases hb : ab_be (ab_cd p A d way) i with
        | none => exact fun h => absurd (Int64.lt_iff_toInt_lt.mp h) (by decide)
        | some y =>
          have := Int64.lt_iff_toInt_lt.mp (hfar y hb)
          exact fun h => absurd (Int64.lt_iff_toInt_lt.mp h) (by
            rw [show ab_far.toInt = 1152921504606846976 by decide] at this
            rw [show (1152921504606846976 : Int64).toInt = 1152921504606846976 by decide]
            show ¬ _ < y.2.toInt
            omega)
      have z : nI ([] : List ab_O).length = 0 := rfl
      simp only [z, if_true, if_pos nlt]
      exact ⟨_, rfl, by rw [be], by rw [be]; exact hfar⟩
    | cons a l =>
      have ma : a ∈ A.2.1 (6 * d + i) := by rw [hl]; exact List.mem_cons_self
      have ha := hB.1.2.2.1 _ a (by omega) ma
      have nz : ¬ nI (a :: l).length = 0 := by
        rw [hl] at U4
        exact nI_ne0 (by rw [List.length_cons]; omega) (by omega)
      have hd0 := (Q.2.1 a l hl).1
      have nt := hB.2.2.2.2.2.2.2.2.1.nt hB.2.2.2.2.2.2.2.2.2.2.2.2
      have rk := ab_rk_C (p := p) (x := A.1 0 0 0) (way := way) (show 6 * d + i < 42 by omega) ma ha hw ((nt _ (by omega)).1 a ma) Q
      have cn : ab_cd p A d way i = ab_rk p (A.1 0 0 0) way a := by unfold ab_cd; rw [hl]
      simp only [if_neg nz, hd0, now, rk]
      have bes : ab_be (ab_cd p A d way) (i + 1) = (match ab_cd p A d way i with | none => ab_be (ab_cd p A d way) i | some r => match ab_be (ab_cd p A d way) i with | none => some (i, r) | some (b, l) => if r < l then some (i, r) else some (b, l)) := rfl
      cases hk : ab_rk p (A.1 0 0 0) way a with
      | none =>
        have be : ab_be (ab_cd p A d way) (i + 1) = ab_be (ab_cd p A d way) i := by rw [bes, cn, hk]
        have nlt : ¬ (ab_far : Int64) < ((ab_be (ab_cd p A d way) i).map (fun y => y.2)).getD ab_far := by
          cases hb : ab_be (ab_cd p A d way) i with
          | none => exact fun h => absurd (Int64.lt_iff_toInt_lt.mp h) (by decide)
          | some y =>
            have := Int64.lt_iff_toInt_lt.mp (hfar y hb)
            exact fun h => absurd (Int64.lt_iff_toInt_lt.mp h) (by
              show ¬ _ < y.2.toInt
              omega)
        simp only [Option.getD_none, if_pos nlt]
        exact ⟨_, rfl, by rw [be], by rw [be]; exact hfar⟩
      | some r =>
        have rf := ab_rk_far hB.2.2.2.2.2.2.2.2.2.2.2.2 (show 6 * d + i < 42 by omega) ma hB.2.2.2.2.2.2.2.2.1 hk
        rw [cn, hk] at bes
        simp only [Option.getD_some]
        cases hb : ab_be (ab_cd p A d way) i with
        | none =>
          rw [hb] at bes
          simp only [Option.map_none, Option.getD_none, rf, not_true, if_false]
          refine ⟨_, rfl, by rw [bes]; rfl, fun y hy => ?_⟩
          rw [bes] at hy
          rw [← Option.some.inj hy]
          exact rf
        | some y =>
          obtain ⟨b, l'⟩ := y
          rw [hb] at bes
          simp only [Option.map_some, Option.getD_some]
          by_cases c : r < l'
          · simp only [c, not_true, if_false]
            simp only [if_pos c] at bes
            refine ⟨_, rfl, by rw [bes]; rfl, fun y hy => ?_⟩
            rw [bes] at hy
            rw [← Option.some.inj hy]
            exact rf
          · simp only [c, not_false_eq_true, if_true]
            simp only [if_neg c] at bes
            refine ⟨_, rfl, by rw [bes]; rfl, fun y hy => ?_⟩
            rw [bes] at hy
            rw [← Option.some.inj hy]
            exact hfar _ hb) (by
    rintro x ⟨rfl, _⟩
    unfold lb_X3_bestTenant_11
    simp only [hP.2.2.2.2.2.2.1, hp.2.2.1, Int32.le_refl, if_true]
    exact ⟨_, rfl, rfl⟩) (x := (nI d, nI way, s.1 0 4, -1, 1152921504606846976, 0)) ⟨rfl, fun y hy => by cases hy⟩
  rw [h1, h2]
/-- the rank, the reference -/
theorem ab_rk_R {D : Nat} {p : Nat → Int32} {A : ab_S} {s : mo_S} {W : Nat → Nat} {F : List Nat} {q way : Nat} {a : ab_O} (hs : s.2.2.1 0 = p) (hq : q < 42) (ha : a ∈ A.2.1 q) (hw : way < 3) (H : ab_R D A s W F) : f_X9_canChoose s (nI (W a.1)) (nI way) = some (if (ab_rk p (A.1 0 0 0) way a).isSome = true then 1 else 0) ∧ ∀ r, ab_rk p (A.1 0 0 0) way a = some r → f_X9_rank s (nI (W a.1)) (nI way) = some r := by
  have O := (H.2.2.2.2.2.2.2.2.2.1 a.1 (.inl ⟨q, hq, a, ha, rfl⟩)).1
  obtain ⟨g1, g2, g3, g4, g5⟩ := (H.2.2.2.1 q hq).2.2.2.1 a ha
  have now : s.2.2.1 3 0 = A.1 0 0 0 := H.1 0 (by decide)
  have e0 : nI way = 0 ↔ way = 0 := nI_eq (b := 0) (by omega) (by decide)
  have e1 : nI way = 1 ↔ way = 1 := nI_eq (b := 1) (by omega) (by decide)
  have z0 : (0 : Int32) &&& 1 = 0 := by decide
  have z1 : (1 : Int32) &&& 1 = 1 := by decide
  unfold f_X9_canChoose f_X9_rank f_X9_isPromoted f_X9_stamp ab_rk
  simp only [of_3 s O, of_6 s O, tagOf_0 s O, tagOf_1 s O, tagOf_2 s O, g1, g2, g3, g4, g5, nb_0_18186, nb_7_26, tc_0, tc_7, now, hs, lgc_gt]
  by_cases u0 : way = 0
  · simp only [if_pos (e0.mpr u0), if_pos u0]
    by_cases v : a.2.1 = -1
    · simp only [if_pos v, z0, if_true]
      exact ⟨rfl, fun r h => by cases h⟩
    · simp only [if_neg v]
      by_cases w : A.1 0 0 0 + p 7 < a.2.1
      · simp only [if_pos w, z0, if_true]
        exact ⟨rfl, fun r h => by cases h⟩
      · simp only [if_neg w, z1, if_true]
        exact ⟨rfl, fun r h => h⟩
  · simp only [if_neg (fun h => u0 (e0.mp h)), if_neg u0]
    by_cases u1 : way = 1
    · simp only [if_pos (e1.mpr u1), if_pos u1]
      cases hr : a.2.2.1 with
      | none => exact ⟨rfl, fun r h => by cases h⟩
      | some y =>
        simp only [Option.isSome_some, if_true, Option.getD_some]
        by_cases w : 1000 * (A.1 0 0 0).toInt64 < y
        · simp only [if_pos w]
          exact ⟨rfl, fun r h => by cases h⟩
        · simp only [if_neg w]
          exact ⟨rfl, fun r h => h⟩
    · simp only [if_neg (fun h => u1 (e1.mp h)), if_neg u1]
      by_cases w : 1000 * (A.1 0 0 0).toInt64 < a.2.2.2.2
      · simp only [if_pos w]
        exact ⟨rfl, fun r h => by cases h⟩
      · simp only [if_neg w]
        exact ⟨rfl, fun r h => h⟩
theorem ab_best_R {D S T d way : Nat} {p : Nat → Int32} {A : ab_S} {s : mo_S} {W : Nat → Nat} {F : List Nat} (hp : ab_pl p D S T) (hs : s.2.2.1 0 = p) (hd : d < 7) (hw : way < 3) (H : ab_R D A s W F) : f_X9_bestTenant s (nI d) (nI way) = some (ab_bi (ab_be (ab_cd p A d way) T)) := by
  have hT := hp.2.2.2.2.2.2.2.2.1
  unfold f_X9_bestTenant
  obtain ⟨e, h1, h2⟩ := lp_for (Q := fun e => e = ab_bi (ab_be (ab_cd p A d way) T)) (B := lb_X9_bestTenant_8 s) T (fun i x => x = (nI d, nI way, ab_bi (ab_be (ab_cd p A d way) i), ((ab_be (ab_cd p A d way) i).map (fun y => y.2)).getD 0, nI i)) (by unfold pm_fu; omega) (by
    rintro i x hi rfl
    have le : ¬ p 6 ≤ nI i := by
      rw [hp.2.2.1]
      exact fun k => absurd ((nI_leI (by omega) (by omega)).mp k) (by omega)
    have hq : 6 * d + i < 42 := by omega
    have Q := (H.2.2.2.1 (6 * d + i) hq).2.1
    have bes : ab_be (ab_cd p A d way) (i + 1) = (match ab_cd p A d way i with | none => ab_be (ab_cd p A d way) i | some r => match ab_be (ab_cd p A d way) i with | none => some (i, r) | some (b, l) => if r < l then some (i, r) else some (b, l)) := rfl
    unfold lb_X9_bestTenant_8
    simp only [nb_6_26, tc_6, hs, if_neg le, queueOf_w, ofQueue_0 s hq, nI_1, lgc_ge]
    cases hl : A.2.1 (6 * d + i) with
    | nil =>
      rw [hl] at Q
      have cn : ab_cd p A d way i = none := by unfold ab_cd; rw [hl]
      rw [cn] at bes
      simp only [Q.1, if_true]
      exact ⟨_, rfl, by rw [bes]⟩
    | cons a l =>
      rw [hl] at Q
      have ma : a ∈ A.2.1 (6 * d + i) := by rw [hl]; exact List.mem_cons_self
      have cn : ab_cd p A d way i = ab_rk p (A.1 0 0 0) way a := by unfold ab_cd; rw [hl]
      have O := (H.2.2.2.2.2.2.2.2.2.1 a.1 (.inl ⟨_, hq, a, ma, rfl⟩)).1
      have nW : ¬ nI (W a.1) = -1 := nI_nm (by omega)
      obtain ⟨k1, k2⟩ := ab_rk_R (p := p) (way := way) hs hq ma hw H
      simp only [Q.1, if_neg nW, k1]
      rw [cn] at bes
      cases hk : ab_rk p (A.1 0 0 0) way a with
      | none =>
        rw [hk] at bes
        simp only [Option.isSome_none, Bool.false_eq_true, if_false, if_true]
        exact ⟨_, rfl, by rw [bes]⟩
      | some r =>
        rw [hk] at bes
        simp only [Option.isSome_some, if_true, i32_10, if_false, k2 r hk]
        cases hb : ab_be (ab_cd p A d way) i with
        | none =>
          rw [hb] at bes
          simp only [ab_bi, if_true]
          exact ⟨_, rfl, by rw [bes]; rfl⟩
        | some y =>
          obtain ⟨b, l'⟩ := y
          have bl := (ab_be_c hb).1
          have nb : ¬ nI b = -1 := nI_nm (by omega)
          rw [hb] at bes
          simp only [ab_bi, Option.map_some, Option.getD_some]
          simp only [nb, if_false]
          by_cases c : r < l'
          · simp only [c, not_true, if_false]
            simp only [if_pos c] at bes
            exact ⟨_, rfl, by rw [bes]; rfl⟩
          · simp only [c, not_false_eq_true, if_true]
            simp only [if_neg c] at bes
            exact ⟨_, rfl, by rw [bes]; rfl⟩) (by
    rintro x rfl
    unfold lb_X9_bestTenant_8
    simp only [nb_6_26, tc_6, hs, hp.2.2.1, Int32.le_refl, if_true]
    exact ⟨_, rfl, rfl⟩) (x := (nI d, nI way, -1, 0, 0)) rfl
  rw [h1, h2]
