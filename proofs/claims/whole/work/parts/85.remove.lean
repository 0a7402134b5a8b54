/-! An operation leaves the middle of its queue, the program's side. -/
theorem ab_ch_cons {nx : Nat → Int32} {f : Nat → Nat} {x : ab_O} {m : List ab_O} : ab_ch nx f (x :: m) ↔ (∀ y m', m = y :: m' → nx (f x.1) = nI (f y.1)) ∧ ab_ch nx f m := by
  cases m with
  | nil => exact ⟨fun _ => ⟨(fun y m' h => by cases h), trivial⟩, fun _ => trivial⟩
  | cons y m => exact ⟨fun h => ⟨fun y' m' e => by rw [← (List.cons.inj e).1]; exact h.1, h.2⟩, fun h => ⟨h.1 y m rfl, h.2⟩⟩
theorem ab_ch_mid {nx : Nat → Int32} {f : Nat → Nat} {x y : ab_O} {lc : List ab_O} : ∀ la, ab_ch nx f (la ++ x :: y :: lc) → nx (f x.1) = nI (f y.1)
  | [], h => h.1
  | z :: la, h => ab_ch_mid la (ab_ch_cons.mp h).2
theorem ab_ch_del {nx nx' : Nat → Int32} {f : Nat → Nat} {b a : ab_O} {l2 : List ab_O} : ∀ l, ab_ch nx f (l ++ b :: a :: l2) → (∀ x, x ∈ l ++ l2 → nx' (f x.1) = nx (f x.1)) → nx' (f b.1) = nx (f a.1) → ab_ch nx' f (l ++ b :: l2)
  | [], h, g, k => by
    refine ab_ch_cons.mpr ⟨fun y m e => ?_, ?_⟩
    · subst e
      rw [k]
      exact h.2.1
    · exact ab_ch_eq _ (ab_ch_cons.mp h.2).2 g
  | z :: l, h, g, k => by
    have h' := ab_ch_cons.mp h
    refine ab_ch_cons.mpr ⟨fun y m e => ?_, ab_ch_del l h'.2 (fun x hx => g x (List.mem_cons_of_mem _ hx)) k⟩
    rw [g z List.mem_cons_self]
    cases l with
    | nil =>
      have ey : b = y := (List.cons.inj e).1
      exact ey ▸ h'.1 b (a :: l2) rfl
    | cons w l =>
      have ey : w = y := (List.cons.inj e).1
      exact ey ▸ h'.1 w (l ++ b :: a :: l2) rfl
/-- what stands before -/
def ab_bf (f : Nat → Nat) (la : List ab_O) : Int32 := match la.getLast? with | none => -1 | some b => nI (f b.1)
theorem ab_lastD {a : ab_O} {l1 l2 : List ab_O} (h : l1 ++ a :: l2 ≠ []) : (l1 ++ a :: l2).getLast h = (a :: l2).getLast (List.cons_ne_nil a l2) := List.getLast_append_right (List.cons_ne_nil a l2)
/-- unlink, the program's class -/
theorem ul_cls {s : cs_S} {A : ab_S} {q : Nat} {a : ab_O} {l1 l2 : List ab_O} (hq : q < 42) (hl : A.2.1 q = l1 ++ a :: l2) (hc : ∀ x, x ∈ A.2.1 q → x.1 < 3248) (hnd : ((A.2.1 q).map (fun a => a.1)).Nodup) (H : ab_Cq A s q) : ∃ s', f_X3_unlink s (nI q) (ab_bf id l1) (nI a.1) = some s' ∧ s'.1 = s.1 ∧ s'.2.2 = s.2.2 ∧ ∀ P k, s'.2.1 P k = if P = 4 ∧ k = q then nI (l1 ++ l2).length else if P = 3 ∧ k = q ∧ l2 = [] then ab_bf id l1 else if l1 = [] ∧ P = 2 ∧ k = q then s.2.1 12 a.1 else if P = 12 ∧ (∃ b, l1.getLast? = some b ∧ k = b.1) then s.2.1 12 a.1 else s.2.1 P k := by
  obtain ⟨h1, h2, h3, h4, h5⟩ := H
  have ma : a ∈ A.2.1 q := by rw [hl]; exact List.mem_append_right _ List.mem_cons_self
  have ha := hc a ma
  have hlen : s.2.1 4 q = nI ((l1 ++ l2).length + 1) := by
    rw [h1, hl]
    congr 1
    simp [List.length_append]
    omega
  have hlast : s.2.1 3 q = nI ((a :: l2).getLast (List.cons_ne_nil a l2)).1 := by
    cases hQ : A.2.1 q with
    | nil => rw [hQ] at ma; cases ma
    | cons x l =>
      have := (h2 x l hQ).2
      rw [this]
      congr 2
      rw [← ab_lastD (l1 := l1) (a := a) (l2 := l2) (by simp)]
      congr 1
      rw [← hQ, hl]
  have lastc : s.2.1 3 q = nI a.1 ↔ l2 = [] := by
    rw [hlast]
    cases l2 with
    | nil => exact ⟨fun _ => rfl, fun _ => rfl⟩
    | cons y l2 =>
      refine ⟨fun e => ?_, fun e => by cases e⟩
      have my : (a :: y :: l2).getLast (List.cons_ne_nil a (y :: l2)) ∈ y :: l2 := by
        rw [List.getLast_cons (List.cons_ne_nil y l2)]
        exact List.getLast_mem _
      have e' := (nI_eq (by have := hc _ (by rw [hl]; exact List.mem_append_right _ (List.mem_cons_of_mem _ my)); omega) (by omega)).mp e
      rw [hl, List.map_append, List.nodup_append, List.map_cons, List.nodup_cons] at hnd
      exact absurd (List.mem_map.mpr ⟨_, my, e'⟩) hnd.2.1.1
  unfold f_X3_unlink ab_bf
  cases hg : l1.getLast? with
  | none =>
    have e1 : l1 = [] := List.getLast?_eq_none_iff.mp hg
    subst e1
    have r3 : (cs_a s 2 (nI q) (s.2.1 12 a.1)).2.1 3 q = s.2.1 3 q := by rw [ca_2 (by omega), if_neg (by omega)]
    have r4 : (cs_a s 2 (nI q) (s.2.1 12 a.1)).2.1 4 q = nI (l2.length + 1) := by
      rw [ca_2 (by omega), if_neg (by omega), hlen]
      rfl
    have r4' : (cs_a (cs_a s 2 (nI q) (s.2.1 12 a.1)) 3 (nI q) (-1)).2.1 4 q = nI (l2.length + 1) := by rw [ca_2 (by omega), if_neg (by omega), r4]
    simp (disch := omega) only [if_true, nb_nI, nI_clamp, r3, fc_X3_unlink_c1, fc_X3_unlink_c2, r4, r4', nI_pred]
    by_cases u : l2 = []
    · rw [if_pos (lastc.mpr u)]
      refine ⟨_, rfl, rfl, rfl, fun P k => ?_⟩
      simp (disch := omega) only [ca_2]
      subst u
      simp
    · rw [if_neg (fun h => u (lastc.mp h))]
      refine ⟨_, rfl, rfl, rfl, fun P k => ?_⟩
      simp (disch := omega) only [ca_2]
      simp [u]
  | some b =>
    have mb : b ∈ A.2.1 q := by rw [hl]; exact List.mem_append_left _ (List.mem_of_getLast? hg)
    have hb := hc b mb
    have nb : ¬ nI b.1 = -1 := nI_nm (by omega)
    have l1n : ¬ l1 = [] := fun e => by
      rw [e] at hg
      cases hg
    have r3 : (cs_a s 12 (nI b.1) (s.2.1 12 a.1)).2.1 3 q = s.2.1 3 q := by rw [ca_2 (by omega), if_neg (by omega)]
    have r4 : (cs_a s 12 (nI b.1) (s.2.1 12 a.1)).2.1 4 q = nI ((l1 ++ l2).length + 1) := by rw [ca_2 (by omega), if_neg (by omega), hlen]
    have r4' : (cs_a (cs_a s 12 (nI b.1) (s.2.1 12 a.1)) 3 (nI q) (nI b.1)).2.1 4 q = nI ((l1 ++ l2).length + 1) := by rw [ca_2 (by omega), if_neg (by omega), r4]
    simp (disch := omega) only [id, if_neg nb, nb_nI, nI_clamp, r3, fc_X3_unlink_c1, fc_X3_unlink_c2, r4, r4', nI_pred]
    by_cases u : l2 = []
    · rw [if_pos (lastc.mpr u)]
      refine ⟨_, rfl, rfl, rfl, fun P k => ?_⟩
      simp (disch := omega) only [ca_2]
      simp [u, l1n]
    · rw [if_neg (fun h => u (lastc.mp h))]
      refine ⟨_, rfl, rfl, rfl, fun P k => ?_⟩
      simp (disch := omega) only [ca_2]
      simp [u, l1n]
/-- remove keeps the program's side -/
theorem ab_C_rem {S : Nat} {A : ab_S} {s : cs_S} {q : Nat} {a : ab_O} {l1 l2 : List ab_O} (hq : q < 42) (hl : A.2.1 q = l1 ++ a :: l2) (hU : ab_U A) (H : ab_C S A s) : ∃ s', f_X3_remove s (nI q) (nI a.1) = some (1, s') ∧ ab_C S (ab_q A q (l1 ++ l2)) s' := by
  obtain ⟨U1, U2, U3, U4, U5, U6, U7⟩ := hU
  obtain ⟨H1, H2, H3, H4, H5, H6, H7⟩ := H
  have Q := H3 q hq
  have nd := U2 q hq
  have hc : ∀ x, x ∈ A.2.1 q → x.1 < 3248 := fun x hx => U3 q x hq hx
  obtain ⟨s', e1, e2, e3, e4⟩ := ul_cls hq hl hc nd Q
  have lenA := U4 q hq
  have loop : f_X3_remove s (nI q) (nI a.1) = some (1, s') := by
    unfold f_X3_remove
    rw [nb_nI hq (by decide), nI_clamp (by omega), Q.1]
    obtain ⟨e, g1, g2⟩ := lp_wh (Q := fun e => e = ((1 : Int32), s')) (B := lb_X3_remove_18) (fun m x => ∃ la lb, l1 = la ++ lb ∧ m = lb.length ∧ x = (s, nI q, nI a.1, ab_bf id la, nI ((lb ++ a :: l2).head (by simp)).1, nI (lb ++ a :: l2).length)) (by
      rintro m x ⟨la, lb, hlb, rfl, rfl⟩
      have hlen : (lb ++ a :: l2).length ≤ (A.2.1 q).length := by
        rw [hl, hlb]
        simp [List.length_append]
      have pos : ¬ nI (lb ++ a :: l2).length ≤ 0 := fun k => by
        have := (nI_leI (b := 0) (by omega) (by decide)).mp k
        rw [List.length_append, List.length_cons] at this
        omega
      unfold lb_X3_remove_18
      simp only [if_neg pos]
      cases lb with
      | nil =>
        rw [List.append_nil] at hlb
        subst hlb
        rw [if_pos (by rfl)]
        simp only [List.nil_append, List.head_cons, e1]
        exact .inr ⟨_, rfl, rfl⟩
      | cons x lb =>
        have mx : x ∈ A.2.1 q := by
          rw [hl, hlb]
          simp
        have hx := hc x mx
        have ma : a ∈ A.2.1 q := by rw [hl]; simp
        have ne : ¬ nI x.1 = nI a.1 := fun k => by
          have e := (nI_eq (by omega) (by have := hc a ma; omega)).mp k
          rw [hl, hlb, List.append_assoc, List.map_append, List.nodup_append, List.cons_append, List.map_cons, List.nodup_cons] at nd
          exact nd.2.1.1 (List.mem_map.mpr ⟨a, by simp, e.symm⟩)
        simp (disch := omega) only [List.cons_append, List.head_cons, if_neg ne, nb_nI, nI_clamp]
        refine .inl ⟨_, lb.length, rfl, by simp, la ++ [x], lb, by rw [hlb]; simp, rfl, ?_⟩
        have ch := Q.2.2.1
        rw [hl, hlb, List.append_assoc, List.cons_append] at ch
        have nxt : s.2.1 12 x.1 = nI ((lb ++ a :: l2).head (by simp)).1 := by
          cases lb with
          | nil => exact ab_ch_mid la ch
          | cons y lb => exact ab_ch_mid la ch
        have bfx : ab_bf id (la ++ [x]) = nI x.1 := by
          unfold ab_bf
          rw [List.getLast?_concat]
          rfl
        have ln : nI (x :: (lb ++ a :: l2)).length + (-1) = nI (lb ++ a :: l2).length := by
          rw [List.length_cons, ← Int32.sub_eq_add_neg, nI_pred]
        rw [nxt, bfx, ln]) pm_fu l1.length (s, nI q, nI a.1, -1, s.2.1 2 q, nI (A.2.1 q).length) (by
      rw [hl, List.length_append, List.length_cons] at lenA
      unfold pm_fu
      omega) ⟨[], l1, rfl, rfl, by
        have hd : s.2.1 2 q = nI ((l1 ++ a :: l2).head (by simp)).1 := by
          cases l1 with
          | nil => exact (Q.2.1 a l2 hl).1
          | cons x l1 => exact (Q.2.1 x (l1 ++ a :: l2) hl).1
        rw [hd, hl]
        rfl⟩
    rw [g2] at g1
    exact g1
  have oth : ∀ P k, P ≠ 4 → P ≠ 2 → P ≠ 3 → P ≠ 12 → s'.2.1 P k = s.2.1 P k := fun P k h1 h2 h3 h4 => by
    rw [e4, if_neg (by omega), if_neg (by omega), if_neg (by omega), if_neg (fun h => h4 h.1)]
  have othq : ∀ P k, k ≠ q → P ≠ 12 → s'.2.1 P k = s.2.1 P k := fun P k h1 h4 => by
    rw [e4, if_neg (by omega), if_neg (by omega), if_neg (by omega), if_neg (fun h => h4 h.1)]
  have o12 : ∀ k, (∀ b, l1.getLast? = some b → k ≠ b.1) → s'.2.1 12 k = s.2.1 12 k := fun k h => by
    rw [e4, if_neg (by omega), if_neg (by omega), if_neg (by omega), if_neg (fun g => by
      obtain ⟨b, hb, hk⟩ := g.2
      exact h b hb hk)]
  refine ⟨s', loop, by rw [e2]; exact H1, by rw [e2]; exact H2, ?_, fun d hd => ab_Cd_fr (A := A) (s := s) rfl (fun w => rfl) (fun P h => oth P d (by omega) (by omega) (by omega) (by omega)) (H4 d hd), fun t ht => ab_Ct_fr (A := A) (s := s) (fun w => rfl) (fun P k h => oth P k (by omega) (by omega) (by omega) (by omega)) (H5 t ht), fun r hr hr' => ab_Cr_fr (A := A) (s := s) (fun w => rfl) (fun P h h' => oth P r (by omega) (by omega) (by omega) (by omega)) (H6 r hr hr'), fun k hk => ab_Ch_fr (A := A) (s := s) rfl (fun _ => rfl) (fun P h => oth P k (by omega) (by omega) (by omega) (by omega)) (H7 k hk)⟩
  intro q' hq'
  by_cases z : q' = q
  · subst z
    obtain ⟨h1, h2, h3, h4, h5, h6, h7⟩ := Q
    have eA : (ab_q A q' (l1 ++ l2)).2.1 q' = l1 ++ l2 := if_pos rfl
    have sub : ∀ x, x ∈ l1 ++ l2 → x ∈ A.2.1 q' := fun x hx => by
      rw [hl]
      rcases List.mem_append.mp hx with h | h
      · exact List.mem_append_left _ h
      · exact List.mem_append_right _ (List.mem_cons_of_mem _ h)
    unfold ab_Cq
    rw [eA, e3]
    refine ⟨by rw [e4, if_pos ⟨rfl, rfl⟩], ?_, ?_, ?_, h5, h6, h7⟩
    · intro y l' hy
      constructor
      · cases l1 with
        | nil =>
          rw [e4, if_neg (by omega), if_neg (by omega), if_pos ⟨rfl, rfl, rfl⟩]
          rw [List.nil_append] at hy
          rw [hl, List.nil_append, hy] at h3
          exact h3.1
        | cons x l1 =>
          rw [List.cons_append] at hy
          rw [e4, if_neg (by omega), if_neg (by omega), if_neg (fun h => by cases h.1), if_neg (by omega), ← (List.cons.inj hy).1]
          exact (h2 x (l1 ++ a :: l2) hl).1
      · cases l2 with
        | nil =>
          rw [e4, if_neg (by omega), if_pos ⟨rfl, rfl, rfl⟩]
          unfold ab_bf
          rw [List.append_nil] at hy
          rw [hy, List.getLast?_eq_some_getLast (List.cons_ne_nil y l')]
          rfl
        | cons x l2 =>
          rw [e4, if_neg (by omega), if_neg (fun h => by cases h.2.2), if_neg (by omega), if_neg (by omega)]
          cases hQ : A.2.1 q' with
          | nil => rw [hQ] at hl; exact absurd hl (by simp)
          | cons w lw =>
            have g := (h2 w lw hQ).2
            rw [g]
            congr 2
            have k1 : (w :: lw).getLast? = some ((x :: l2).getLast (List.cons_ne_nil x l2)) := by
              rw [← hQ, hl, List.getLast?_append]
              rw [List.getLast?_cons_cons, List.getLast?_eq_some_getLast (List.cons_ne_nil x l2)]
              rfl
            have k2 : (y :: l').getLast? = some ((x :: l2).getLast (List.cons_ne_nil x l2)) := by
              rw [← hy, List.getLast?_append, List.getLast?_eq_some_getLast (List.cons_ne_nil x l2)]
              rfl
            rw [List.getLast?_eq_some_getLast (List.cons_ne_nil w lw)] at k1
            rw [List.getLast?_eq_some_getLast (List.cons_ne_nil y l')] at k2
            rw [Option.some.inj k1, Option.some.inj k2]
    · rcases List.eq_nil_or_concat l1 with rfl | ⟨l0, b, rfl⟩
      · rw [hl, List.nil_append] at h3
        refine ab_ch_eq _ (ab_ch_cons.mp h3).2 (fun x hx => o12 x.1 (fun b hb => by cases hb))
      · have gl : (l0.concat b).getLast? = some b := by simp
        have hl' : A.2.1 q' = l0 ++ b :: a :: l2 := by rw [hl]; simp
        rw [show l0.concat b ++ l2 = l0 ++ b :: l2 by simp]
        rw [hl'] at h3
        rw [hl', List.map_append, List.map_cons, List.nodup_append, List.nodup_cons] at nd
        refine ab_ch_del l0 h3 (fun x hx => o12 x.1 (fun b' hb' => ?_)) ?_
        · rw [gl] at hb'
          rw [← Option.some.inj hb']
          rcases List.mem_append.mp hx with h | h
          · exact nd.2.2 _ (List.mem_map.mpr ⟨x, h, rfl⟩) _ List.mem_cons_self
          · exact fun e => nd.2.1.1 (List.mem_map.mpr ⟨x, List.mem_cons_of_mem _ h, e⟩)
        · show s'.2.1 12 b.1 = s.2.1 12 a.1
          rw [e4, if_neg (by omega), if_neg (by omega), if_neg (by omega), if_pos ⟨rfl, b, gl, rfl⟩]
    · intro x hx
      rw [oth 11 _ (by decide) (by decide) (by decide) (by decide)]
      exact h4 x (sub x hx)
  · have eA : (ab_q A q (l1 ++ l2)).2.1 q' = A.2.1 q' := if_neg z
    have K := H3 q' hq'
    unfold ab_Cq at K ⊢
    rw [eA, e3, othq 4 q' z (by decide), othq 2 q' z (by decide), othq 3 q' z (by decide)]
    refine ⟨K.1, K.2.1, ab_ch_eq _ K.2.2.1 (fun x hx => o12 x.1 (fun b hb e => ?_)), fun x hx => ?_, K.2.2.2.2⟩
    · exact z (U1 q' q x b hq' hq hx (by rw [hl]; exact List.mem_append_left _ (List.mem_of_getLast? hb)) e)
    · rw [oth 11 _ (by decide) (by decide) (by decide) (by decide)]
      exact K.2.2.2.1 x hx
