/-! An operation leaves the middle of its queue, the reference's side. -/
/-- remove from behind another operation: what it writes -/
theorem rv_ref {s : mo_S} {A : ab_S} {W : Nat → Nat} {q : Nat} {a b : ab_O} {l0 l2 : List ab_O} (hq : q < 42) (hl : A.2.1 q = l0 ++ b :: a :: l2) (hW : ∀ x, x ∈ A.2.1 q → W x.1 < 2200) (hnd : ((A.2.1 q).map (fun a => W a.1)).Nodup) (hlen : (A.2.1 q).length < 3000) (H : ab_Rq A s W q) : ∃ s', f_X9_remove s (nI q) (nI (W a.1)) = some s' ∧ rf_F s s' ∧ (∀ g i w, vn s' g i w = if g = 2 ∧ i = q ∧ w = 1 ∧ l2 = [] then nI (W b.1) else if g = 2 ∧ i = q ∧ w = 2 then nI (l0 ++ b :: l2).length else if g = 7 ∧ i = W b.1 ∧ w = 5 then vn s 7 (W a.1) 5 else vn s g i w) ∧ (∀ i w, vt s' i w = vt s i w) ∧ (∀ i w, vq s' i w = vq s i w) := by
  obtain ⟨h1, h2, h3, h4, h5⟩ := H
  have ma : a ∈ A.2.1 q := by rw [hl]; simp
  have mb : b ∈ A.2.1 q := by rw [hl]; simp
  have ha := hW a ma
  have hb := hW b mb
  have nd := hnd
  rw [hl, List.map_append, List.map_cons, List.map_cons, List.nodup_append, List.nodup_cons, List.nodup_cons] at nd
  rw [hl] at h3
  have hd : vn s 2 q 0 = nI (W ((l0 ++ b :: a :: l2).head (by simp)).1) := by
    cases l0 with
    | nil =>
      rw [hl] at h2
      exact h2.1
    | cons x l0 =>
      rw [hl] at h2
      exact h2.1
  have hlast : vn s 2 q 1 = nI (W ((a :: l2).getLast (List.cons_ne_nil a l2)).1) := by
    cases hQ : A.2.1 q with
    | nil => rw [hQ] at ma; cases ma
    | cons x l =>
      rw [hQ] at h2
      have := h2.2.1
      rw [this]
      congr 3
      have k1 : (x :: l).getLast? = some ((a :: l2).getLast (List.cons_ne_nil a l2)) := by
        rw [← hQ, hl, List.getLast?_append, List.getLast?_cons_cons, List.getLast?_eq_some_getLast (List.cons_ne_nil a l2)]
        rfl
      rw [List.getLast?_eq_some_getLast (List.cons_ne_nil x l)] at k1
      exact Option.some.inj k1
  have lastc : vn s 2 q 1 = nI (W a.1) ↔ l2 = [] := by
    rw [hlast]
    cases l2 with
    | nil => exact ⟨fun _ => rfl, fun _ => rfl⟩
    | cons y l2 =>
      refine ⟨fun e => ?_, fun e => by cases e⟩
      have my : (a :: y :: l2).getLast (List.cons_ne_nil a (y :: l2)) ∈ y :: l2 := by
        rw [List.getLast_cons (List.cons_ne_nil y l2)]
        exact List.getLast_mem _
      have e' := (nI_eq (by have := hW _ (by rw [hl]; exact List.mem_append_right _ (List.mem_cons_of_mem _ (List.mem_cons_of_mem _ my))); omega) (by omega)).mp e
      exact absurd (List.mem_map.mpr ⟨_, my, e'⟩) nd.2.1.2.1
  have nhd : ¬ vn s 2 q 0 = nI (W a.1) := by
    rw [hd]
    intro e
    have mh : (l0 ++ b :: a :: l2).head (by simp) ∈ l0 ++ [b] := by
      cases l0 with
      | nil => simp
      | cons x l0 => simp
    have mh' : (l0 ++ b :: a :: l2).head (by simp) ∈ A.2.1 q := by
      rw [hl]
      exact List.head_mem _
    have e' := (nI_eq (by have := hW _ mh'; omega) (by omega)).mp e
    rcases List.mem_append.mp mh with h | h
    · exact nd.2.2 _ (List.mem_map.mpr ⟨_, h, rfl⟩) (W a.1) (by simp) e'
    · rw [List.mem_singleton.mp h] at e'
      exact nd.2.1.1 (by rw [e']; simp)
  obtain ⟨s1, c1, F1, n1, t1, q1⟩ := rf_us s (vn s 7 (W a.1) 5) (eb_7 (w := 5) hb (by decide))
  obtain ⟨s2, c2, F2, n2, t2, q2⟩ := rf_setQ (s := s1) (q := q) (w := 2) (v := nI (l0 ++ b :: l2).length) hq (by decide)
  have c2' : f_X9_setQueue s1 (nI q) 2 (nI (l0 ++ b :: l2).length) = some s2 := c2
  obtain ⟨s3, c3, F3, n3, t3, q3⟩ := rf_setQ (s := s2) (q := q) (w := 1) (v := nI (W b.1)) hq (by decide)
  have c3' : f_X9_setQueue s2 (nI q) 1 (nI (W b.1)) = some s3 := c3
  have k2 : vn s1 2 q 2 = nI ((l0 ++ b :: l2).length + 1) := by
    rw [n1, if_neg (by omega), h1, hl]
    congr 1
    simp [List.length_append]
    omega
  have k1 : vn s2 2 q 1 = vn s 2 q 1 := by rw [n2, if_neg (by omega), n1, if_neg (by omega)]
  unfold f_X9_remove
  rw [ofQueue_0 s hq]
  simp only [if_neg nhd]
  refine lp_wh (Q := fun s' => rf_F s s' ∧ (∀ g i w, vn s' g i w = if g = 2 ∧ i = q ∧ w = 1 ∧ l2 = [] then nI (W b.1) else if g = 2 ∧ i = q ∧ w = 2 then nI (l0 ++ b :: l2).length else if g = 7 ∧ i = W b.1 ∧ w = 5 then vn s 7 (W a.1) 5 else vn s g i w) ∧ (∀ i w, vt s' i w = vt s i w) ∧ (∀ i w, vq s' i w = vq s i w)) (B := lb_X9_remove_23) (fun m x => ∃ la lb, l0 = la ++ lb ∧ m = lb.length ∧ x = (s, nI q, nI (W a.1), nI (W ((lb ++ b :: a :: l2).head (by simp)).1))) ?_ pm_fu l0.length _ (by
    rw [hl, List.length_append] at hlen
    unfold pm_fu
    omega) ⟨[], l0, rfl, rfl, by rw [hd]⟩
  rintro m x ⟨la, lb, hlb, rfl, rfl⟩
  unfold lb_X9_remove_23
  cases lb with
  | nil =>
    have nb : vn s 7 (W b.1) 5 = nI (W a.1) := ab_ch_mid (f := W) l0 h3
    simp only [List.nil_append, List.head_cons, of_5 s hb, nb, if_true, of_5 s ha, set_5 s hb, c1, ofQueue_2 s1 hq, k2, nI_pred, c2', ofQueue_1 s2 hq, k1]
    by_cases u : l2 = []
    · rw [if_pos (lastc.mpr u)]
      simp only [c3']
      refine .inr ⟨s3, rfl, (F1.trans F2).trans F3, fun g i w => ?_, fun i w => by rw [t3, t2, t1], fun i w => by rw [q3, q2, q1]⟩
      rw [n3, n2, n1]
      simp only [u, and_true]
    · rw [if_neg (fun h => u (lastc.mp h))]
      refine .inr ⟨s2, rfl, F1.trans F2, fun g i w => ?_, fun i w => by rw [t2, t1], fun i w => by rw [q2, q1]⟩
      rw [n2, n1]
      simp only [u, and_false, if_false]
  | cons x lb =>
    have mx : x ∈ A.2.1 q := by rw [hl, hlb]; simp
    have hx := hW x mx
    rw [hlb, List.append_assoc, List.cons_append] at h3
    have nx : vn s 7 (W x.1) 5 = nI (W ((lb ++ b :: a :: l2).head (by simp)).1) := by
      cases lb with
      | nil => exact ab_ch_mid (f := W) la h3
      | cons y lb => exact ab_ch_mid (f := W) la h3
    have my : (lb ++ b :: a :: l2).head (by simp) ∈ lb ++ [b] := by
      cases lb with
      | nil => simp
      | cons x l0 => simp
    have ne : ¬ nI (W ((lb ++ b :: a :: l2).head (by simp)).1) = nI (W a.1) := by
      intro e
      have mh' : (lb ++ b :: a :: l2).head (by simp) ∈ A.2.1 q := by
        rw [hl, hlb]
        simp
      have e' := (nI_eq (by have := hW _ mh'; omega) (by omega)).mp e
      rcases List.mem_append.mp my with h | h
      · exact nd.2.2 _ (List.mem_map.mpr ⟨_, by rw [hlb]; simp [h], rfl⟩) (W a.1) (by simp) e'
      · rw [List.mem_singleton.mp h] at e'
        exact nd.2.1.1 (by rw [e']; simp)
    simp only [List.cons_append, List.head_cons, of_5 s hx, nx, if_neg ne]
    exact .inl ⟨_, lb.length, rfl, by simp, la ++ [x], lb, by rw [hlb]; simp, rfl, rfl⟩
/-- remove keeps the reference's side; the operation lies apart -/
theorem ab_R_rem {D : Nat} {A : ab_S} {s : mo_S} {W : Nat → Nat} {F : List Nat} {q : Nat} {a : ab_O} {l1 l2 : List ab_O} (hq : q < 42) (hl : A.2.1 q = l1 ++ a :: l2) (hU : ab_U A) (H : ab_R D A s W F) : ∃ s', f_X9_remove s (nI q) (nI (W a.1)) = some s' ∧ rf_F s s' ∧ ab_R D (ab_q A q (l1 ++ l2)) s' W F ∧ (∀ g i w, g ≠ 2 → g ≠ 7 → vn s' g i w = vn s g i w) := by
  have L : ∀ q a, q < 42 → a ∈ A.2.1 q → ab_live A a.1 := fun q a h1 h2 => .inl ⟨q, h1, a, h2, rfl⟩
  rcases List.eq_nil_or_concat l1 with rfl | ⟨l0, b, rfl⟩
  · rw [List.nil_append] at hl
    obtain ⟨s', e1, e2, e3, e4, e5⟩ := ab_R_pop hq hl H
    refine ⟨s', ?_, e2, e3, fun g i w h _ => e5 g i w h⟩
    have Q := (H.2.2.2.1 q hq).2.1
    rw [hl] at Q
    unfold f_X9_remove
    rw [ofQueue_0 s hq]
    simp only [Q.1, if_true, e1]
  · have hl' : A.2.1 q = l0 ++ b :: a :: l2 := by rw [hl]; simp
    rw [show l0.concat b ++ l2 = l0 ++ b :: l2 by simp]
    obtain ⟨R1, R2, R3, R4, R5, R6, R7, R8, R9, R10, R11, R12, R13, R14⟩ := H
    obtain ⟨U1, U2, U3, U4, U5, U6, U7⟩ := hU
    have ndW : ((A.2.1 q).map (fun a => W a.1)).Nodup := ab_ndW (A.2.1 q) (U2 _ hq) (fun a b ha hb e => R11 _ _ (L _ _ hq ha) (L _ _ hq hb) e)
    obtain ⟨s', e1, e2, e3, e4, e5⟩ := rv_ref (W := W) hq hl' (fun x hx => (R10 _ (L _ _ hq hx)).1) ndW (U4 q hq) (R4 q hq)
    have mb : b ∈ A.2.1 q := by rw [hl']; simp
    have ma : a ∈ A.2.1 q := by rw [hl']; simp
    have oth : ∀ g i w, g ≠ 2 → g ≠ 7 → vn s' g i w = vn s g i w := fun g i w h h' => by
      rw [e3, if_neg (by omega), if_neg (by omega), if_neg (by omega)]
    have o7 : ∀ i w, i ≠ W b.1 ∨ w ≠ 5 → vn s' 7 i w = vn s 7 i w := fun i w h => by
      rw [e3, if_neg (by omega), if_neg (by omega), if_neg (by omega)]
    have o2 : ∀ i w, i ≠ q → vn s' 2 i w = vn s 2 i w := fun i w h => by
      rw [e3, if_neg (by omega), if_neg (by omega), if_neg (by omega)]
    have sub : ∀ x, x ∈ l0 ++ b :: l2 → x ∈ A.2.1 q := fun x hx => by
      rw [hl']
      rcases List.mem_append.mp hx with h | h
      · exact List.mem_append_left _ h
      · rcases List.mem_cons.mp h with h | h
        · rw [h]; simp
        · simp [h]
    have lv : ∀ y, ab_live (ab_q A q (l0 ++ b :: l2)) y → ab_live A y := by
      intro y h
      rcases h with ⟨q', hq', x, hx, hy⟩ | h
      · rw [ab_q_2] at hx
        by_cases z : q' = q
        · rw [if_pos z] at hx
          exact .inl ⟨q, hq, x, sub x hx, hy⟩
        · rw [if_neg z] at hx
          exact .inl ⟨q', hq', x, hx, hy⟩
      · exact .inr h
    refine ⟨s', e1, e2, ⟨fun w hw => by rw [oth _ _ _ (by omega) (by omega)]; exact R1 w hw, by rw [oth _ _ _ (by omega) (by omega)]; exact R2, by rw [oth _ _ _ (by omega) (by omega)]; exact R3, ?_, fun d hd => by rw [oth _ _ _ (by omega) (by omega), oth _ _ _ (by omega) (by omega), oth _ _ _ (by omega) (by omega), oth _ _ _ (by omega) (by omega)]; exact R5 d hd, fun d k h1 h2 => by rw [oth _ _ _ (by omega) (by omega)]; exact R6 d k h1 h2, fun k h1 => by rw [oth _ _ _ (by omega) (by omega)]; exact R7 k h1, fun r w h1 h2 h3 => by rw [oth _ _ _ (by omega) (by omega)]; exact R8 r w h1 h2 h3, fun t w h1 h2 => by rw [oth _ _ _ (by omega) (by omega)]; exact R9 t w h1 h2, ?_, fun y z hy hz => R11 y z (lv y hy) (lv z hz), ?_, R13, fun y hy => R14 y (lv y hy)⟩, oth⟩
    · intro q' hq'
      have K := R4 q' hq'
      by_cases z : q' = q
      · subst z
        obtain ⟨h1, h2, h3, h4, h5⟩ := K
        have nd := ndW
        rw [hl', List.map_append, List.map_cons, List.map_cons, List.nodup_append, List.nodup_cons, List.nodup_cons] at nd
        unfold ab_Rq
        rw [show (ab_q A q' (l0 ++ b :: l2)).2.1 q' = l0 ++ b :: l2 from if_pos rfl]
        have e50 : ∀ w, w ≠ 1 → w ≠ 2 → vn s' 2 q' w = vn s 2 q' w := fun w h h' => by
          rw [e3, if_neg (by omega), if_neg (by omega), if_neg (by omega)]
        refine ⟨by rw [e3, if_neg (by omega), if_pos ⟨rfl, rfl, rfl⟩], ?_, ?_, ?_, ?_⟩
        · have hd : ∀ x l, l0 ++ b :: l2 = x :: l → vn s 2 q' 0 = nI (W x.1) := by
            intro x l hx
            cases l0 with
            | nil =>
              rw [List.nil_append] at hx hl'
              rw [hl'] at h2
              rw [← (List.cons.inj hx).1]
              exact h2.1
            | cons y l0 =>
              rw [List.cons_append] at hx hl'
              rw [hl'] at h2
              rw [← (List.cons.inj hx).1]
              exact h2.1
          have lst : ∀ x l, l0 ++ b :: l2 = x :: l → (x :: l).getLast (List.cons_ne_nil x l) = (b :: l2).getLast (List.cons_ne_nil b l2) := by
            intro x l hx
            have k1 : (x :: l).getLast? = some ((b :: l2).getLast (List.cons_ne_nil b l2)) := by
              rw [← hx, List.getLast?_append, List.getLast?_eq_some_getLast (List.cons_ne_nil b l2)]
              rfl
            rw [List.getLast?_eq_some_getLast (List.cons_ne_nil x l)] at k1
            exact Option.some.inj k1
          have old : vn s 2 q' 1 = nI (W ((a :: l2).getLast (List.cons_ne_nil a l2)).1) ∧ vn s 7 (W ((a :: l2).getLast (List.cons_ne_nil a l2)).1) 5 = -1 := by
            cases hQ : A.2.1 q' with
            | nil => rw [hQ] at ma; cases ma
            | cons x l =>
              rw [hQ] at h2
              have k1 : (x :: l).getLast? = some ((a :: l2).getLast (List.cons_ne_nil a l2)) := by
                rw [← hQ, hl', List.getLast?_append, List.getLast?_cons_cons, List.getLast?_eq_some_getLast (List.cons_ne_nil a l2)]
                rfl
              rw [List.getLast?_eq_some_getLast (List.cons_ne_nil x l)] at k1
              rw [← Option.some.inj k1]
              exact h2.2
          cases hx : l0 ++ b :: l2 with
          | nil => exact absurd hx (by simp)
          | cons x l =>
            show vn s' 2 q' 0 = _ ∧ vn s' 2 q' 1 = _ ∧ vn s' 7 _ 5 = -1
            rw [lst x l hx, e50 0 (by decide) (by decide)]
            refine ⟨hd x l hx, ?_⟩
            cases l2 with
            | nil =>
              refine ⟨by rw [e3, if_pos ⟨rfl, rfl, rfl, rfl⟩]; rfl, ?_⟩
              show vn s' 7 (W b.1) 5 = -1
              rw [e3, if_neg (by omega), if_neg (by omega), if_pos ⟨rfl, rfl, rfl⟩]
              exact old.2
            | cons y l2 =>
              have gl : (b :: y :: l2).getLast (List.cons_ne_nil b (y :: l2)) = (a :: y :: l2).getLast (List.cons_ne_nil a (y :: l2)) := by
                rw [List.getLast_cons (List.cons_ne_nil y l2), List.getLast_cons (List.cons_ne_nil y l2)]
              have my : (a :: y :: l2).getLast (List.cons_ne_nil a (y :: l2)) ∈ y :: l2 := by
                rw [List.getLast_cons (List.cons_ne_nil y l2)]
                exact List.getLast_mem _
              rw [gl, e3, if_neg (fun h => by cases h.2.2.2), if_neg (by omega), if_neg (by omega), o7 _ _ (.inl (fun h => nd.2.1.1 (by rw [← h]; exact List.mem_cons_of_mem _ (List.mem_map.mpr ⟨_, my, rfl⟩))))]
              exact old
        · rw [hl'] at h3
          refine ab_ch_del l0 h3 (fun x hx => o7 _ _ (.inl (fun h => ?_))) ?_
          · rcases List.mem_append.mp hx with h' | h'
            · exact nd.2.2 _ (List.mem_map.mpr ⟨x, h', rfl⟩) (W b.1) (by simp) h
            · exact nd.2.1.1 (by rw [← h]; exact List.mem_cons_of_mem _ (List.mem_map.mpr ⟨x, h', rfl⟩))
          · show vn s' 7 (W b.1) 5 = vn s 7 (W a.1) 5
            rw [e3, if_neg (by omega), if_neg (by omega), if_pos ⟨rfl, rfl, rfl⟩]
        · intro x hx
          rw [o7 _ _ (.inr (by decide)), o7 _ _ (.inr (by decide)), e4, e4, e4]
          exact h4 x (sub x hx)
        · intro w hw
          rw [e50 _ (by omega) (by omega), e5]
          exact h5 w hw
      · unfold ab_Rq at K ⊢
        rw [show (ab_q A q (l0 ++ b :: l2)).2.1 q' = A.2.1 q' from if_neg z]
        have nb : ∀ x, x ∈ A.2.1 q' → W x.1 ≠ W b.1 := fun x hx e => z (U1 q' q x b hq' hq hx mb (R11 _ _ (L _ _ hq' hx) (L _ _ hq mb) e))
        refine ⟨by rw [o2 _ _ z]; exact K.1, ?_, ab_ch_eq _ K.2.2.1 (fun x hx => o7 _ _ (.inl (nb x hx))), fun x hx => ?_, fun w hw => ?_⟩
        · have k2 := K.2.1
          rw [o2 _ _ z, o2 _ _ z]
          cases hQ : A.2.1 q' with
          | nil =>
            rw [hQ] at k2
            exact k2
          | cons x l =>
            rw [hQ] at k2
            refine ⟨k2.1, k2.2.1, ?_⟩
            rw [o7 _ _ (.inl (nb _ (by rw [hQ]; exact List.getLast_mem _)))]
            exact k2.2.2
        · rw [o7 _ _ (.inr (by decide)), o7 _ _ (.inr (by decide)), e4, e4, e4]
          exact K.2.2.2.1 x hx
        · rw [o2 _ _ z, e5]
          exact K.2.2.2.2 w hw
    · intro y hy
      have := R10 y (lv y hy)
      unfold ab_Ro at this ⊢
      rw [o7 _ _ (.inr (by decide)), o7 _ _ (.inr (by decide)), o7 _ _ (.inr (by decide)), o7 _ _ (.inr (by decide))]
      exact this
    · rw [oth 0 0 8 (by decide) (by decide)]
      have gen : ∀ (l : List Nat) (x : Int32), ¬ W b.1 ∈ l → ab_fl (fun o => vn s 7 o 5) x l → ab_fl (fun o => vn s' 7 o 5) x l := by
        intro l
        induction l with
        | nil => exact fun x _ h => h
        | cons o l ih =>
          intro x hn h
          refine ⟨h.1, h.2.1, ?_⟩
          show ab_fl _ (vn s' 7 o 5) l
          rw [o7 _ _ (.inl (fun e => hn (by rw [← e]; exact List.mem_cons_self)))]
          exact ih _ (fun k => hn (List.mem_cons_of_mem _ k)) h.2.2
      exact gen F _ (R14 _ (L _ _ hq mb)) R12
