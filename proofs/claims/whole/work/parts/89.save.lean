/-! A read that another has spared is taken out of its queue, in both programs. -/
theorem ab_live_rm {A : ab_S} {q : Nat} {a : ab_O} {l1 l2 : List ab_O} (hq : q < 42) (hl : A.2.1 q = l1 ++ a :: l2) (hU : ab_U A) : (∀ y, ab_live (ab_q A q (l1 ++ l2)) y ↔ ab_live A y ∧ y ≠ a.1) ∧ (∀ q' x, x ∈ (ab_q A q (l1 ++ l2)).2.1 q' → x ∈ A.2.1 q') ∧ (∀ q', q' < 42 → (((ab_q A q (l1 ++ l2)).2.1 q').map (fun a => a.1)).Nodup) ∧ (∀ q', ((ab_q A q (l1 ++ l2)).2.1 q').length ≤ (A.2.1 q').length) := by
  obtain ⟨U1, U2, U3, U4, U5, U6, U7⟩ := hU
  have ma : a ∈ A.2.1 q := by rw [hl]; simp
  have nd := U2 q hq
  rw [hl, List.map_append, List.map_cons, List.nodup_append, List.nodup_cons] at nd
  have sub : ∀ q' x, x ∈ (ab_q A q (l1 ++ l2)).2.1 q' → x ∈ A.2.1 q' := by
    intro q' x hx
    rw [ab_q_2] at hx
    by_cases z : q' = q
    · rw [if_pos z] at hx
      rw [z, hl]
      rcases List.mem_append.mp hx with h | h
      · exact List.mem_append_left _ h
      · exact List.mem_append_right _ (List.mem_cons_of_mem _ h)
    · rw [if_neg z] at hx
      exact hx
  refine ⟨fun y => ⟨?_, ?_⟩, sub, ?_, ?_⟩
  · rintro (⟨q', hq', x, hx, hy⟩ | ⟨d, hd, h⟩)
    · refine ⟨.inl ⟨q', hq', x, sub q' x hx, hy⟩, fun e => ?_⟩
      have z := U1 q' q x a hq' hq (sub q' x hx) ma (hy.trans e)
      subst z
      rw [ab_q_2, if_pos rfl] at hx
      rcases List.mem_append.mp hx with h | h
      · exact nd.2.2 _ (List.mem_map.mpr ⟨x, h, rfl⟩) _ List.mem_cons_self (hy.trans e)
      · exact nd.2.1.1 (List.mem_map.mpr ⟨x, h, hy.trans e⟩)
    · exact ⟨.inr ⟨d, hd, h⟩, fun e => U5 d y q a hd hq h ma e.symm⟩
  · rintro ⟨⟨q', hq', x, hx, hy⟩ | h, ne⟩
    · refine .inl ⟨q', hq', x, ?_, hy⟩
      rw [ab_q_2]
      by_cases z : q' = q
      · rw [if_pos z]
        rw [z, hl] at hx
        rcases List.mem_append.mp hx with h | h
        · exact List.mem_append_left _ h
        · rcases List.mem_cons.mp h with h | h
          · rw [h] at hy
            exact absurd hy.symm ne
          · exact List.mem_append_right _ h
      · rw [if_neg z]
        exact hx
    · exact .inr h
  · intro q' hq'
    rw [ab_q_2]
    by_cases z : q' = q
    · rw [if_pos z, List.map_append, List.nodup_append]
      exact ⟨nd.1, nd.2.1.2, fun x hx y hy => nd.2.2 x hx y (List.mem_cons_of_mem _ hy)⟩
    · rw [if_neg z]
      exact U2 q' hq'
  · intro q'
    rw [ab_q_2]
    by_cases z : q' = q
    · rw [if_pos z, z, hl]
      simp [List.length_append]
    · rw [if_neg z]
      exact Nat.le_refl _
theorem ab_q_E {A B : ab_S} (h : ab_E A B) (q : Nat) (l : List ab_O) : ab_E (ab_q A q l) (ab_q B q l) := by
  refine ⟨?_, h.2⟩
  unfold ab_q
  simp only [h.1]
theorem ab_J2_save {D S T m n N k d : Nat} {p : Nat → Int32} {A B : ab_S} {L : Nat → Bool} {W : Nat → Nat} {F : List Nat} {s4 s5 : cs_S} {s : mo_S} (hk : k < S) (hd : d < D) (hLc : L (7 * k + d) = true) (hn : B.2.2.2 d = none) (H : ab_J2 D S T m n N p A B L W F s4 s5 s) :
    ∃ s5' s' F' A' B', f_X3_remove s5 (nI (6 * d)) (nI (7 * k + d)) = some (1, s5') ∧ f_X9_saveRead s (nI d) (nI k) = some s' ∧ rf_F s s' ∧ ab_J2 D S T m n N p A' B' (ab_L L (7 * k + d) false) W F' s4 (cs_i s5' 31 7 (s5'.1 31 7 + 1)) s' ∧ ab_fr k A A' B B' L (ab_L L (7 * k + d) false) ∧ (∀ d', B'.1 3 d' k = B.1 3 d' k) ∧ B'.1 4 k 0 = B.1 4 k 0 ∧ B'.1 0 0 7 = B.1 0 0 7 := by
  obtain ⟨hP, hp, hs, hC, hR, hB, hF, hE⟩ := H
  have hBB := hB
  obtain ⟨B1, B2, B3, B4, B5, B6, B7, B8, B9, B10⟩ := hB
  have hD := hp.2.2.2.2.1
  have hS := hp.2.2.2.2.2.2.1
  have hT := hp.2.2.2.2.2.2.2.2.1
  generalize hcc : 7 * k + d = c at hLc ⊢
  have c4 : c < 448 := by omega
  obtain ⟨l1, a, l2, hl, ha⟩ : ∃ l1 a l2, B.2.1 (6 * d) = l1 ++ a :: l2 ∧ a.1 = c := by
    rcases (B2 c).mp hLc with ⟨q, hq, a, ha, hac⟩ | ⟨d', hd', h⟩
    · have h3 := B3 q a hq ha
      rw [hac] at h3
      have t0 : ab_ten B c = nI 0 := by
        unfold ab_ten
        rw [if_pos c4]
        rfl
      rw [t0] at h3
      have := (nI_eq (by decide) (by omega)).mp h3.2.1
      have e : q = 6 * d := by omega
      rw [e] at ha
      obtain ⟨l1, l2, hl⟩ := List.append_of_mem ha
      exact ⟨l1, a, l2, hl, hac⟩
    · have h4 := B4 d' c hd' h
      have e : d' = d := by omega
      rw [e, hn] at h
      cases h
  have hq : 6 * d < 42 := by omega
  have ma : a ∈ B.2.1 (6 * d) := by rw [hl]; simp
  have la : ab_live B a.1 := .inl ⟨_, hq, a, ma, rfl⟩
  have UA : ab_U A := ab_U_2 hE.1.symm B1
  have hlA : A.2.1 (6 * d) = l1 ++ a :: l2 := by rw [← hE.1]; exact hl
  obtain ⟨s5', e1, e2⟩ := ab_C_rem hq hlA UA hC
  obtain ⟨s1, f1, F1, R1, o1⟩ := ab_R_rem hq hl B1 hR
  obtain ⟨lv, sub, nd', le'⟩ := ab_live_rm hq hl B1
  obtain ⟨R1', R2', R3', R4', R5', R6', R7', R8', R9', R10', R11', R12', R13', R14'⟩ := hR
  have Wa := (R10' a.1 la)
  obtain ⟨s2, f2, F2, R2, o2⟩ := ab_R_rel (c := a.1) Wa.1 (R14' a.1 la) (fun y hy e => ((lv y).mp hy).2 (R11' y a.1 ((lv y).mp hy).1 la e)) R1
  have k5 : vn s2 0 0 5 = B.1 0 0 5 := by
    rw [o2 _ _ _ (by omega) (by omega), o1 _ _ _ (by omega) (by omega)]
    exact R1' 5 (by decide)
  obtain ⟨s3, c3, F3, n3, t3, q3⟩ := rf_us s2 (B.1 0 0 5 + 1) (eb_0 (w := 5) (by decide))
  have R3 := ab_R_0 (by decide) (by decide) n3 t3 q3 R2
  have tri : f_X9_saveRead s (nI d) (nI k) = some s3 := by
    unfold f_X9_saveRead
    have Q := R4' (6 * d) hq
    have q0 : f_X9_queueOf s (nI d) 0 = some (nI (6 * d + 0)) := queueOf_w s d 0
    have hd0 : vn s 2 (6 * d) 0 = nI (W ((l1 ++ a :: l2).head (by simp)).1) := by
      have h2 := Q.2.1
      cases l1 with
      | nil =>
        rw [hl] at h2
        exact h2.1
      | cons x l1 =>
        rw [hl] at h2
        exact h2.1
    simp only [q0, Nat.add_zero, ofQueue_0 s hq, hd0]
    obtain ⟨e, g1, g2⟩ := lp_wh (Q := fun e => e = s3) (B := lb_X9_saveRead_14) (fun m x => ∃ la lb, l1 = la ++ lb ∧ m = lb.length ∧ x = (s, nI d, nI k, nI (6 * d), nI (W ((lb ++ a :: l2).head (by simp)).1))) (by
      rintro m x ⟨la', lb, hlb, rfl, rfl⟩
      unfold lb_X9_saveRead_14
      have sx : ∀ x, x ∈ B.2.1 (6 * d) → W x.1 < 2200 ∧ vn s 7 (W x.1) 2 = nI (x.1 / 7) ∧ x.1 % 7 = d ∧ x.1 < 448 := by
        intro x hx
        have lx : ab_live B x.1 := .inl ⟨_, hq, x, hx, rfl⟩
        have r := R10' x.1 lx
        have h3 := B3 _ x hq hx
        have x4 : x.1 < 448 := by
          apply Classical.byContradiction
          intro h
          have h5 := B5 x.1 ((B2 x.1).mpr lx)
          have h7 := (B7 (x.1 / 7 - 64) (by omega)).1
          obtain ⟨t, t1, t2, t3⟩ := h7
          have := h3.2.1
          unfold ab_ten at this
          rw [if_neg h, t3] at this
          have := (nI_eq (by omega) (by omega)).mp this
          omega
        refine ⟨r.1, ?_, by omega, x4⟩
        rw [r.2.2.2.1]
        unfold ab_stripe
        rw [if_pos x4]
      cases lb with
      | nil =>
        have h := sx a ma
        have ek : a.1 / 7 = k := by omega
        have rd5 : s2.2.2.1 3 5 = B.1 0 0 5 := (vn_s5 s2).trans k5
        have nb5 : pm_inb 5 18186 = true := nb_5_18186
        simp only [List.nil_append, List.head_cons, of_2 s h.1, h.2.1, ek, if_true, f1, f2, nb5, tc_5, rd5]
        refine .inr ⟨_, rfl, ?_⟩
        rw [← c3]
        rfl
      | cons x lb =>
        have mx : x ∈ B.2.1 (6 * d) := by rw [hl, hlb]; simp
        have h := sx x mx
        have h' := sx a ma
        have ne : ¬ nI (x.1 / 7) = nI k := fun e => by
          have e' := (nI_eq (by omega) (by omega)).mp e
          have ex : x.1 = a.1 := by omega
          have nd := B1.2.1 _ hq
          rw [hl, hlb, List.append_assoc, List.map_append, List.nodup_append, List.cons_append, List.map_cons, List.nodup_cons] at nd
          exact nd.2.1.1 (List.mem_map.mpr ⟨a, by simp, ex.symm⟩)
        have ch := Q.2.2.1
        rw [hl, hlb, List.append_assoc, List.cons_append] at ch
        have nxt : vn s 7 (W x.1) 5 = nI (W ((lb ++ a :: l2).head (by simp)).1) := by
          cases lb with
          | nil => exact ab_ch_mid (f := W) la' ch
          | cons y lb => exact ab_ch_mid (f := W) la' ch
        simp only [List.cons_append, List.head_cons, of_2 s h.1, h.2.1, if_neg ne, of_5 s h.1, nxt]
        exact .inl ⟨_, lb.length, rfl, by simp, la' ++ [x], lb, by rw [hlb]; simp, rfl, rfl⟩) pm_fu l1.length _ (by
        have := B1.2.2.2.1 _ hq
        rw [hl, List.length_append] at this
        unfold pm_fu
        omega) ⟨[], l1, rfl, rfl, rfl⟩
    rw [g2] at g1
    exact g1
  have bq : ab_B D S T m n N (ab_q B (6 * d) (l1 ++ l2)) (ab_L L c false) := by
    refine ab_B_rm (c := c) hLc (fun q x _ hx => sub q x hx) (fun q hq' => nd' q hq') (fun q _ => le' q) rfl (fun d _ => .inl ⟨rfl, rfl⟩) (fun y => by rw [lv, ha]) (fun _ _ _ _ _ => rfl) (fun r => by rw [if_neg (by omega)]; rfl) hBB
  have C5 : ab_C S (ab_v (ab_q A (6 * d) (l1 ++ l2)) 0 0 5 (A.1 0 0 5 + 1)) (cs_i s5' 31 7 (s5'.1 31 7 + 1)) := by
    have : s5'.1 31 7 = A.1 0 0 5 := e2.1.2.2.2.2.2.1
    rw [this]
    exact ab_C_0 (w := 5) (by omega) e2
  rw [ha] at e1
  refine ⟨s5', s3, W a.1 :: F, _, _, e1, tri, (F1.trans F2).trans F3, ⟨hP, hp, by rw [((F1.trans F2).trans F3).2.2.1 0 (by decide)]; exact hs, C5, R3, ab_B_v (A := ab_q B (6 * d) (l1 ++ l2)) rfl (by rw [ab_v_1, if_neg (by omega)]) (by rw [ab_v_1, if_neg (by omega)]) (fun r w _ => by rw [ab_v_1, if_neg (by omega)]) (fun d w _ => by rw [ab_v_1, if_neg (by omega)]) bq, ?_, ?_⟩, ?_, ?_, ?_, ?_⟩
  · rw [List.length_cons]
    have := ab_cnt_dn hLc 3248 (by omega)
    omega
  · rw [show B.1 0 0 5 = A.1 0 0 5 from hE.2 0 0 5 (by omega) (by omega)]
    exact (ab_q_E hE _ _).v 0 0 5 _
  · exact ⟨⟨fun i w => by rw [ab_v_1, if_neg (by omega)]; rfl, fun i w => by rw [ab_v_1, if_neg (by omega)]; rfl, by rw [ab_v_1, if_neg (by omega)]; rfl⟩, ⟨fun i w => by rw [ab_v_1, if_neg (by omega)]; rfl, fun i w => by rw [ab_v_1, if_neg (by omega)]; rfl, by rw [ab_v_1, if_neg (by omega)]; rfl⟩, fun g i w _ _ h => by rw [ab_v_1, if_neg (by omega)]; rfl, fun k' _ => ⟨by rw [ab_v_1, if_neg (by omega)]; rfl, fun d => by rw [ab_v_1, if_neg (by omega)]; rfl⟩, fun w h _ _ => by rw [ab_v_1, if_neg (by omega)]; rfl, rfl, fun y hy => if_neg (by omega)⟩
  · intro d'
    rw [ab_v_1, if_neg (by omega)]
    rfl
  · rw [ab_v_1, if_neg (by omega)]
    rfl
  · rw [ab_v_1, if_neg (by omega)]
    rfl
