/-! Append between the two programs, the reference's side whole. -/
/-- the request's open operations, one more (none for the rebuild's) -/
def ab_pd (A : ab_S) (c : Nat) : ab_S := if c < 448 then A else ab_v A 5 (c / 7 - 64) 3 (A.1 5 (c / 7 - 64) 3 + 1)
theorem ab_pd_2 (A : ab_S) (c : Nat) : (ab_pd A c).2 = A.2 := by
  unfold ab_pd
  split <;> rfl
theorem ab_pd_1 (A : ab_S) (c g i w : Nat) (h : g ≠ 5 ∨ w ≠ 3) : (ab_pd A c).1 g i w = A.1 g i w := by
  unfold ab_pd
  split
  · rfl
  · rw [ab_v_1, if_neg (by omega)]
theorem ab_ndW {W : Nat → Nat} : ∀ (l : List ab_O), (l.map (fun a => a.1)).Nodup → (∀ a b, a ∈ l → b ∈ l → W a.1 = W b.1 → a.1 = b.1) → (l.map (fun a => W a.1)).Nodup
  | [], _, _ => List.nodup_nil
  | a :: l, h, g => by
    have h' := List.nodup_cons.mp h
    refine List.nodup_cons.mpr ⟨fun m => ?_, ab_ndW l h'.2 (fun x y hx hy => g x y (List.mem_cons_of_mem _ hx) (List.mem_cons_of_mem _ hy))⟩
    obtain ⟨b, hb, e⟩ := List.mem_map.mp m
    exact h'.1 (List.mem_map.mpr ⟨b, hb, (g a b List.mem_cons_self (List.mem_cons_of_mem _ hb) e.symm).symm⟩)
theorem ab_R_app {D : Nat} {A : ab_S} {s : mo_S} {W : Nat → Nat} {F : List Nat} {p : Nat → Int32} {d t c o n : Nat} {due : Int32} (hn : A.1 0 0 0 = nI n) (hd : d < 7) (ht : t < 6) (hp : ∀ w, w < 3 → s.2.2.1 0 (8 + 3 * t + w) = p (8 + 3 * t + w)) (hw0 : ¬ p (8 + 3 * t + 1) ≤ 0) (hU : ab_U A) (hf : ¬ ab_live A c) (hc : c < 448 ∨ (64 ≤ c / 7 ∧ c / 7 - 64 < 400 ∧ nI (c / 7 - 64) < A.1 0 0 2)) (hten : ab_ten A c = nI t) (H : ab_R D A s W (o :: F)) :
    ∃ s', f_X9_queue s (nI d) (nI t) (ab_kind D A c) (ab_stripe A c) due (ab_req c) = some s' ∧ rf_F s s' ∧ ab_R D (ab_app p (ab_pd A c) (6 * d + t) t c due) s' (fun y => if y = c then o else W y) F := by
  obtain ⟨R1, R2, R3, R4, R5, R6, R7, R8, R9, R10, R11, R12, R13, R14⟩ := H
  obtain ⟨U1, U2, U3, U4, U5, U6, U7⟩ := hU
  have hq : 6 * d + t < 42 := by omega
  have Q := R4 (6 * d + t) hq
  have L : ∀ q a, q < 42 → a ∈ A.2.1 q → ab_live A a.1 := fun q a h1 h2 => .inl ⟨q, h1, a, h2, rfl⟩
  have nO : ∀ c', ab_live A c' → W c' ≠ o := fun c' h e => R14 c' h (by rw [e]; exact List.mem_cons_self)
  have ho : o < 2200 := R12.2.1
  have hfr : ∀ y, ab_live A y → y ≠ c := fun y h e => hf (by rw [← e]; exact h)
  have hE : match (A.2.1 (6 * d + t)).getLast?.map (fun a => W a.1) with | none => vn s 2 (6 * d + t) 0 = -1 | some e => ¬ vn s 2 (6 * d + t) 0 = -1 ∧ vn s 2 (6 * d + t) 1 = nI e ∧ e < 2200 ∧ e ≠ o := by
    cases hl : A.2.1 (6 * d + t) with
    | nil =>
      have := Q.2.1
      rw [hl] at this
      exact this.1
    | cons a l =>
      have z := Q.2.1
      rw [hl] at z
      have m : (a :: l).getLast (List.cons_ne_nil a l) ∈ A.2.1 (6 * d + t) := by rw [hl]; exact List.getLast_mem _
      have ma : a ∈ A.2.1 (6 * d + t) := by rw [hl]; exact List.mem_cons_self
      rw [List.getLast?_eq_some_getLast (List.cons_ne_nil a l)]
      refine ⟨?_, z.2.1, (R10 _ (L _ _ hq m)).1, nO _ (L _ _ hq m)⟩
      rw [z.1]
      intro e
      have := congrArg Int32.toInt e
      rw [nI_toInt (by have := (R10 _ (L _ _ hq ma)).1; omega), show (-1 : Int32).toInt = -1 from rfl] at this
      omega
  have hrq : match (if c < 448 then none else some (c / 7 - 64)) with | none => ab_req c = -1 | some r => ab_req c = nI r ∧ r < 400 := by
    unfold ab_req
    by_cases z : c < 448
    · rw [if_pos z, if_pos z]
    · rw [if_neg z, if_neg z]
      exact ⟨rfl, by omega⟩
  obtain ⟨s', e1, e2⟩ := rf_queue (s := s) (d := d) (t := t) (o := o) (n := n) (kind := ab_kind D A c) (stripe := ab_stripe A c) (due := due) (req := ab_req c) (rq := if c < 448 then none else some (c / 7 - 64)) (E := (A.2.1 (6 * d + t)).getLast?.map (fun a => W a.1)) (xr := A.2.2.1 (6 * d + t) 0) (xp := A.2.2.1 (6 * d + t) 1) (xl := A.2.2.1 (6 * d + t) 2) hd ht ho R12.1 ((R1 0 (by decide)).trans hn) (hp 0 (by decide)) (hp 1 (by decide)) (hp 2 (by decide)) hw0 (Q.2.2.2.2 0 (by decide)).1 (Q.2.2.2.2 0 (by decide)).2 (Q.2.2.2.2 1 (by decide)).1 (Q.2.2.2.2 1 (by decide)).2 (Q.2.2.2.2 2 (by decide)).1 (Q.2.2.2.2 2 (by decide)).2 hE hrq
  rw [← hn] at e2
  refine ⟨s', e1, e2.1, ?_⟩
  have v1 : ∀ g i w, (g ≠ 5 ∨ w ≠ 3) → (ab_app p (ab_pd A c) (6 * d + t) t c due).1 g i w = A.1 g i w := fun g i w h => ab_pd_1 A c g i w h
  have x0 : (ab_pd A c).1 0 0 0 = A.1 0 0 0 := ab_pd_1 A c 0 0 0 (by omega)
  have q1 : ∀ q', q' ≠ 6 * d + t → (ab_app p (ab_pd A c) (6 * d + t) t c due).2.1 q' = A.2.1 q' := fun q' h => by
    simp only [ab_app, ab_pd_2, if_neg h]
  have d1 : (ab_app p (ab_pd A c) (6 * d + t) t c due).2.2.2 = A.2.2.2 := by
    simp only [ab_app, ab_pd_2]
  have q2 : ∃ r pp l, (ab_app p (ab_pd A c) (6 * d + t) t c due).2.1 (6 * d + t) = A.2.1 (6 * d + t) ++ [(c, due, r, pp, l)] := by
    simp only [ab_app, ab_pd_2, if_pos]
    exact ⟨_, _, _, rfl⟩
  have lv : ∀ y, ab_live (ab_app p (ab_pd A c) (6 * d + t) t c due) y → y = c ∨ ab_live A y := by
    intro y h
    rcases h with ⟨q', hq', a, ha, hy⟩ | ⟨d', hd', hs⟩
    · by_cases z : q' = 6 * d + t
      · obtain ⟨r, pp, l, e⟩ := q2
        rw [z, e] at ha
        rcases List.mem_append.mp ha with ha | ha
        · exact .inr (by rw [← hy]; exact L _ _ hq ha)
        · rw [List.mem_singleton.mp ha] at hy
          exact .inl hy.symm
      · rw [q1 q' z] at ha
        exact .inr (by rw [← hy]; exact L _ _ hq' ha)
    · rw [d1] at hs
      exact .inr (.inr ⟨d', hd', hs⟩)
  have We : ∀ y, ab_live A y → (fun y => if y = c then o else W y) y = W y := fun y h => if_neg (hfr y h)
  have nE : ∀ q' a, q' < 42 → q' ≠ 6 * d + t → a ∈ A.2.1 q' → some (W a.1) ≠ (A.2.1 (6 * d + t)).getLast?.map (fun a => W a.1) := by
    intro q' a h1 h2 h3 h4
    cases hl : (A.2.1 (6 * d + t)).getLast? with
    | none => rw [hl] at h4; cases h4
    | some x =>
      rw [hl] at h4
      have m := List.mem_of_getLast? hl
      exact h2 (U1 q' _ a x h1 hq h3 m (R11 _ _ (L _ _ h1 h3) (L _ _ hq m) (Option.some.inj h4)))
  have nF : ∀ y, y ∈ F → some y ≠ (A.2.1 (6 * d + t)).getLast?.map (fun a => W a.1) := by
    intro y hy h4
    cases hl : (A.2.1 (6 * d + t)).getLast? with
    | none => rw [hl] at h4; cases h4
    | some x =>
      rw [hl] at h4
      have e : y = W x.1 := Option.some.inj h4
      exact R14 _ (L _ _ hq (List.mem_of_getLast? hl)) (by rw [← e]; exact List.mem_cons_of_mem _ hy)
  have nd := List.nodup_cons.mp R13
  refine ⟨?_, ?_, ?_, ?_, ?_, ?_, ?_, ?_, ?_, ?_, ?_, ?_, nd.2, ?_⟩
  · intro w hw
    rw [rq_oth e2 (by decide) (by decide) (by decide) (by omega), v1 0 0 w (by omega)]
    exact R1 w hw
  · rw [rq_oth e2 (by decide) (by decide) (by decide) (by omega), v1 0 0 9 (by omega)]
    exact R2
  · rw [rq_oth e2 (by decide) (by decide) (by decide) (by omega), v1 0 0 10 (by omega)]
    exact R3
  · intro q' hq'
    by_cases z : q' = 6 * d + t
    · subst z
      refine rq_own e2 rfl ?_ ?_ ?_ ?_ (if_pos rfl) (fun a ha => We _ (L _ _ hq ha)) (fun a ha => nO _ (L _ _ hq ha)) ?_ Q
      · by_cases z : p (8 + 3 * t + 2) ≤ 0
        · simp [ab_app, ab_pd_2, x0, z]
        · simp [ab_app, ab_pd_2, x0, z]
      · by_cases z : p (8 + 3 * t) ≤ 0
        · simp [ab_app, ab_pd_2, z]
        · simp [ab_app, ab_pd_2, x0, z]
      · simp [ab_app, ab_pd_2, x0]
      · by_cases z : p (8 + 3 * t + 2) ≤ 0
        · simp [ab_app, ab_pd_2, z]
        · simp [ab_app, ab_pd_2, x0, z]
      · exact ab_ndW (W := W) (A.2.1 (6 * d + t)) (U2 _ hq) (fun a b ha hb e => R11 _ _ (L _ _ hq ha) (L _ _ hq hb) e)
    · refine rq_Rq e2 z (q1 q' z) (fun w => ?_) (fun a ha => We _ (L _ _ hq' ha)) (fun a ha => nO _ (L _ _ hq' ha)) (fun a ha => nE q' a hq' z ha) (R4 q' hq')
      simp [ab_app, ab_pd_2, z]
  · intro d' hd'
    rw [rq_oth e2 (by decide) (by decide) (by decide) (by omega), rq_oth e2 (by decide) (by decide) (by decide) (by omega), rq_oth e2 (by decide) (by decide) (by decide) (by omega), rq_oth e2 (by decide) (by decide) (by decide) (by omega), v1 _ _ _ (by omega), v1 _ _ _ (by omega), v1 _ _ _ (by omega), v1 _ _ _ (by omega), d1]
    refine ⟨fun hh => ?_, (R5 d' hd').2⟩
    have k := (R5 d' hd').1 hh
    cases hs : A.2.2.2 d' with
    | none => rw [hs] at k; exact k
    | some y =>
      rw [hs] at k
      have e := We y (.inr ⟨d', hd', hs⟩)
      refine ⟨?_, k.2⟩
      show vn s 1 d' 0 = nI ((fun y => if y = c then o else W y) y)
      rw [e]
      exact k.1
  · intro d' k h1 h2
    rw [rq_oth e2 (by decide) (by decide) (by decide) (by omega), v1 _ _ _ (by omega)]
    exact R6 d' k h1 h2
  · intro k h1
    rw [rq_oth e2 (by decide) (by decide) (by decide) (by omega), v1 _ _ _ (by omega)]
    exact R7 k h1
  · intro r w h1 h2 h3
    rw [v1 0 0 2 (by omega)] at h2
    have k := R8 r w h1 h2 h3
    have e5 : vn s' 5 r w = if 5 = 5 ∧ some r = (if c < 448 then none else some (c / 7 - 64)) ∧ w = 3 then vn s 5 r w + 1 else vn s 5 r w := by
      rw [e2.2.1]
      by_cases z : 5 = 5 ∧ some r = (if c < 448 then none else some (c / 7 - 64)) ∧ w = 3
      · rw [if_pos z, if_pos z]
      · rw [if_neg z, if_neg z, if_neg (by omega), if_neg (by omega), if_neg (by omega), if_neg (by omega), if_neg (by omega), if_neg (by omega), if_neg (by omega), if_neg (by omega), if_neg (by omega), if_neg (by omega), if_neg (by omega), if_neg (by omega), if_neg (by omega), if_neg (by omega), if_neg (by omega)]
    rw [e5, k]
    show _ = (ab_pd A c).1 5 r w
    unfold ab_pd
    by_cases z : c < 448
    · rw [if_pos z, if_pos z, if_neg (fun x => by cases x.2.1)]
    · rw [if_neg z, if_neg z, ab_v_1]
      by_cases y : r = c / 7 - 64 ∧ w = 3
      · rw [if_pos ⟨rfl, by rw [y.1], y.2⟩, if_pos ⟨rfl, y⟩, y.1, y.2]
      · rw [if_neg (fun x => y ⟨Option.some.inj x.2.1, x.2.2⟩), if_neg (fun x => y x.2)]
  · intro t' w h1 h2
    rw [rq_oth e2 (by decide) (by decide) (by decide) (by omega), v1 _ _ _ (by omega)]
    exact R9 t' w h1 h2
  · intro y hy
    have t1 : ab_ten (ab_app p (ab_pd A c) (6 * d + t) t c due) y = ab_ten A y := by
      unfold ab_ten
      rw [v1 _ _ _ (by omega)]
    have t2 : ab_kind D (ab_app p (ab_pd A c) (6 * d + t) t c due) y = ab_kind D A y := by
      unfold ab_kind
      rw [v1 _ _ _ (by omega)]
    have t3 : ab_stripe (ab_app p (ab_pd A c) (6 * d + t) t c due) y = ab_stripe A y := by
      unfold ab_stripe
      rw [v1 _ _ _ (by omega)]
    unfold ab_Ro
    rw [t1, t2, t3]
    rcases lv y hy with z | z
    · show (if y = c then o else W y) < 2200 ∧ vn s' 7 (if y = c then o else W y) 0 = _ ∧ vn s' 7 (if y = c then o else W y) 1 = _ ∧ vn s' 7 (if y = c then o else W y) 2 = _ ∧ vn s' 7 (if y = c then o else W y) 4 = _
      rw [if_pos z, z, hten]
      refine ⟨ho, ?_, ?_, ?_, ?_⟩
      · rw [e2.2.1, if_neg (by omega), if_neg (by omega), if_neg (by omega), if_neg (by omega), if_neg (by omega), if_neg (by omega), if_neg (by omega), if_neg (by omega), if_neg (by omega), if_neg (by omega), if_neg (by omega), if_neg (by omega), if_neg (by omega), if_neg (by omega), if_pos ⟨rfl, rfl, rfl⟩]
      · rw [e2.2.1, if_neg (by omega), if_neg (by omega), if_neg (by omega), if_neg (by omega), if_neg (by omega), if_neg (by omega), if_neg (by omega), if_neg (by omega), if_neg (by omega), if_neg (by omega), if_neg (by omega), if_neg (by omega), if_neg (by omega), if_pos ⟨rfl, rfl, rfl⟩]
      · rw [e2.2.1, if_neg (by omega), if_neg (by omega), if_neg (by omega), if_neg (by omega), if_neg (by omega), if_neg (by omega), if_neg (by omega), if_neg (by omega), if_neg (by omega), if_neg (by omega), if_neg (by omega), if_neg (by omega), if_pos ⟨rfl, rfl, rfl⟩]
      · rw [e2.2.1, if_neg (by omega), if_neg (by omega), if_neg (by omega), if_neg (by omega), if_neg (by omega), if_neg (by omega), if_neg (by omega), if_neg (by omega), if_neg (by omega), if_neg (by omega), if_pos ⟨rfl, rfl, rfl⟩]
    · show (if y = c then o else W y) < 2200 ∧ vn s' 7 (if y = c then o else W y) 0 = _ ∧ vn s' 7 (if y = c then o else W y) 1 = _ ∧ vn s' 7 (if y = c then o else W y) 2 = _ ∧ vn s' 7 (if y = c then o else W y) 4 = _
      rw [if_neg (hfr y z), rq_op e2 (nO y z) (by omega), rq_op e2 (nO y z) (by omega), rq_op e2 (nO y z) (by omega), rq_op e2 (nO y z) (by omega)]
      exact R10 y z
  · intro a b ha hb e
    have e' : (if a = c then o else W a) = (if b = c then o else W b) := e
    rcases lv a ha with z | z
    · rcases lv b hb with y | y
      · rw [z, y]
      · rw [if_pos z, if_neg (hfr b y)] at e'
        exact absurd e'.symm (nO b y)
    · rcases lv b hb with y | y
      · rw [if_neg (hfr a z), if_pos y] at e'
        exact absurd e' (nO a z)
      · rw [if_neg (hfr a z), if_neg (hfr b y)] at e'
        exact R11 a b z y e'
  · refine ab_fl_eq F _ ?_ (fun y hy => rq_op e2 (fun z => nd.1 (by rw [← z]; exact hy)) (fun _ => nF y hy))
    have k : vn s' 0 0 8 = vn s 7 o 5 := by
      rw [e2.2.1, if_neg (by omega), if_neg (by omega), if_neg (by omega), if_neg (by omega), if_neg (by omega), if_neg (by omega), if_neg (by omega), if_neg (by omega), if_neg (by omega), if_neg (by omega), if_neg (by omega), if_neg (by omega), if_neg (by omega), if_neg (by omega), if_neg (by omega), if_pos ⟨rfl, rfl, rfl⟩]
    rw [k]
    exact R12.2.2
  · intro y hy hm
    rcases lv y hy with z | z
    · have hm' : (if y = c then o else W y) ∈ F := hm
      rw [if_pos z] at hm'
      exact nd.1 hm'
    · have hm' : (if y = c then o else W y) ∈ F := hm
      rw [if_neg (hfr y z)] at hm'
      exact R14 y z (List.mem_cons_of_mem _ hm')
