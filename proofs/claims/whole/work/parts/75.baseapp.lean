/-! The base is kept by append. -/
theorem ab_app_2 (p : Nat → Int32) (A : ab_S) (q t c : Nat) (due : Int32) : ∃ x, x.1 = c ∧ (∀ q', (ab_app p A q t c due).2.1 q' = if q' = q then A.2.1 q ++ [x] else A.2.1 q') ∧ (x.2.2.1 = if p (8 + 3 * t) ≤ 0 then none else some (ab_nx (A.2.2.1 q 0) (1000 * (A.1 0 0 0).toInt64) (p (8 + 3 * t)))) ∧ x.2.2.2.1 = ab_nx (A.2.2.1 q 1) (1000 * (A.1 0 0 0).toInt64) (p (8 + 3 * t + 1)) ∧ (x.2.2.2.2 = if p (8 + 3 * t + 2) ≤ 0 then 0 else ab_nx (A.2.2.1 q 2) (1000 * (A.1 0 0 0).toInt64) (p (8 + 3 * t + 2))) :=
  ⟨_, rfl, fun _ => rfl, rfl, rfl, rfl⟩
/-- the three tags' bounds -/
theorem ab_tb_app {A : ab_S} {N n : Nat} {p : Nat → Int32} {q t c : Nat} {due : Int32} (hN : N ≤ 1000000000000) (hn : A.1 0 0 0 = nI n) (hn' : n ≤ 100000) (hq : q < 42) (hw : ¬ p (8 + 3 * t + 1) ≤ 0) (H : ab_tb A N) : ab_tb (ab_app p A q t c due) (N + 1) := by
  have nx : ∀ w sh, w < 3 → ¬ sh ≤ 0 → ab_bd (N + 1) (ab_nx (A.2.2.1 q w) (1000 * (A.1 0 0 0).toInt64) sh) := fun w sh hw' hs => ab_bd_nx hN hn hn' hs (fun y hy => (H q hq).2 w hw' y hy)
  intro q' hq'
  obtain ⟨x, x1, x2, x3, x4, x5⟩ := ab_app_2 p A q t c due
  refine ⟨?_, ?_⟩
  · intro a ha
    rw [x2] at ha
    have old : ∀ q'', q'' < 42 → a ∈ A.2.1 q'' → (∀ y, a.2.2.1 = some y → ab_bd (N + 1) y) ∧ ab_bd (N + 1) a.2.2.2.1 ∧ ab_bd (N + 1) a.2.2.2.2 := fun q'' h1 h2 => by
      have h := (H.le (Nat.le_succ N)) q'' h1
      exact h.1 a h2
    by_cases z : q' = q
    · rw [if_pos z] at ha
      rcases List.mem_append.mp ha with h | h
      · exact old q hq h
      · rw [List.mem_singleton.mp h, x3, x4, x5]
        refine ⟨fun y hy => ?_, nx 1 _ (by decide) hw, ?_⟩
        · split at hy
          · cases hy
          · rename_i u
            rw [← Option.some.inj hy]
            exact nx 0 _ (by decide) u
        · split
          · unfold ab_bd
            rw [show (0 : Int64).toInt = 0 from rfl]
            omega
          · rename_i u
            exact nx 2 _ (by decide) u
    · rw [if_neg z] at ha
      exact old q' hq' ha
  · intro w hw' y hy
    unfold ab_app at hy
    simp only [] at hy
    split at hy
    · rename_i u
      rw [← Option.some.inj hy]
      exact nx 0 _ (by decide) u.2.2
    · split at hy
      · rw [← Option.some.inj hy]
        exact nx 1 _ (by decide) hw
      · split at hy
        · rename_i u
          rw [← Option.some.inj hy]
          exact nx 2 _ (by decide) u.2.2
        · exact ((H q' hq').2 w hw' y hy).le (Nat.le_succ N)
theorem ab_live_app {p : Nat → Int32} {A : ab_S} {q t c : Nat} {due : Int32} (hq : q < 42) (y : Nat) : ab_live (ab_app p A q t c due) y ↔ (y = c ∨ ab_live A y) := by
  obtain ⟨x, x1, x2, x3⟩ := ab_app_2 p A q t c due
  constructor
  · rintro (⟨q', hq', a, ha, hy⟩ | h)
    · rw [x2] at ha
      by_cases z : q' = q
      · rw [if_pos z] at ha
        rcases List.mem_append.mp ha with h | h
        · exact .inr (.inl ⟨q, hq, a, h, hy⟩)
        · rw [List.mem_singleton.mp h, x1] at hy
          exact .inl hy.symm
      · rw [if_neg z] at ha
        exact .inr (.inl ⟨q', hq', a, ha, hy⟩)
    · exact .inr (.inr h)
  · rintro (h | ⟨q', hq', a, ha, hy⟩ | h)
    · exact .inl ⟨q, hq, x, by rw [x2, if_pos rfl]; exact List.mem_append_right _ List.mem_cons_self, by rw [x1, h]⟩
    · refine .inl ⟨q', hq', a, ?_, hy⟩
      rw [x2]
      by_cases z : q' = q
      · rw [if_pos z]
        exact List.mem_append_left _ (z ▸ ha)
      · rw [if_neg z]
        exact ha
    · exact .inr h
theorem ab_U_app {p : Nat → Int32} {A : ab_S} {q t c : Nat} {due : Int32} (hq : q < 42) (hc : c < 3248) (hL : (A.2.1 q).length < 2999) (hf : ¬ ab_live A c) (H : ab_U A) : ab_U (ab_app p A q t c due) := by
  obtain ⟨U1, U2, U3, U4, U5, U6, U7⟩ := H
  obtain ⟨x, x1, x2, x3⟩ := ab_app_2 p A q t c due
  have mem : ∀ q' a, a ∈ (ab_app p A q t c due).2.1 q' → a ∈ A.2.1 q' ∨ (q' = q ∧ a = x) := by
    intro q' a ha
    rw [x2] at ha
    by_cases z : q' = q
    · rw [if_pos z] at ha
      rcases List.mem_append.mp ha with h | h
      · exact .inl (z ▸ h)
      · exact .inr ⟨z, List.mem_singleton.mp h⟩
    · rw [if_neg z] at ha
      exact .inl ha
  have nl : ∀ q' a, q' < 42 → a ∈ A.2.1 q' → a.1 ≠ c := fun q' a h1 h2 e => hf (.inl ⟨q', h1, a, h2, e⟩)
  refine ⟨?_, ?_, ?_, ?_, ?_, U6, U7⟩
  · intro q1 q2 a b h1 h2 ha hb e
    rcases mem _ _ ha with ha | ⟨ha, rfl⟩ <;> rcases mem _ _ hb with hb | ⟨hb, hb'⟩
    · exact U1 q1 q2 a b h1 h2 ha hb e
    · rw [hb', x1] at e
      exact absurd e (nl _ _ h1 ha)
    · rw [x1] at e
      exact absurd e.symm (nl _ _ h2 hb)
    · rw [ha, hb]
  · intro q' hq'
    rw [x2]
    by_cases z : q' = q
    · rw [if_pos z, List.map_append, List.nodup_append]
      refine ⟨U2 q hq, by simp, ?_⟩
      intro a ha b hb
      obtain ⟨a', ha', rfl⟩ := List.mem_map.mp ha
      rw [List.map_cons, List.map_nil, List.mem_singleton] at hb
      rw [hb, x1]
      exact nl _ _ hq ha'
    · rw [if_neg z]
      exact U2 q' hq'
  · intro q' a hq' ha
    rcases mem _ _ ha with ha | ⟨_, rfl⟩
    · exact U3 q' a hq' ha
    · rw [x1]
      exact hc
  · intro q' hq'
    rw [x2]
    by_cases z : q' = q
    · rw [if_pos z, List.length_append, List.length_singleton]
      omega
    · rw [if_neg z]
      exact U4 q' hq'
  · intro d y q' a hd hq' hy ha
    rcases mem _ _ ha with ha | ⟨_, rfl⟩
    · exact U5 d y q' a hd hq' hy ha
    · rw [x1]
      intro e
      exact hf (.inr ⟨d, hd, by rw [e]; exact hy⟩)
theorem ab_pd_3 (A : ab_S) (c r : Nat) : (ab_pd A c).1 5 r 3 = if 448 ≤ c ∧ r = c / 7 - 64 then A.1 5 r 3 + 1 else A.1 5 r 3 := by
  unfold ab_pd
  by_cases u : c < 448
  · rw [if_pos u, if_neg (by omega)]
  · rw [if_neg u, ab_v_1]
    by_cases v : r = c / 7 - 64
    · rw [if_pos ⟨rfl, v, rfl⟩, if_pos ⟨by omega, v⟩, v]
    · rw [if_neg (by omega), if_neg (by omega)]
/-- the base is kept -/
theorem ab_B_app {D S T m n N d t c : Nat} {A : ab_S} {L : Nat → Bool} {p : Nat → Int32} {due : Int32} (hd : d ≤ D) (ht : t < T) (hcd : c % 7 = d) (hw : ¬ p (8 + 3 * t + 1) ≤ 0) (hf : L c = false) (hc : (c < 448 ∧ c / 7 < S) ∨ (448 ≤ c ∧ c / 7 - 64 < m)) (hten : ab_ten A c = nI t) (hN : N + 1 ≤ 1000000000000) (hn : ab_cnt L 3248 < 2900) (H : ab_B D S T m n N A L) : ab_B D S T m n (N + 1) (ab_app p (ab_pd A c) (6 * d + t) t c due) (ab_L L c true) := by
  obtain ⟨B1, B2, B3, B4, B5, B6, B7, B8, B9, B10⟩ := H
  have hq : 6 * d + t < 42 := by omega
  have nl : ¬ ab_live A c := fun h => by
    rw [(B2 c).mpr h] at hf
    cases hf
  have hpd : (ab_pd A c).2 = A.2 := ab_pd_2 A c
  have nl' : ¬ ab_live (ab_pd A c) c := fun h => nl ((ab_live_2 hpd c).mp h)
  have v1 : ∀ g i w, g ≠ 5 ∨ w ≠ 3 → (ab_app p (ab_pd A c) (6 * d + t) t c due).1 g i w = A.1 g i w := fun g i w h => ab_pd_1 A c g i w h
  have len : (A.2.1 (6 * d + t)).length < 2999 := by
    have := ab_nd_len (L := L) 3248 ((A.2.1 (6 * d + t)).map (fun a => a.1)) (B1.2.1 _ hq) (fun x hx => by
      obtain ⟨a, ha, rfl⟩ := List.mem_map.mp hx
      exact ⟨B1.2.2.1 _ a hq ha, (B2 a.1).mpr (.inl ⟨_, hq, a, ha, rfl⟩)⟩)
    rw [List.length_map] at this
    omega
  have ten : ∀ y, ab_ten (ab_app p (ab_pd A c) (6 * d + t) t c due) y = ab_ten A y := fun y => by
    unfold ab_ten
    rw [v1 _ _ _ (by omega)]
  refine ⟨ab_U_app hq (by omega) (by rw [hpd]; exact len) nl' (ab_U_2 hpd B1), ?_, ?_, ?_, ?_, ?_, ?_, ?_, ab_tb_app B10.2.2.2 (n := n) (by rw [ab_pd_1 _ _ _ _ _ (by omega)]; exact B6.2.2.2) B6.2.2.1 hq hw (ab_tb_2 hpd B9), B10.1, B10.2.1, B10.2.2.1, hN⟩
  · intro y
    rw [ab_live_app hq, ab_live_2 hpd]
    unfold ab_L
    by_cases u : y = c
    · rw [if_pos u]
      exact ⟨fun _ => .inl u, fun _ => rfl⟩
    · rw [if_neg u, B2]
      exact ⟨fun h => .inr h, fun h => h.resolve_left u⟩
  · intro q a hq' ha
    rw [ten]
    obtain ⟨x, x1, x2, x3⟩ := ab_app_2 p (ab_pd A c) (6 * d + t) t c due
    rw [x2] at ha
    by_cases z : q = 6 * d + t
    · rw [if_pos z] at ha
      rcases List.mem_append.mp ha with h | h
      · rw [hpd] at h
        exact B3 q a hq' (z ▸ h)
      · rw [List.mem_singleton.mp h, x1, hten]
        refine ⟨by omega, ?_, by omega, by omega⟩
        congr 1
        omega
    · rw [if_neg z, hpd] at ha
      exact B3 q a hq' ha
  · intro d' y hd' h
    have h' : A.2.2.2 d' = some y := by
      rw [← hpd]
      exact h
    exact B4 d' y hd' h'
  · intro y hy
    unfold ab_L at hy
    by_cases u : y = c
    · rw [u]
      exact hc
    · rw [if_neg u] at hy
      exact B5 y hy
  · rw [v1 _ _ _ (by omega), v1 _ _ _ (by omega)]
    exact B6
  · intro r hr
    obtain ⟨g1, g2, g3, g4⟩ := B7 r hr
    rw [v1 _ _ _ (by omega), v1 _ _ _ (by omega), v1 _ _ _ (by omega)]
    refine ⟨g1, g2, g3, ?_⟩
    show (ab_pd A c).1 5 r 3 = _
    rw [ab_pd_3]
    by_cases u : 448 ≤ c ∧ r = c / 7 - 64
    · rw [if_pos u, g4, nI_1]
      have e : 64 + r = c / 7 := by omega
      rw [e, ab_row_up hf]
    · rw [if_neg u, g4, ab_row_L (by omega)]
  · intro d' hd'
    have e2 : (ab_app p (ab_pd A c) (6 * d + t) t c due).2.2.2 d' = A.2.2.2 d' := by
      rw [← hpd]
      rfl
    rw [e2, v1 _ _ _ (by omega), v1 _ _ _ (by omega)]
    exact B8 d' hd'
