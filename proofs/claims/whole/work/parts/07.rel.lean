/-! The pure machine's state against the real one's. -/
abbrev pm_G : Type := va_G × (Nat → ClassId) × (Nat → Nat) × (Nat → Nat) × (UInt32 → Value) × Nat × Nat × (Nat → Int32)
def pm_cv (G : pm_G) (ad : Nat → Nat) (v : Value) : Value := match v with
  | .ref i => .ref (ad i)
  | .retAddr k => .ref (G.2.2.1 k)
  | .float w => G.2.2.2.2.1 w
  | .double w => .ref (G.2.2.2.1 w.toNat)
  | .int x => .int x
  | .long x => .long x
  | .null => .null
def pm_lc (f : Value → Value) (L : List (Option Value)) (ls : Array Slot) : Prop := ls.size = L.length ∧ lv_wf ls ∧ ∀ (i : Nat) (v : Value), L[i]? = some (some v) → ls[i]? = some (.val (f v))
def pm_ce (G : pm_G) (ad : Nat → Nat) (c : pm_E) : va_E := match c with
  | .inl (t, x) => .inl (G.2.1 t, x)
  | .inr (ci, fs) => .inr (ci, fs.map (pm_cv G ad))
def pm_scr (c : pm_E) : Prop := ∃ x, c = .inl (9, x)
def pm_ok (h : pm_H) (v : Value) : Prop := ∀ i, v = .ref i → ∃ c, pm_lk h i = some c
def pm_hp (G : pm_G) (ad : Nat → Nat) (h : pm_H) (ws : va_W) : Prop :=
  (∀ i c, pm_lk h i = some c → ¬ pm_scr c → ∃ k : Nat, ws[k]? = some (ad i, pm_ce G ad c)) ∧
  (∀ i c, pm_lk h i = some c → pm_scr c → ad i = G.2.2.2.2.2.1 ∧ c = .inl (9, G.2.2.2.2.2.2.1, .inl G.2.2.2.2.2.2.2)) ∧
  (∀ i j c c', pm_lk h i = some c → pm_lk h j = some c' → ¬ pm_scr c → ¬ pm_scr c' → ad i = ad j → i = j) ∧
  (∀ i ci fs, pm_lk h i = some (.inr (ci, fs)) → ∀ v ∈ fs, pm_ok h v)
def pm_tl (G : pm_G) : List (ClassId × FieldType) := [(G.2.1 0, .int), (G.2.1 1, .long), (G.2.1 2, .byte), (G.2.1 3, .boolean)]
theorem pm_getD_set {α : Type} (l : List α) (a b : Nat) (x d : α) (ha : a < l.length) : (l.set a x).getD b d = if b = a then x else l.getD b d := by
  rw [List.getD_eq_getElem?_getD, List.getD_eq_getElem?_getD, List.getElem?_set]
  by_cases h : b = a
  · subst h; simp [ha]
  · rw [if_neg (fun e => h e.symm), if_neg h]
theorem pm_lk_lt {h : pm_H} {i : Nat} {c : pm_E} (h0 : pm_lk h i = some c) : i / 64 < h.1.length := by
  rcases Nat.lt_or_ge (i / 64) h.1.length with q | q
  · exact q
  · unfold pm_lk at h0
    rw [List.getD_eq_getElem?_getD, List.getElem?_eq_none q] at h0
    cases h0
theorem pm_lk_st {h : pm_H} {i : Nat} {c c0 : pm_E} (h0 : pm_lk h i = some c0) (j : Nat) : pm_lk (pm_st h i c) j = if j = i then some c else pm_lk h j := by
  have hl := pm_lk_lt h0
  unfold pm_lk pm_st
  unfold pm_lk at h0
  dsimp only
  rw [pm_getD_set _ _ _ _ _ hl]
  by_cases e1 : j / 64 = i / 64
  · rw [if_pos e1, List.getElem?_set]
    have hk := (List.getElem?_eq_some_iff.mp h0).1
    by_cases e2 : j % 64 = i % 64
    · rw [if_pos e2.symm, if_pos hk, if_pos (by omega)]
    · rw [if_neg (fun q => e2 q.symm), if_neg (by omega), e1]
  · rw [if_neg e1, if_neg (by omega)]
theorem pm_lk_pu {h : pm_H} {g n : Nat} {c : pm_E} (hg : g < h.1.length) (hl : (h.1.getD g []).length < 64) (j : Nat) : pm_lk (pm_pu h g c n) j = if j = pm_id h g then some c else pm_lk h j := by
  unfold pm_lk pm_pu pm_id
  dsimp only
  rw [pm_getD_set _ _ _ _ _ hg]
  by_cases e1 : j / 64 = g
  · rw [if_pos e1]
    by_cases e2 : j % 64 = (h.1.getD g []).length
    · rw [if_pos (by omega), e2, List.getElem?_concat_length]
    · rw [if_neg (by omega), e1]
      rcases Nat.lt_or_ge (j % 64) (h.1.getD g []).length with q | q
      · rw [List.getElem?_append_left q]
      · rw [List.getElem?_eq_none q, List.getElem?_eq_none (by simp only [List.length_append, List.length_singleton]; omega)]
  · rw [if_neg e1, if_neg (by omega)]
theorem pm_lk_new {h : pm_H} {g : Nat} (hl : (h.1.getD g []).length < 64) : pm_lk h (pm_id h g) = none := by
  unfold pm_lk pm_id
  rw [show (g * 64 + (h.1.getD g []).length) / 64 = g by omega, show (g * 64 + (h.1.getD g []).length) % 64 = (h.1.getD g []).length by omega]
  exact List.getElem?_eq_none (Nat.le_refl _)
/-- a cell is changed -/
theorem pm_hp_st {G : pm_G} {ad : Nat → Nat} {h : pm_H} {ws : va_W} {i k : Nat} {c c0 : pm_E} {e0 : va_E} (H : pm_hp G ad h ws) (h0 : pm_lk h i = some c0) (n0 : ¬ pm_scr c0) (nc : ¬ pm_scr c) (hk : ws[k]? = some (ad i, e0)) (hf : ∀ ci fs, c = .inr (ci, fs) → ∀ v ∈ fs, pm_ok h v) : pm_hp G ad (pm_st h i c) (ws.set k (ad i, pm_ce G ad c)) := by
  obtain ⟨H1, H2, H3, H4⟩ := H
  have live : ∀ v, pm_ok h v → pm_ok (pm_st h i c) v := fun v hv j e => by
    obtain ⟨c', hc'⟩ := hv j e
    rw [pm_lk_st h0]
    by_cases q : j = i
    · rw [if_pos q]; exact ⟨_, rfl⟩
    · rw [if_neg q]; exact ⟨_, hc'⟩
  refine ⟨fun j d hj nd => ?_, fun j d hj sd => ?_, fun a b d d' ha hb nd nd' e => ?_, fun j ci fs hj v hv => ?_⟩
  · rw [pm_lk_st h0] at hj
    by_cases q : j = i
    · subst q
      rw [if_pos rfl] at hj
      cases hj
      exact ⟨k, List.getElem?_set_self (List.getElem?_eq_some_iff.mp hk).1⟩
    · rw [if_neg q] at hj
      obtain ⟨k', hk'⟩ := H1 j d hj nd
      refine ⟨k', ?_⟩
      rw [List.getElem?_set_ne, hk']
      intro ekk
      subst ekk
      rw [hk] at hk'
      exact q (H3 j i d c0 hj h0 nd n0 (congrArg Prod.fst (Option.some.inj hk')).symm)
  · rw [pm_lk_st h0] at hj
    by_cases q : j = i
    · rw [if_pos q] at hj
      cases hj
      exact absurd sd nc
    · rw [if_neg q] at hj
      exact H2 j d hj sd
  · rw [pm_lk_st h0] at ha hb
    by_cases q : a = i
    · by_cases q2 : b = i
      · rw [q, q2]
      · rw [if_neg q2] at hb
        rw [q] at e ⊢
        exact H3 i b c0 d' h0 hb n0 nd' e
    · rw [if_neg q] at ha
      by_cases q2 : b = i
      · rw [q2] at e ⊢
        exact H3 a i d c0 ha h0 nd n0 e
      · rw [if_neg q2] at hb
        exact H3 a b d d' ha hb nd nd' e
  · rw [pm_lk_st h0] at hj
    by_cases q : j = i
    · rw [if_pos q] at hj
      exact live v (hf ci fs (Option.some.inj hj) v hv)
    · rw [if_neg q] at hj
      exact live v (H4 j ci fs hj v hv)
theorem pm_cv_same {G : pm_G} {ad ad' : Nat → Nat} {v : Value} {h : pm_H} (hv : pm_ok h v) (ha : ∀ i c, pm_lk h i = some c → ad' i = ad i) : pm_cv G ad' v = pm_cv G ad v := by
  cases v with
  | ref i =>
    obtain ⟨c, hc⟩ := hv i rfl
    show Value.ref (ad' i) = Value.ref (ad i)
    rw [ha i c hc]
  | _ => rfl
theorem pm_ce_same {G : pm_G} {ad ad' : Nat → Nat} {h : pm_H} {c : pm_E} (hc : ∀ ci fs, c = .inr (ci, fs) → ∀ v ∈ fs, pm_ok h v) (ha : ∀ i c, pm_lk h i = some c → ad' i = ad i) : pm_ce G ad' c = pm_ce G ad c := by
  rcases c with ⟨t, x⟩ | ⟨ci, fs⟩
  · rfl
  · show (Sum.inr (ci, fs.map (pm_cv G ad')) : va_E) = Sum.inr (ci, fs.map (pm_cv G ad))
    rw [List.map_congr_left (fun v hv => pm_cv_same (hc ci fs rfl v hv) ha)]
theorem pm_map_same {G : pm_G} {ad ad' : Nat → Nat} {h : pm_H} {S : List Value} (hS : ∀ v ∈ S, pm_ok h v) (ha : ∀ i c, pm_lk h i = some c → ad' i = ad i) : S.map (pm_cv G ad') = S.map (pm_cv G ad) := List.map_congr_left (fun v hv => pm_cv_same (hS v hv) ha)
/-- a cell is made -/
theorem pm_hp_pu {G : pm_G} {ad : Nat → Nat} {h : pm_H} {ws : va_W} {g n a : Nat} {c : pm_E} (H : pm_hp G ad h ws) (hg : g < h.1.length) (hl : (h.1.getD g []).length < 64) (nc : ¬ pm_scr c) (hf : ∀ ci fs, c = .inr (ci, fs) → ∀ v ∈ fs, ∀ i, v ≠ .ref i) (hws : ∀ (k : Nat) (q : Nat × va_E), ws[k]? = some q → q.1 ≠ a) : pm_hp G (va_up ad (pm_id h g) a) (pm_pu h g c n) (ws ++ [(a, pm_ce G (va_up ad (pm_id h g) a) c)]) ∧ (∀ i c', pm_lk h i = some c' → va_up ad (pm_id h g) a i = ad i) ∧ (∀ i c', pm_lk h i = some c' → pm_lk (pm_pu h g c n) i = some c') := by
  obtain ⟨H1, H2, H3, H4⟩ := H
  have hnone := pm_lk_new (h := h) hl
  have ne : ∀ i c', pm_lk h i = some c' → i ≠ pm_id h g := fun i c' hi e => by rw [e, hnone] at hi; cases hi
  have hsame : ∀ i c', pm_lk h i = some c' → va_up ad (pm_id h g) a i = ad i := fun i c' hi => by
    unfold va_up
    rw [if_neg (ne i c' hi)]
  have hkeep : ∀ i c', pm_lk h i = some c' → pm_lk (pm_pu h g c n) i = some c' := fun i c' hi => by
    rw [pm_lk_pu hg hl, if_neg (ne i c' hi)]
    exact hi
  have hnew : va_up ad (pm_id h g) a (pm_id h g) = a := by unfold va_up; rw [if_pos rfl]
  have live : ∀ v, pm_ok h v → pm_ok (pm_pu h g c n) v := fun v hv j e => by
    obtain ⟨c', hc'⟩ := hv j e
    exact ⟨c', hkeep j c' hc'⟩
  refine ⟨⟨fun j d hj nd => ?_, fun j d hj sd => ?_, fun x y d d' hx hy nd nd' e => ?_, fun j ci fs hj v hv => ?_⟩, hsame, hkeep⟩
  · rw [pm_lk_pu hg hl] at hj
    by_cases q : j = pm_id h g
    · rw [if_pos q] at hj
      cases hj
      refine ⟨ws.length, ?_⟩
      rw [List.getElem?_concat_length, q, hnew]
    · rw [if_neg q] at hj
      obtain ⟨k, hk⟩ := H1 j d hj nd
      refine ⟨k, ?_⟩
      rw [List.getElem?_append_left (List.getElem?_eq_some_iff.mp hk).1, hk, hsame j d hj, pm_ce_same (fun ci fs e => by subst e; exact H4 j ci fs hj) hsame]
  · rw [pm_lk_pu hg hl] at hj
    by_cases q : j = pm_id h g
    · rw [if_pos q] at hj
      cases hj
      exact absurd sd nc
    · rw [if_neg q] at hj
      rw [hsame j d hj]
      exact H2 j d hj sd
  · rw [pm_lk_pu hg hl] at hx hy
    by_cases q : x = pm_id h g
    · by_cases q2 : y = pm_id h g
      · rw [q, q2]
      · rw [if_neg q2] at hy
        rw [q, hnew, hsame y d' hy] at e
        obtain ⟨k, hk⟩ := H1 y d' hy nd'
        exact absurd e.symm (hws k _ hk)
    · rw [if_neg q] at hx
      by_cases q2 : y = pm_id h g
      · rw [q2, hnew, hsame x d hx] at e
        obtain ⟨k, hk⟩ := H1 x d hx nd
        exact absurd e (hws k _ hk)
      · rw [if_neg q2] at hy
        rw [hsame x d hx, hsame y d' hy] at e
        exact H3 x y d d' hx hy nd nd' e
  · rw [pm_lk_pu hg hl] at hj
    by_cases q : j = pm_id h g
    · rw [if_pos q] at hj
      intro i e
      exact absurd e (hf ci fs (Option.some.inj hj) v hv i)
    · rw [if_neg q] at hj
      exact live v (H4 j ci fs hj v hv)
