/-! Loops of the printed functions. -/
def pm_lst {X E : Type} (k : X → Option E) (o : Option (X ⊕ E)) : Option E := match o with
  | none => none
  | some (.inl x) => k x
  | some (.inr e) => some e
def pm_loop {X E : Type} : Nat → (X → Option (X ⊕ E)) → X → Option E
  | 0, _, _ => none
  | n + 1, B, x => pm_lst (pm_loop n B) (B x)
/-- how often a loop may go round -/
def pm_fu : Nat := 1000000
def pm_le : List (Option Value) → List (Option Value) → Prop
  | [], [] => True
  | none :: t, _ :: t' => pm_le t t'
  | some v :: t, some w :: t' => v = w ∧ pm_le t t'
  | _, _ => False
theorem pm_le_at : ∀ (L L' : List (Option Value)), pm_le L L' → L.length = L'.length ∧ ∀ (i : Nat) (v : Value), L[i]? = some (some v) → L'[i]? = some (some v) := by
  intro L
  induction L with
  | nil =>
    intro L' h
    cases L' with
    | nil => exact ⟨rfl, fun i v hi => by cases hi⟩
    | cons a t => exact h.elim
  | cons a t ih =>
    intro L' h
    cases L' with
    | nil => cases a <;> exact h.elim
    | cons b t' =>
      have key : pm_le t t' ∧ (∀ v, a = some v → b = some v) := by
        cases a with
        | none => exact ⟨h, fun v e => by cases e⟩
        | some v =>
          cases b with
          | none => exact h.elim
          | some w => exact ⟨h.2, fun v' e => by rw [← e, h.1]⟩
      obtain ⟨k1, k2⟩ := ih t' key.1
      refine ⟨by simp [k1], fun i v hi => ?_⟩
      cases i with
      | zero => have := key.2 v (Option.some.inj hi); rw [this]; rfl
      | succ i => exact k2 i v hi
theorem pm_Wg.weak {m d pc : Nat} {r : Option Value ⊕ String} {hf h : pm_H} {L L' : List (Option Value)} {S : List Value} (hlen : L.length = L'.length) (hle : pm_le L L') (kk : pm_Wg m d r hf (pc, L, S, h)) : pm_Wg m d r hf (pc, L', S, h) := by
  obtain ⟨k1, k2⟩ := pm_le_at L L' hle
  refine ⟨kk.1, kk.2.1, kk.2.2.1, fun l hl p e R s mid args below meth c G A ad c0 s0 C hW hlen9 hc0 hs0 hcr hsr => ?_⟩
  intro ls H locs ws hr
  exact kk.2.2.2 l hl p e R s mid args below meth c G A ad c0 s0 C hW (k1.trans hlen9) hc0 hs0 hcr hsr ls H locs ws ⟨⟨hr.1.1.trans k1.symm, hr.1.2.1, fun i v hv => hr.1.2.2 i v (k2 i v hv)⟩, fun i v hv => hr.2.1 i v (k2 i v hv), hr.2.2⟩
