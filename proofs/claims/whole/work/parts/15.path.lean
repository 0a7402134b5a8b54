/-! Straight code: nothing is lost, counts only grow. -/
def pm_mo (h h' : pm_H) : Prop := h.2.2.1 ≤ h'.2.2.1 ∧ h.2.2.2 ≤ h'.2.2.2 ∧ ∀ i c, pm_lk h i = some c → ∃ c', pm_lk h' i = some c'
theorem pm_mo_rf {h : pm_H} : pm_mo h h := ⟨Nat.le_refl _, Nat.le_refl _, fun _ c hc => ⟨c, hc⟩⟩
theorem pm_mo.trans {h1 h2 h3 : pm_H} (a : pm_mo h1 h2) (b : pm_mo h2 h3) : pm_mo h1 h3 := ⟨Nat.le_trans a.1 b.1, Nat.le_trans a.2.1 b.2.1, fun i c hc => by
  obtain ⟨c', hc'⟩ := a.2.2 i c hc
  exact b.2.2 i c' hc'⟩
theorem pm_mo_st {h : pm_H} {i : Nat} {c c0 : pm_E} (h0 : pm_lk h i = some c0) : pm_mo h (pm_st h i c) := ⟨Nat.le_refl _, Nat.le_refl _, fun j d hd => by
  rw [pm_lk_st h0]
  by_cases q : j = i
  · rw [if_pos q]; exact ⟨_, rfl⟩
  · rw [if_neg q]; exact ⟨_, hd⟩⟩
theorem pm_mo_pu {h : pm_H} {g n : Nat} {c : pm_E} (hb : (Nat.blt g h.1.length && Nat.blt (h.1.getD g []).length 64) = true) : pm_mo h (pm_pu h g c n) := by
  simp only [Bool.and_eq_true, Nat.blt_eq] at hb
  refine ⟨Nat.le_succ _, Nat.le_add_right _ _, fun j d hd => ?_⟩
  rw [pm_lk_pu hb.1 hb.2]
  by_cases q : j = pm_id h g
  · rw [if_pos q]; exact ⟨_, rfl⟩
  · rw [if_neg q]; exact ⟨_, hd⟩
def pm_ml1 (L : List (Option Value)) (h : pm_H) (f : pm_F) : Prop := f.2.1.length = L.length ∧ pm_mo h f.2.2.2
theorem pm_s2_len (L : List (Option Value)) (i : Nat) (v : Value) : (pm_s2 L i v).length = L.length := by
  unfold pm_s2
  rw [List.length_set, pm_s1_len]
theorem pm_alc_mo {g n pc : Nat} {h : pm_H} {c : pm_E} {L : List (Option Value)} {S : List Value} {P P' : Option Prop} {f : pm_F} (hx : pm_alc g h c n pc L S P = some (P', f)) : pm_ml1 L h f := by
  unfold pm_alc at hx
  split at hx
  · rename_i hb
    cases hx
    exact ⟨rfl, pm_mo_pu hb⟩
  · cases hx
theorem pm_ex_mo {I : Instr} {r r2 dir pc : Nat} {L : List (Option Value)} {S : List Value} {h : pm_H} {P : Option Prop} {f : pm_F} (hx : pm_ex I r r2 dir pc L S h = some (P, f)) : pm_ml1 L h f := by
  cases I <;> dsimp only [pm_ex] at hx
  case new i =>
    unfold pm_new at hx
    split at hx
    · exact pm_alc_mo hx
    · cases hx
  case newarray t =>
    unfold pm_nar at hx
    split at hx
    · split at hx
      · split at hx <;> first | exact pm_alc_mo hx | cases hx
      · cases hx
    · cases hx
  all_goals first
    | (cases hx; exact ⟨rfl, pm_mo_rf⟩)
    | (cases hx; done)
    | ((try simp only [pm_lda, pm_ldi, pm_ldl, pm_sti, pm_sta, pm_stl, pm_i1, pm_i2, pm_d2, pm_l2, pm_dl2, pm_if, pm_ic, pm_br, pm_gf, pm_pf, pm_al, pm_as, pm_len, pm_lib, pm_cpy, pm_tsw] at hx)
       repeat' split at hx
       all_goals first
         | (cases hx; exact ⟨rfl, pm_mo_rf⟩)
         | (cases hx; done)
         | (cases hx; exact ⟨pm_s1_len _ _ _, pm_mo_rf⟩)
         | (cases hx; exact ⟨pm_s2_len _ _ _, pm_mo_rf⟩)
         | (cases hx; exact ⟨rfl, pm_mo_st (by assumption)⟩))
theorem pm_ft_mem {tb : List pm_I} {pc : Nat} {q : Instr × Nat × Nat} (h : pm_ft tb pc = some q) : (pc, q.1, q.2.1, q.2.2) ∈ tb := by
  induction tb with
  | nil => cases h
  | cons a t ih =>
    obtain ⟨k, e⟩ := a
    unfold pm_ft at h
    split at h
    · rename_i hb
      have hk := Nat.eq_of_beq_eq_true hb
      cases h
      rw [hk]
      exact List.mem_cons_self
    · exact List.mem_cons_of_mem _ (ih h)
section PMS
variable {m d : Nat} {p : Program} {l : Launch} {e : Env} {R : Room} {s : State} {mid : MethodId} {args : Array Value} {below : List Frame} {meth : Method} {c : Code} {Q : State → Prop} {G : pm_G} {A : Nat → Prop} {c0 s0 : Nat}
theorem pm_gp_mo {tb : List pm_I} : ∀ (k : Nat) (ds : List Nat) (P P' : Prop) (f f' : pm_F), pm_gp tb k ds P f = some (P', f') → (P' → P) ∧ f'.2.1.length = f.2.1.length ∧ pm_mo f.2.2.2 f'.2.2.2 := by
  intro k
  induction k with
  | zero =>
    intro ds P P' f f' h
    cases h
    exact ⟨id, rfl, pm_mo_rf⟩
  | succ k ih =>
    intro ds P P' f f' h
    obtain ⟨pc, L, S, hp⟩ := f
    unfold pm_gp at h
    split at h
    · split at h
      · split at h
        · rename_i hx
          obtain ⟨a1, a2, a3⟩ := ih _ _ _ _ _ h
          obtain ⟨b1, b2⟩ := pm_ex_mo hx
          exact ⟨fun q => (a1 q).2, a2.trans b1, b2.trans a3⟩
        · rename_i hx
          obtain ⟨a1, a2, a3⟩ := ih _ _ _ _ _ h
          obtain ⟨b1, b2⟩ := pm_ex_mo hx
          exact ⟨a1, a2.trans b1, b2.trans a3⟩
        · cases h
      · split at h
        · rename_i hx
          obtain ⟨a1, a2, a3⟩ := ih _ _ _ _ _ h
          obtain ⟨b1, b2⟩ := pm_ex_mo hx
          exact ⟨fun q => (a1 q).2, a2.trans b1, b2.trans a3⟩
        · rename_i hx
          obtain ⟨a1, a2, a3⟩ := ih _ _ _ _ _ h
          obtain ⟨b1, b2⟩ := pm_ex_mo hx
          exact ⟨a1, a2.trans b1, b2.trans a3⟩
        · cases h
    · cases h
/-- STRAIGHT CODE -/
theorem pm_path (C : pm_Cx m d p R s mid args meth c) (hd1 : 1 ≤ d) (hW : pm_Wd G A s) {tb : List pm_I} (htb : ∀ e ∈ tb, pm_ck m e = true) : ∀ (k : Nat) (ds : List Nat) (P P' : Prop) (f f' : pm_F) (ad : Nat → Nat), pm_gp tb k ds P f = some (P', f') → P' → f.2.1.length = pm_ml m → c0 ≤ f.2.2.2.2.2.1 → s0 ≤ f.2.2.2.2.2.2 → f'.2.2.2.2.2.1 - c0 ≤ R.cells → f'.2.2.2.2.2.2 - s0 ≤ R.slots → (∀ ad', (∀ i c', pm_lk f.2.2.2 i = some c' → ad' i = ad i) → pm_at p l e R s mid args below meth c Q G A c0 s0 ad' f') → pm_at p l e R s mid args below meth c Q G A c0 s0 ad f := by
  intro k
  induction k with
  | zero =>
    intro ds P P' f f' ad h _ _ _ _ _ _ kk
    cases h
    exact kk ad (fun _ _ _ => rfl)
  | succ k ih =>
    intro ds P P' f f' ad h hP hlen hc0 hs0 hcr hsr kk
    obtain ⟨pc, L, S, hp⟩ := f
    have one : ∀ (I : Instr) (r r2 dir : Nat) (ds' : List Nat) (P0 : Option Prop) (P1 : Prop) (f1 : pm_F), pm_ft tb pc = some (I, r, r2) → pm_ex I r r2 dir pc L S hp = some (P0, f1) → pm_gp tb k ds' P1 f1 = some (P', f') → (∀ q, P0 = some q → q) → pm_at p l e R s mid args below meth c Q G A c0 s0 ad (pc, L, S, hp) := by
      intro I r r2 dir ds' P0 P1 f1 hft hx hg hP0
      obtain ⟨b1, b2⟩ := pm_ex_mo hx
      obtain ⟨a1, a2, a3⟩ := pm_gp_mo _ _ _ _ _ _ hg
      have m1 := a3.1
      have m2 := a3.2.1
      have m3 := b2.1
      have m4 := b2.2.1
      dsimp only at hc0 hs0 hlen
      refine pm_step C hd1 hW hlen (htb _ (pm_ft_mem hft)) hc0 hs0 (by omega) (by omega) m3 m4 hx hP0 (fun ad1 h1 => ?_)
      refine ih ds' P1 P' f1 f' ad1 hg hP (b1.trans hlen) (by omega) (by omega) hcr hsr (fun ad2 h2 => kk ad2 (fun i c' hi => ?_))
      obtain ⟨c2, hc2⟩ := b2.2.2 i c' hi
      rw [h2 i c2 hc2, h1 i c' hi]
    unfold pm_gp at h
    split at h
    · rename_i I r r2 hft
      split at h
      · split at h
        · rename_i q f1 hx
          exact one I r r2 _ _ _ _ f1 hft hx h (fun q' e' => by cases e'; exact ((pm_gp_mo _ _ _ _ _ _ h).1 hP).1)
        · rename_i f1 hx
          exact one I r r2 _ _ _ _ f1 hft hx h (fun q' e' => by cases e')
        · cases h
      · split at h
        · rename_i q f1 hx
          exact one I r r2 _ _ _ _ f1 hft hx h (fun q' e' => by cases e'; exact ((pm_gp_mo _ _ _ _ _ _ h).1 hP).1)
        · rename_i f1 hx
          exact one I r r2 _ _ _ _ f1 hft hx h (fun q' e' => by cases e')
        · cases h
    · cases h
end PMS
