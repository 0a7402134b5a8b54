section PMS
variable {m d : Nat} {p : Program} {l : Launch} {e : Env} {R : Room} {s : State} {mid : MethodId} {args : Array Value} {below : List Frame} {meth : Method} {c : Code} {Q : State → Prop} {G : pm_G} {A : Nat → Prop} {c0 s0 : Nat} {ad : Nat → Nat}
theorem pm_tl_at {G : pm_G} {u : Nat} (h : u < 4) : ∃ ty, (pm_tl G)[u]? = some (G.2.1 u, ty) := by
  rcases (show u = 0 ∨ u = 1 ∨ u = 2 ∨ u = 3 by omega) with rfl | rfl | rfl | rfl <;> exact ⟨_, rfl⟩
theorem pm_len_ok {cc : ByteArray} (hexec : p.tables.exec = Jvm.exec) (hb : c.code = cc) (hW : pm_Wd G A s) {pc : Nat} {L : List (Option Value)} {S : List Value} {h : pm_H} {P : Option Prop} {f : pm_F} (hd : decode cc pc = .ok (.arraylength, 1))
    (hx : pm_len (pc + 1) L S h = some (P, f)) (kk : pm_at p l e R s mid args below meth c Q G A c0 s0 ad f) : pm_at p l e R s mid args below meth c Q G A c0 s0 ad (pc, L, S, h) := by
  unfold pm_len at hx
  split at hx
  · rename_i a S'
    split at hx
    · rename_i u n g hlk
      split at hx
      · rename_i hbq
        simp only [Nat.beq_eq, Bool.or_eq_true, Nat.blt_eq] at hbq
        cases hx
        intro ls H locs ws hr
        have hr' := hr.stk (S' := .int (Int32.ofNat n) :: S') (pm_oks (pm_ok_int _) (pm_okt hr.2.2.1))
        by_cases hu : u = 9
        · subst hu
          obtain ⟨q1, q2⟩ := hr.2.2.2.1.2.1 a _ hlk ⟨_, rfl⟩
          injection q2 with q2
          injection q2 with _ q2
          injection q2 with q2 q3
          subst q2
          have key := va_slen (A := A) hexec hb hW.2.1 hW.2.2.1 hW.2.2.2.1 hr.2.2.2.2.2.2 hd (kk ls H locs ws hr')
          show W p l e R s mid args below meth c H locs (h.2.2.1 - c0) (h.2.2.2 - s0) Q (F0 mid pc ls (.ref (ad a) :: S'.map (pm_cv G ad)))
          rw [q1]
          exact key
        · obtain ⟨k9, hk9⟩ := hr.2.2.2.1.1 a _ hlk (pm_nscr_a hu)
          obtain ⟨ty, hty⟩ := pm_tl_at (G := G) (u := u) (by omega)
          exact va_alen (D := G.1) (cl := vwCl) hexec hb hW.1 hr.2.2.2.2.1 k9 u hk9 hty rfl hd (kk ls H locs ws hr')
      · cases hx
    · cases hx
  · cases hx
/-- the state behind a new cell -/
theorem pm_pu_rel {L : List (Option Value)} {S S' : List Value} {h : pm_H} {g n a : Nat} {cl : pm_E} {ls : Array Slot} {H H1 : Heap} {locs : List Loc} {ws : va_W} (hr : pm_rel G ad A s L S h ls H locs ws) (hS' : ∀ v ∈ S', pm_ok h v) (hg : g < h.1.length) (hl : (h.1.getD g []).length < 64) (nc : ¬ pm_scr cl) (hf : ∀ ci fs, cl = .inr (ci, fs) → ∀ v ∈ fs, ∀ i, v ≠ .ref i)
    (hP1 : va_P G.1 vwCl (ws ++ [(a, pm_ce G (va_up ad (pm_id h g) a) cl)]) H1) (hD1 : va_D A (ws ++ [(a, pm_ce G (va_up ad (pm_id h g) a) cl)])) (hS1 : va_S A s.heap H1 locs) :
    pm_rel G (va_up ad (pm_id h g) a) A s L (.ref (pm_id h g) :: S') (pm_pu h g cl n) ls H1 locs (ws ++ [(a, pm_ce G (va_up ad (pm_id h g) a) cl)]) ∧ (∀ i c', pm_lk h i = some c' → va_up ad (pm_id h g) a i = ad i) ∧ (.ref (pm_id h g) :: S').map (pm_cv G (va_up ad (pm_id h g) a)) = .ref a :: S'.map (pm_cv G ad) := by
  have hne : ∀ (k : Nat) (q : Nat × va_E), ws[k]? = some q → q.1 ≠ a := fun k q hk e => by
    have hlt := (List.getElem?_eq_some_iff.mp hk).1
    have h1 : (ws ++ [(a, pm_ce G (va_up ad (pm_id h g) a) cl)])[k]? = some q := by rw [List.getElem?_append_left hlt]; exact hk
    have h2 := hD1.1 k ws.length q (a, pm_ce G (va_up ad (pm_id h g) a) cl) h1 List.getElem?_concat_length e
    omega
  obtain ⟨k1, k2, k3⟩ := pm_hp_pu (n := n) hr.2.2.2.1 hg hl nc hf hne
  have live : ∀ w, pm_ok h w → pm_ok (pm_pu h g cl n) w := fun w hw j ej => by
    obtain ⟨c', hc'⟩ := hw j ej
    exact ⟨c', k3 j c' hc'⟩
  refine ⟨⟨⟨hr.1.1, hr.1.2.1, fun i v hv => ?_⟩, fun j w hw => live w (hr.2.1 j w hw), ?_, k1, hP1, hD1, hS1⟩, k2, ?_⟩
  · rw [pm_cv_same (hr.2.1 i v hv) k2]
    exact hr.1.2.2 i v hv
  · refine pm_oks (fun i e => ?_) (fun w hw => live w (hS' w hw))
    cases e
    exact ⟨cl, by rw [pm_lk_pu hg hl, if_pos rfl]⟩
  · rw [List.map_cons, pm_map_same hS' k2]
    show Value.ref (va_up ad (pm_id h g) a (pm_id h g)) :: _ = _
    unfold va_up
    rw [if_pos rfl]
theorem pm_CL_at {r : Nat} {q : Nat × Nat × Nat × Nat} (hq : pm_CL[r]? = some q) : Cond.classLink (pm_cn q.1) q.2.1 (pm_cn q.2.2.1) ∈ pm_ws ∧ q.2.2.1 < 10 := by
  have h := List.all_eq_true.mp pm_CL_ok q (List.mem_of_getElem? hq)
  unfold pm_CLc at h
  simp only [Bool.and_eq_true, decide_eq_true_eq, Nat.blt_eq] at h
  exact ⟨pm_mem h.1 rfl, h.2⟩
theorem pm_df_map (G : pm_G) (ad : Nat → Nat) : ∀ ci, ci < 10 → (pm_df ci).map (pm_cv G ad) = pm_df ci := pm_ten rfl rfl rfl rfl rfl rfl rfl rfl rfl rfl
def pm_nr (v : Value) : Bool := match v with
  | .ref _ => false
  | _ => true
theorem pm_df_nr : ∀ ci, ci < 10 → ∀ v ∈ pm_df ci, ∀ i, v ≠ .ref i := by
  have h : ∀ ci, ci < 10 → (pm_df ci).all pm_nr = true := pm_ten rfl rfl rfl rfl rfl rfl rfl rfl rfl rfl
  intro ci hc v hv i e
  have := List.all_eq_true.mp (h ci hc) v hv
  rw [e] at this
  cases this
theorem pm_new_ok {cc : ByteArray} (hexec : p.tables.exec = Jvm.exec) (hb : c.code = cc) (hown : s.vm.findClass (pm_cn (pm_oc m)) = some mid.cls) (hts : ∀ w ∈ pm_ws, w.before args s = true) (hW : pm_Wd G A s) {ix r r2 pc : Nat} {L : List (Option Value)} {S : List Value} {h : pm_H} {P : Option Prop} {f : pm_F} (hd : decode cc pc = .ok (.new ix, 3))
    (hck : ∀ q, pm_CL[r]? = some q → q.1 = pm_oc m ∧ q.2.1 = ix) (hc0 : c0 ≤ h.2.2.1) (hs0 : s0 ≤ h.2.2.2) (hcr : f.2.2.2.2.2.1 - c0 ≤ R.cells) (hsr : f.2.2.2.2.2.2 - s0 ≤ R.slots)
    (hx : pm_new r r2 (pc + 3) L S h = some (P, f)) (kk : ∀ ad', (∀ i c', pm_lk h i = some c' → ad' i = ad i) → pm_at p l e R s mid args below meth c Q G A c0 s0 ad' f) : pm_at p l e R s mid args below meth c Q G A c0 s0 ad (pc, L, S, h) := by
  unfold pm_new at hx
  split at hx
  · rename_i oc ix' ci pl hCL
    unfold pm_alc at hx
    split at hx
    · rename_i hbq
      simp only [Bool.and_eq_true, Nat.blt_eq] at hbq
      generalize pm_grp r2 L h = g at hx hbq
      cases hx
      intro ls H locs ws hr
      obtain ⟨w1, w3⟩ := pm_CL_at hCL
      obtain ⟨e1, e2⟩ := hck _ hCL
      dsimp only at w1 w3 e1 e2 hcr hsr
      have hcr : h.2.2.1 + 1 - c0 ≤ R.cells := hcr
      have hsr : h.2.2.2 + pm_N ci - s0 ≤ R.slots := hsr
      subst e1 e2
      refine va_new (D := G.1) (cl := vwCl) (ci := ci) (fs := pm_df ci) (C := pm_cn ci) (T := pm_T ci) (N := pm_N ci) (Ts := pm_ws) hexec hb hts (pm_ly ci w3) (pm_ty ci) (pm_tk ci w3) hown (hts _ w1) (hts _ (pm_inst ci w3)) (hts _ (pm_ini ci (by omega))) hW.1 hr.2.2.2.2.1 hr.2.2.2.2.2.1 hr.2.2.2.2.2.2 hW.2.2.2.2.2.1 (pm_vw ci w3) (pm_dd ci w3) (by dsimp only; omega) (by dsimp only; omega) hd (fun a H1 hP1 hD1 hS1 => ?_)
      have ece : pm_ce G (va_up ad (pm_id h g) a) (.inr (ci, pm_df ci)) = .inr (ci, pm_df ci) := by
        show (Sum.inr (ci, (pm_df ci).map (pm_cv G _)) : va_E) = _
        rw [pm_df_map G _ ci w3]
      obtain ⟨k1, k2, k3⟩ := pm_pu_rel (G := G) (n := pm_N ci) (cl := .inr (ci, pm_df ci)) (a := a) hr hr.2.2.1 hbq.1 hbq.2 pm_nscr_o (fun ci' fs' e' => by cases e'; exact pm_df_nr ci w3) (by rw [ece]; exact hP1) (by rw [ece]; exact hD1) hS1
      have key := kk _ k2 ls H1 locs _ k1
      dsimp only at key
      rw [k3] at key
      rw [show h.2.2.1 - c0 + 1 = h.2.2.1 + 1 - c0 by omega, show h.2.2.2 - s0 + pm_N ci = h.2.2.2 + pm_N ci - s0 by omega]
      exact key
    · cases hx
  · cases hx
/-- a new array of the kind t -/
theorem pm_nar1_ok {cc : ByteArray} (hexec : p.tables.exec = Jvm.exec) (hb : c.code = cc) (hts : ∀ w ∈ pm_ws, w.before args s = true) (hW : pm_Wd G A s) {t g r pc : Nat} {at9 : ArrayType} {ty : FieldType} {a0 : vp_A} {n : Int32} {L : List (Option Value)} {S : List Value} {h : pm_H} (hd : decode cc pc = .ok (.newarray at9, 2)) (hty : newarray.typeOf at9 = ty) (hw : Cond.arrayClass (newarray.typeOf at9) ∈ pm_ws) (ht : (pm_tl G)[t]? = some (G.2.1 t, ty)) (hra : ∀ (U : State) (cA : ClassId), va_RA U cA ty → U.vm.findClass ("[" ++ ty.toString) = some cA)
    (ha : ∀ cA : ClassId, vp_cell cA a0 = arrV cA r (fun _ => defaultValue ty)) (hr9 : r < 100000) (hby : componentBytes ty ≤ 8) (hn : n = nI r) (t9 : t ≠ 9) (hg : g < h.1.length) (hl : (h.1.getD g []).length < 64) (hc0 : c0 ≤ h.2.2.1) (hs0 : s0 ≤ h.2.2.2) (hcr : h.2.2.1 + 1 - c0 ≤ R.cells) (hsr : h.2.2.2 + r - s0 ≤ R.slots)
    (kk : ∀ ad', (∀ i c', pm_lk h i = some c' → ad' i = ad i) → pm_at p l e R s mid args below meth c Q G A c0 s0 ad' (pc + 2, L, .ref (pm_id h g) :: S, pm_pu h g (.inl (t, a0)) r)) : pm_at p l e R s mid args below meth c Q G A c0 s0 ad (pc, L, .int n :: S, h) := by
  intro ls H locs ws hr
  refine va_newa (D := G.1) (cl := vwCl) (atype := at9) (a0 := a0) (N' := r) hexec hb (hts _ hw) hty hW.1 hr.2.2.2.2.1 hr.2.2.2.2.2.1 hr.2.2.2.2.2.2 hW.2.2.2.2.2.1 ha (by rw [hn]; exact nI_pos (by omega)) (by rw [hn]; exact nI_clamp (by omega)) (Nat.le_trans (Nat.mul_le_mul (Nat.le_of_lt hr9) hby) (by decide)) (by dsimp only; omega) (by dsimp only; omega) hd (fun a cA H1 hK1 hP1 hD1 hS1 => ?_)
  have hcA : cA = G.2.1 t := by
    have q1 := hra s cA (hK1.2 (pm_tl G).length (cA, ty) List.getElem?_concat_length).2
    have q2 := hra s (G.2.1 t) (hW.1.2 t _ ht).2
    exact Option.some.inj (q1.symm.trans q2)
  subst hcA
  obtain ⟨k1, k2, k3⟩ := pm_pu_rel (G := G) (n := r) (cl := .inl (t, a0)) (a := a) hr (pm_okt hr.2.2.1) hg hl (pm_nscr_a t9) (fun ci fs e => by cases e) hP1 hD1 hS1
  have key := kk _ k2 ls H1 locs _ k1
  dsimp only at key
  rw [k3] at key
  dsimp only
  rw [show h.2.2.1 - c0 + 1 = h.2.2.1 + 1 - c0 by omega, show h.2.2.2 - s0 + r = h.2.2.2 + r - s0 by omega]
  exact key
theorem pm_nar_ok {cc : ByteArray} (hexec : p.tables.exec = Jvm.exec) (hb : c.code = cc) (hts : ∀ w ∈ pm_ws, w.before args s = true) (hW : pm_Wd G A s) {t : ArrayType} {r r2 pc : Nat} {L : List (Option Value)} {S : List Value} {h : pm_H} {P : Option Prop} {f : pm_F} (hd : decode cc pc = .ok (.newarray t, 2))
    (hc0 : c0 ≤ h.2.2.1) (hs0 : s0 ≤ h.2.2.2) (hcr : f.2.2.2.2.2.1 - c0 ≤ R.cells) (hsr : f.2.2.2.2.2.2 - s0 ≤ R.slots)
    (hx : pm_nar t r r2 (pc + 2) L S h = some (P, f)) (hP : ∀ q, P = some q → q) (kk : ∀ ad', (∀ i c', pm_lk h i = some c' → ad' i = ad i) → pm_at p l e R s mid args below meth c Q G A c0 s0 ad' f) : pm_at p l e R s mid args below meth c Q G A c0 s0 ad (pc, L, S, h) := by
  unfold pm_nar at hx
  split at hx
  · rename_i n S'
    split at hx
    · rename_i hr9
      simp only [Nat.blt_eq] at hr9
      generalize pm_grp r2 L h = g at hx
      unfold pm_alc at hx
      split at hx <;> (try cases hx) <;> split at hx <;> cases hx
      · rename_i hbq
        simp only [Bool.and_eq_true, Nat.blt_eq] at hbq
        exact pm_nar1_ok hexec hb hts hW (t := 0) (ty := .int) hd rfl pm_arI rfl (fun _ _ q => q) (fun _ => rfl) hr9 (by decide) (hP _ rfl) (by decide) hbq.1 hbq.2 hc0 hs0 hcr hsr kk
      · rename_i hbq
        simp only [Bool.and_eq_true, Nat.blt_eq] at hbq
        exact pm_nar1_ok hexec hb hts hW (t := 1) (ty := .long) hd rfl pm_arJ rfl (fun _ _ q => q) (fun _ => rfl) hr9 (by decide) (hP _ rfl) (by decide) hbq.1 hbq.2 hc0 hs0 hcr hsr kk
      · rename_i hbq
        simp only [Bool.and_eq_true, Nat.blt_eq] at hbq
        exact pm_nar1_ok hexec hb hts hW (t := 2) (ty := .byte) hd rfl pm_arB rfl (fun _ _ q => q) (fun _ => rfl) hr9 (by decide) (hP _ rfl) (by decide) hbq.1 hbq.2 hc0 hs0 hcr hsr kk
      · rename_i hbq
        simp only [Bool.and_eq_true, Nat.blt_eq] at hbq
        exact pm_nar1_ok hexec hb hts hW (t := 3) (ty := .boolean) hd rfl pm_arZ rfl (fun _ _ q => q) (fun _ => rfl) hr9 (by decide) (hP _ rfl) (by decide) hbq.1 hbq.2 hc0 hs0 hcr hsr kk
    · cases hx
  · cases hx
end PMS
