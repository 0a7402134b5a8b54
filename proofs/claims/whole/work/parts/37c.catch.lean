/-! A call that throws, caught by this method's own table; the exception goes into a local that nobody reads. -/
theorem pm_lc_none {f : Value → Value} {L : List (Option Value)} {ls : Array Slot} {i x : Nat} (hcat : ∀ w, (f w).category = 2 → ∃ x, w = .long x) (hnl : ∀ z, L[i - 1]? ≠ some (some (.long z))) (h : lv_has ls L.length ((i, .ref x) :: (pm_lv f L).filter (fun q => !(q.1 == i) && !(q.1 + 1 == i && q.2.category == 2)))) : pm_lc f (L.set i none) ls := by
  refine ⟨by rw [List.length_set]; exact h.1, h.2.1, fun j w hw => ?_⟩
  by_cases hj : i = j
  · subst hj
    rw [List.getElem?_set] at hw
    rw [if_pos rfl] at hw
    split at hw <;> cases hw
  · rw [List.getElem?_set_ne hj] at hw
    refine h.2.2 (j, f w) (List.mem_cons_of_mem _ (List.mem_filter.mpr ⟨pm_lv_mem hw, ?_⟩))
    have a1 : (j == i) = false := by simpa using fun z => hj z.symm
    by_cases e : j + 1 = i
    · have a2 : ((f w).category == 2) = false := by
        rcases lv_cat (f w) with z | z
        · rw [z]; rfl
        · obtain ⟨y, hy⟩ := hcat w z
          subst hy
          exact absurd (by rw [show i - 1 = j by omega]; exact hw) (hnl y)
      simp [a1, a2]
    · simp [a1, e]
section PMS
variable {m d : Nat} {r : Option Value ⊕ String} {hf : pm_H} {F : pm_Fam} {b1 b2 : Nat}
theorem pm_Wx.callC {m' ix rr pl pc b k nx : Nat} {E : String} {pre suf : List (Nat × Nat × Nat × Nat)} {x : Nat × Nat × Nat × Nat} {L : List (Option Value)} {As S st fs : List Value} {h h1 : pm_H} (hF : pm_Fok F) (hm' : m' < pm_nM) (hh : pm_hh m' = []) (hd : decode (pm_cd m) pc = .ok (.invokevirtual ix, 3)) (hML : pm_ML[rr]? = some (pm_oc m, ix, m', 0, pl)) (hstt : pm_stt m' = false) (hni : (pm_y m').name ≠ "<init>") (hlen : As.length = pm_na m') (hobj : pm_lk h b = some (.inr (pm_oc m', fs))) (hoc : pm_oc m' < 10) (h8 : pm_sum S ≤ 8) (hst : st = As.reverse ++ .ref b :: S)
    (hsplit : pm_hh m = pre ++ x :: suf) (hpass : ∀ z ∈ pre, z.2.2.2 ≠ 0 ∧ ∃ nm : String, Cond.classLink (pm_cn (pm_oc m)) z.2.2.2 nm ∈ pm_ws ∧ (E, nm) ∈ pm_ncs) (hcov : covers (⟨x.1, x.2.1, x.2.2.1, x.2.2.2⟩ : ExceptionTableEntry) pc = true) (hx0 : x.2.2.2 ≠ 0) (hlink : Cond.classLink (pm_cn (pm_oc m)) x.2.2.2 E ∈ pm_ws) (hcast : Cond.castable E E ∈ pm_nb)
    (hsto : (∃ kf : Fin 4, decode (pm_cd m) x.2.2.1 = .ok (.astore_n kf, 1) ∧ kf.val = k ∧ nx = x.2.2.1 + 1) ∨ (decode (pm_cd m) x.2.2.1 = .ok (.astore k, 2) ∧ nx = x.2.2.1 + 2)) (hk : k < L.length) (hnl : ∀ z, L[k - 1]? ≠ some (some (.long z)))
    (hM : pm_Mt m' d (.ref b :: As) h (.inr E) h1) (kk : pm_Wx m (d + 1) F b1 b2 (nx, L.set k none, [], h1)) : pm_Wx m (d + 1) F b1 b2 (pc, L, st, h) := by
  subst hst
  have m1 := hM.1.1
  have m2 := hM.1.2.1
  have m3 := kk.1
  have m4 := kk.2.1
  dsimp only at m1 m2 m3 m4
  refine ⟨by dsimp only; omega, by dsimp only; omega, fun l hl p e R s mid args below meth c G A ad c0 s0 C hW hlen9 hc0 hs0 hcr hsr => ?_⟩
  have C9 := C
  obtain ⟨hexec, hb, hml, hrt, hlk0, hown, hts, htab, hin, hfr, hlo⟩ := C
  intro ls H locs ws hr
  obtain ⟨has, hS⟩ := pm_stk_ok hr.2.2.1
  have hA := pm_relA hW hr
  have h4 := pm_M4_at hm'
  obtain ⟨k9, hk9⟩ := hr.2.2.2.1.1 b _ hobj pm_nscr_o
  have hrec := va_recv hW.1 hr.2.2.2.2.1 (pm_vw (pm_oc m') hoc) hk9
  dsimp only at hc0 hs0 hlen9
  have run := vx_runV (C := pm_cn (pm_oc m')) (cells := h.2.2.1 - c0) (slots := h.2.2.2 - s0) (locs := locs) (e := e) (below := below) (meth := meth) (g := F0 mid pc ls ((As.reverse ++ .ref b :: S).map (pm_cv G ad))) (As := As.map (pm_cv G ad)) (rest := S.map (pm_cv G ad)) (b := ad b) ⟨hexec, hb, hml, hown, hts⟩ (hM.2 l hl G ad ws H.size hr.2.2.2.1 has) ⟨pm_callB hm' hh hts (pm_ML_at hML rfl).1 hfr hlo, hts _ (pm_inst_at hm' hstt), by rw [← h4.1]; exact hts _ (pm_sel_at hm' hstt hni)⟩ ⟨pm_Pc_blind, hrec, pm_Pc_at (as := .ref b :: As) hW hr hA⟩ rfl (by rw [List.length_map]; exact hlen) (hr.1.1.trans hlen9) pm_stk_map (pm_sum8 hW h8) hd ⟨by omega, by omega⟩
  intro T hT X
  rcases run T hT X with ⟨v, st₀, t, T', Ls, h0, X', hL, e1, e2, hq, go⟩ | ⟨q, st₀, t, T', Ls, E', ce, h0, X', hL, e1, e2, hx9, hce, hcv, hcl, go⟩
  · exact hq.elim
  · obtain ⟨rfl, ad', ws', hE⟩ := hx9
    have hrel := pm_rel_call (S1 := []) hW hr hM.1 (fun v hv => by cases hv) h0 e1 hL hE
    have hlen8 : (L.set k none).length = pm_ml m := by rw [List.length_set]; exact hlen9
    have key := pm_at.mono (fun t z => hF _ _ _ _ _ _ _ _ _ _ _ t hM.1 hE.1 z) (kk.2.2 l hl p e R s mid args below meth c G A ad' c0 s0 C9 hW hlen8 (by dsimp only; omega) (by dsimp only; omega) hcr hsr)
    have nxt : ∀ ls' : Array Slot, lv_has ls' L.length ((k, Value.ref q) :: (pm_lv (pm_cv G ad') L).filter (fun z => !(z.1 == k) && !(z.1 + 1 == k && z.2.category == 2))) → W p l e R s mid args below meth c T'.heap (locs ++ Ls) (h1.2.2.1 - c0) (h1.2.2.2 - s0) (F below args s G A ad h c0 s0) (F0 mid nx ls' []) := fun ls' h' =>
      key ls' T'.heap (locs ++ Ls) ws' ⟨pm_lc_none (pm_cat hW.2.2.2.2.1) hnl h', fun i v hv => by
        by_cases hik : k = i
        · subst hik
          rw [List.getElem?_set, if_pos rfl] at hv
          split at hv <;> cases hv
        · rw [List.getElem?_set_ne hik] at hv
          exact hrel.2.1 i v hv, hrel.2.2⟩
    have w : W p l e R s mid args below meth c T'.heap (locs ++ Ls) (h1.2.2.1 - c0) (h1.2.2.2 - s0) (F below args s G A ad h c0 s0) (F0 mid x.2.2.1 ls [.ref q]) := by
      rcases hsto with ⟨kf, g1, g2, g3⟩ | ⟨g1, g3⟩
      · subst g3
        exact lv_astore_n hexec hb g1 g2 (pm_lc_has hrel.1) hk rfl nxt
      · subst g3
        exact lv_astore hexec hb g1 (pm_lc_has hrel.1) hk rfl nxt
    have hcast9 : (Cond.castable E' E').before args s = true := va_Nw.use rfl (hW.2.2.2.2.2.2.2.2.2.1 _ hcast)
    obtain ⟨t2, a1, b1⟩ := vx_catch (pc := pc) (ls := ls) (rest := S.map (pm_cv G ad)) (E := E') (name := E') (ce := ce) (q := q) hown (tableOf pre) ⟨x.1, x.2.1, x.2.2.1, x.2.2.2⟩ (tableOf suf) (by rw [htab, hsplit]; unfold tableOf; rw [List.map_append]; rfl)
      (fun z hz => by
        obtain ⟨y, hy, rfl⟩ := List.mem_map.mp hz
        obtain ⟨g1, nm, g2, g3⟩ := hpass y hy
        exact Or.inr ⟨g1, nm, hts _ g2, hW.2.2.2.2.2.2.2.2.2.2.1 _ g3⟩) hcov hx0 (hts _ hlink) hcast9 (by rw [e1]; exact hce) hcv hcl w T' rfl (by
        rw [show h.2.2.1 - c0 + (h1.2.2.1 - h.2.2.1) = h1.2.2.1 - c0 by omega, show h.2.2.2 - s0 + (h1.2.2.2 - h.2.2.2) = h1.2.2.2 - s0 by omega] at X'
        exact X')
    exact ⟨t2, go.trans a1, b1⟩
theorem pm_Wg.callC {m' ix rr pl pc b k nx : Nat} {E : String} {pre suf : List (Nat × Nat × Nat × Nat)} {x : Nat × Nat × Nat × Nat} {L : List (Option Value)} {As S st fs : List Value} {h h1 : pm_H} (hm' : m' < pm_nM) (hh : pm_hh m' = []) (hd : decode (pm_cd m) pc = .ok (.invokevirtual ix, 3)) (hML : pm_ML[rr]? = some (pm_oc m, ix, m', 0, pl)) (hstt : pm_stt m' = false) (hni : (pm_y m').name ≠ "<init>") (hlen : As.length = pm_na m') (hobj : pm_lk h b = some (.inr (pm_oc m', fs))) (hoc : pm_oc m' < 10) (h8 : pm_sum S ≤ 8) (hst : st = As.reverse ++ .ref b :: S)
    (hsplit : pm_hh m = pre ++ x :: suf) (hpass : ∀ z ∈ pre, z.2.2.2 ≠ 0 ∧ ∃ nm : String, Cond.classLink (pm_cn (pm_oc m)) z.2.2.2 nm ∈ pm_ws ∧ (E, nm) ∈ pm_ncs) (hcov : covers (⟨x.1, x.2.1, x.2.2.1, x.2.2.2⟩ : ExceptionTableEntry) pc = true) (hx0 : x.2.2.2 ≠ 0) (hlink : Cond.classLink (pm_cn (pm_oc m)) x.2.2.2 E ∈ pm_ws) (hcast : Cond.castable E E ∈ pm_nb)
    (hsto : (∃ kf : Fin 4, decode (pm_cd m) x.2.2.1 = .ok (.astore_n kf, 1) ∧ kf.val = k ∧ nx = x.2.2.1 + 1) ∨ (decode (pm_cd m) x.2.2.1 = .ok (.astore k, 2) ∧ nx = x.2.2.1 + 2)) (hk : k < L.length) (hnl : ∀ z, L[k - 1]? ≠ some (some (.long z)))
    (hM : pm_Mt m' d (.ref b :: As) h (.inr E) h1) (kk : pm_Wg m (d + 1) r hf (nx, L.set k none, [], h1)) : pm_Wg m (d + 1) r hf (pc, L, st, h) := ⟨hM.1.trans kk.1, pm_Wx.callC pm_FQ_ok hm' hh hd hML hstt hni hlen hobj hoc h8 hst hsplit hpass hcov hx0 hlink hcast hsto hk hnl hM kk.2⟩
end PMS
