/-! Calls, rule by rule. -/
theorem pm_inst_at {m : Nat} (hm : m < pm_nM) (hs : pm_stt m = false) : Cond.instanceMethod (pm_y m) ∈ pm_ws := by
  have h := pm_M2 m hm
  unfold pm_Mc2 at h
  have h := of_decide_eq_true h
  rw [hs] at h
  exact pm_mem h rfl
theorem pm_stat_at {m : Nat} (hm : m < pm_nM) (hs : pm_stt m = true) : Cond.static (pm_y m) ∈ pm_ws := by
  have h := pm_M2 m hm
  unfold pm_Mc2 at h
  have h := of_decide_eq_true h
  rw [hs] at h
  exact pm_mem h rfl
theorem pm_sel_at {m : Nat} (hm : m < pm_nM) (hs : pm_stt m = false) (hn : (pm_y m).name ≠ "<init>") : Cond.selects (pm_y m).cls (pm_y m) (pm_y m) ∈ pm_ws := by
  have h := pm_M3 m hm
  unfold pm_Mc3 at h
  rw [hs] at h
  simp only [Bool.or_eq_true, decide_eq_true_eq] at h
  rcases h with h | h | h
  · cases h
  · exact absurd h hn
  · exact pm_mem h rfl
theorem pm_ini_at {m : Nat} (hm : m < pm_nM) : Cond.initialized (pm_y m).cls ∈ pm_ws := by
  rw [(pm_M4_at hm).1]
  exact pm_ini _ (pm_M4_at hm).2.2.2.2.1
theorem pm_MLN_at {r : Nat} {q : Nat × Nat × Nat × Nat × Nat} (hq : pm_ML[r]? = some q) (h0 : q.2.2.2.1 = 1) : Cond.methodLinkNest (pm_cn q.1) q.2.1 (pm_y q.2.2.1) (pm_cn 8) ∈ pm_nb := by
  have h := List.all_eq_true.mp pm_ML_ok q (List.mem_of_getElem? hq)
  unfold pm_MLc at h
  rw [h0] at h
  simp only [Bool.and_eq_true, decide_eq_true_eq, Nat.blt_eq] at h
  exact List.mem_filter.mpr ⟨List.mem_of_getElem? h.2, rfl⟩
section PMS
variable {m d : Nat} {p : Program} {l : Launch} {e : Env} {R : Room} {s : State} {mid : MethodId} {args : Array Value} {below : List Frame} {meth : Method} {c : Code} {G : pm_G} {A : Nat → Prop} {c0 s0 : Nat} {ad : Nat → Nat} {r : Option Value ⊕ String} {hf : pm_H} {F : pm_Fam} {b1 b2 : Nat}
theorem pm_callB {m' ix : Nat} {mc ms : Nat} (hm' : m' < pm_nM) (hh : pm_hh m' = []) (hts : ∀ w ∈ pm_ws, w.before args s = true) (hlk : Cond.methodLink (pm_cn (pm_oc m)) ix (pm_y m') ∈ pm_ws) (hfr : d + 1 ≤ R.frames) (hlo : 40 * (d + 1) ≤ R.locals) : CallB R s args (pm_cn (pm_oc m)) ix (pm_y m') (pm_cd m') (pm_ml m') (pm_rt m') (pm_codew m' :: pm_ws) (pm_rm d mc ms) mc ms (pm_na m') := by
  have hcw : pm_codew m' = Cond.code (pm_y m') (pm_cd m') (pm_ml m') (pm_rt m') := by unfold pm_codew; rw [hh]
  have h4 := pm_M4_at hm'
  exact callB_of (ws' := pm_ws) (pm_na m') hts (pm_good (pm_goodc hm')) (by rw [hcw]) rfl rfl (hts _ (pm_ini_at hm')) (hts _ hlk) ⟨h4.2.2.1, h4.2.2.2.1, h4.2.1⟩ ⟨hfr, by show 8 + (pm_ml m' + 11) + 40 * d ≤ R.locals; have := h4.2.2.2.2.2; omega⟩
theorem pm_stk_map {As S : List Value} {b : Nat} : ((As.reverse ++ .ref b :: S).map (pm_cv G ad)) = (As.map (pm_cv G ad)).reverse ++ .ref (ad b) :: S.map (pm_cv G ad) := by
  rw [List.map_append, List.map_reverse]
  rfl
theorem pm_stk_ok {As S : List Value} {b : Nat} {h : pm_H} (hS : ∀ v ∈ As.reverse ++ .ref b :: S, pm_ok h v) : (∀ v ∈ Value.ref b :: As, pm_ok h v) ∧ ∀ v ∈ S, pm_ok h v := by
  refine ⟨fun v hv => hS v ?_, fun v hv => hS v (List.mem_append_right _ (List.mem_cons_of_mem _ hv))⟩
  rcases List.mem_cons.mp hv with q | q
  · rw [q]; exact List.mem_append_right _ List.mem_cons_self
  · exact List.mem_append_left _ (List.mem_reverse.mpr q)
theorem pm_sum8 {S : List Value} {ls : Array Slot} {pc : Nat} {st : List Value} (hW : pm_Wd G A s) (h8 : pm_sum S ≤ 8) : 2 * (F0 mid pc ls st).monitorRoom + ((S.map (pm_cv G ad)).map fun v => v.category).sum ≤ 8 := lv_room (Nat.le_trans (pm_sum_eq hW.2.2.2.2.1 S) h8)
/-- a method of an object -/
theorem pm_Wx.callV {m' ix rr pl pc b : Nat} {L : List (Option Value)} {As S st fs : List Value} {h h1 : pm_H} {v : Option Value} (hF : pm_Fok F) (hm' : m' < pm_nM) (hh : pm_hh m' = []) (hd : decode (pm_cd m) pc = .ok (.invokevirtual ix, 3)) (hML : pm_ML[rr]? = some (pm_oc m, ix, m', 0, pl)) (hstt : pm_stt m' = false) (hni : (pm_y m').name ≠ "<init>") (hlen : As.length = pm_na m') (hobj : pm_lk h b = some (.inr (pm_oc m', fs))) (hoc : pm_oc m' < 10) (h8 : pm_sum S ≤ 8) (hst : st = As.reverse ++ .ref b :: S) (hM : pm_Mt m' d (.ref b :: As) h (.inl v) h1) (kk : pm_Wx m (d + 1) F b1 b2 (pc + 3, L, v.toList ++ S, h1)) : pm_Wx m (d + 1) F b1 b2 (pc, L, st, h) := by
  subst hst
  have m1 := hM.1.1
  have m2 := hM.1.2.1
  have m3 := kk.1
  have m4 := kk.2.1
  dsimp only at m1 m2 m3 m4
  refine ⟨by dsimp only; omega, by dsimp only; omega, fun l hl p e R s mid args below meth c G A ad c0 s0 C hW hlen9 hc0 hs0 hcr hsr => ?_⟩
  have C9 := C
  obtain ⟨hexec, hb, hml, hrt, hlk0, hown, hts, htab, hin, hfr, hlo⟩ := C
  intro ls H locs ws hr
  obtain ⟨has, hS⟩ := pm_stk_ok hr.2.2.1
  have hA := pm_relA hW hr
  have h4 := pm_M4_at hm'
  obtain ⟨k9, hk9⟩ := hr.2.2.2.1.1 b _ hobj pm_nscr_o
  have hrec := va_recv hW.1 hr.2.2.2.2.1 (pm_vw (pm_oc m') hoc) hk9
  dsimp only at hc0 hs0 hlen9
  have run := va_runV (C := pm_cn (pm_oc m')) (cells := h.2.2.1 - c0) (slots := h.2.2.2 - s0) (locs := locs) (e := e) (below := below) (meth := meth) (g := F0 mid pc ls ((As.reverse ++ .ref b :: S).map (pm_cv G ad))) (As := As.map (pm_cv G ad)) (rest := S.map (pm_cv G ad)) (b := ad b) ⟨hexec, hb, hml, hown, hts⟩ (pm_met (hM.2 l hl G ad ws H.size hr.2.2.2.1 has) (fun _ _ _ q => q)) ⟨pm_callB hm' hh hts (pm_ML_at hML rfl).1 hfr hlo, hts _ (pm_inst_at hm' hstt), by rw [← h4.1]; exact hts _ (pm_sel_at hm' hstt hni)⟩ ⟨pm_Pc_blind, hrec, pm_Pc_at (as := .ref b :: As) hW hr hA⟩ rfl (by rw [List.length_map]; exact hlen) (hr.1.1.trans hlen9) pm_stk_map (pm_sum8 hW h8) hd ⟨by omega, by omega⟩
  refine pm_run_ok hW hr hS hM.1 run (fun ad' H1 locs1 ws1 he hrel => ?_)
  have key := pm_at.mono (fun t q => hF _ _ _ _ _ _ _ _ _ _ _ t hM.1 he q) (kk.2.2 l hl p e R s mid args below meth c G A ad' c0 s0 C9 hW hlen9 (by dsimp only; omega) (by dsimp only; omega) hcr hsr) ls H1 locs1 ws1 hrel
  dsimp only at key ⊢
  rw [show h.2.2.1 - c0 + (h1.2.2.1 - h.2.2.1) = h1.2.2.1 - c0 by omega, show h.2.2.2 - s0 + (h1.2.2.2 - h.2.2.2) = h1.2.2.2 - s0 by omega]
  exact key
theorem pm_Wg.callV {m' ix rr pl pc b : Nat} {L : List (Option Value)} {As S st fs : List Value} {h h1 : pm_H} {v : Option Value} (hm' : m' < pm_nM) (hh : pm_hh m' = []) (hd : decode (pm_cd m) pc = .ok (.invokevirtual ix, 3)) (hML : pm_ML[rr]? = some (pm_oc m, ix, m', 0, pl)) (hstt : pm_stt m' = false) (hni : (pm_y m').name ≠ "<init>") (hlen : As.length = pm_na m') (hobj : pm_lk h b = some (.inr (pm_oc m', fs))) (hoc : pm_oc m' < 10) (h8 : pm_sum S ≤ 8) (hst : st = As.reverse ++ .ref b :: S) (hM : pm_Mt m' d (.ref b :: As) h (.inl v) h1) (kk : pm_Wg m (d + 1) r hf (pc + 3, L, v.toList ++ S, h1)) : pm_Wg m (d + 1) r hf (pc, L, st, h) := ⟨hM.1.trans kk.1, pm_Wx.callV pm_FQ_ok hm' hh hd hML hstt hni hlen hobj hoc h8 hst hM kk.2⟩
/-- a static method -/
theorem pm_Wx.callS {m' ix rr pl pc : Nat} {L : List (Option Value)} {As S st : List Value} {h h1 : pm_H} {v : Option Value} (hF : pm_Fok F) (hm' : m' < pm_nM) (hh : pm_hh m' = []) (hd : decode (pm_cd m) pc = .ok (.invokestatic ix, 3)) (hML : pm_ML[rr]? = some (pm_oc m, ix, m', 0, pl)) (hstt : pm_stt m' = true) (hlen : As.length = pm_na m') (h8 : pm_sum S ≤ 8) (hst : st = As.reverse ++ S) (hM : pm_Mt m' d As h (.inl v) h1) (kk : pm_Wx m (d + 1) F b1 b2 (pc + 3, L, v.toList ++ S, h1)) : pm_Wx m (d + 1) F b1 b2 (pc, L, st, h) := by
  subst hst
  have m1 := hM.1.1
  have m2 := hM.1.2.1
  have m3 := kk.1
  have m4 := kk.2.1
  dsimp only at m1 m2 m3 m4
  refine ⟨by dsimp only; omega, by dsimp only; omega, fun l hl p e R s mid args below meth c G A ad c0 s0 C hW hlen9 hc0 hs0 hcr hsr => ?_⟩
  have C9 := C
  obtain ⟨hexec, hb, hml, hrt, hlk0, hown, hts, htab, hin, hfr, hlo⟩ := C
  intro ls H locs ws hr
  have has : ∀ v ∈ As, pm_ok h v := fun v hv => hr.2.2.1 v (List.mem_append_left _ (List.mem_reverse.mpr hv))
  have hS : ∀ v ∈ S, pm_ok h v := fun v hv => hr.2.2.1 v (List.mem_append_right _ hv)
  have hA := pm_relA hW hr
  dsimp only at hc0 hs0 hlen9
  have run := va_runS (cells := h.2.2.1 - c0) (slots := h.2.2.2 - s0) (locs := locs) (e := e) (below := below) (meth := meth) (g := F0 mid pc ls ((As.reverse ++ S).map (pm_cv G ad))) (As := As.map (pm_cv G ad)) (rest := S.map (pm_cv G ad)) ⟨hexec, hb, hml, hown, hts⟩ (pm_met (hM.2 l hl G ad ws H.size hr.2.2.2.1 has) (fun _ _ _ q => q)) ⟨pm_callB hm' hh hts (pm_ML_at hML rfl).1 hfr hlo, hts _ (pm_stat_at hm' hstt)⟩ ⟨pm_Pc_blind, pm_Pc_at (as := As) hW hr hA⟩ rfl (by rw [List.length_map]; exact hlen) (hr.1.1.trans hlen9) (by rw [List.map_append, List.map_reverse]) (pm_sum8 hW h8) hd ⟨by omega, by omega⟩
  refine pm_run_ok hW hr hS hM.1 run (fun ad' H1 locs1 ws1 he hrel => ?_)
  have key := pm_at.mono (fun t q => hF _ _ _ _ _ _ _ _ _ _ _ t hM.1 he q) (kk.2.2 l hl p e R s mid args below meth c G A ad' c0 s0 C9 hW hlen9 (by dsimp only; omega) (by dsimp only; omega) hcr hsr) ls H1 locs1 ws1 hrel
  dsimp only at key ⊢
  rw [show h.2.2.1 - c0 + (h1.2.2.1 - h.2.2.1) = h1.2.2.1 - c0 by omega, show h.2.2.2 - s0 + (h1.2.2.2 - h.2.2.2) = h1.2.2.2 - s0 by omega]
  exact key
theorem pm_Wg.callS {m' ix rr pl pc : Nat} {L : List (Option Value)} {As S st : List Value} {h h1 : pm_H} {v : Option Value} (hm' : m' < pm_nM) (hh : pm_hh m' = []) (hd : decode (pm_cd m) pc = .ok (.invokestatic ix, 3)) (hML : pm_ML[rr]? = some (pm_oc m, ix, m', 0, pl)) (hstt : pm_stt m' = true) (hlen : As.length = pm_na m') (h8 : pm_sum S ≤ 8) (hst : st = As.reverse ++ S) (hM : pm_Mt m' d As h (.inl v) h1) (kk : pm_Wg m (d + 1) r hf (pc + 3, L, v.toList ++ S, h1)) : pm_Wg m (d + 1) r hf (pc, L, st, h) := ⟨hM.1.trans kk.1, pm_Wx.callS pm_FQ_ok hm' hh hd hML hstt hlen h8 hst hM kk.2⟩
/-- a constructor -/
theorem pm_Wx.callI {m' ix rr pl pc b z : Nat} {L : List (Option Value)} {As S st : List Value} {h h1 : pm_H} (hF : pm_Fok F) (hm' : m' < pm_nM) (hh : pm_hh m' = []) (hd : decode (pm_cd m) pc = .ok (.invokespecial ix, 3)) (hML : pm_ML[rr]? = some (pm_oc m, ix, m', z, pl)) (hz : z = 0 ∨ z = 1) (hstt : pm_stt m' = false) (hni : (pm_y m').name = "<init>") (hrt' : pm_rt m' = none) (hlen : As.length = pm_na m') (h8 : pm_sum S ≤ 8) (hst : st = As.reverse ++ .ref b :: S) (hM : pm_Mt m' d (.ref b :: As) h (.inl none) h1) (kk : pm_Wx m (d + 1) F b1 b2 (pc + 3, L, S, h1)) : pm_Wx m (d + 1) F b1 b2 (pc, L, st, h) := by
  subst hst
  have m1 := hM.1.1
  have m2 := hM.1.2.1
  have m3 := kk.1
  have m4 := kk.2.1
  dsimp only at m1 m2 m3 m4
  refine ⟨by dsimp only; omega, by dsimp only; omega, fun l hl p e R s mid args below meth c G A ad c0 s0 C hW hlen9 hc0 hs0 hcr hsr => ?_⟩
  have C9 := C
  obtain ⟨hexec, hb, hml, hrt, hlk0, hown, hts, htab, hin, hfr, hlo⟩ := C
  intro ls H locs ws hr
  obtain ⟨has, hS⟩ := pm_stk_ok hr.2.2.1
  have hA := pm_relA hW hr
  have h4 := pm_M4_at hm'
  dsimp only at hc0 hs0 hlen9
  have run : va_Run p l e R s mid args below meth c H locs (h.2.2.1 - c0) (h.2.2.2 - s0) (h1.2.2.1 - h.2.2.1) (h1.2.2.2 - h.2.2.2) (F0 mid pc ls ((As.reverse ++ .ref b :: S).map (pm_cv G ad))) (S.map (pm_cv G ad)) (pm_Qc G (va_A ws H.size) ad h h1 (.inl none) ((Value.ref b :: As).map (pm_cv G ad)).toArray) (va_A ws H.size) := by
    rcases hz with hz | hz
    · subst hz
      have cb := pm_callB (m := m) (d := d) (R := R) (mc := h1.2.2.1 - h.2.2.1) (ms := h1.2.2.2 - h.2.2.2) hm' hh hts (pm_ML_at hML rfl).1 hfr hlo
      rw [hrt'] at cb
      exact va_runI (cells := h.2.2.1 - c0) (slots := h.2.2.2 - s0) (locs := locs) (e := e) (below := below) (meth := meth) (g := F0 mid pc ls ((As.reverse ++ .ref b :: S).map (pm_cv G ad))) (As := As.map (pm_cv G ad)) (rest := S.map (pm_cv G ad)) (b := ad b) ⟨hexec, hb, hml, hown, hts⟩ (pm_met (hM.2 l hl G ad ws H.size hr.2.2.2.1 has) (fun _ _ _ q => q)) ⟨cb, hni, hts _ (pm_inst_at hm' hstt)⟩ ⟨pm_Pc_blind, pm_Pc_at (as := .ref b :: As) hW hr hA⟩ rfl (by rw [List.length_map]; exact hlen) (hr.1.1.trans hlen9) pm_stk_map (pm_sum8 hW h8) hd ⟨by omega, by omega⟩
    · subst hz
      have hcw : pm_codew m' = Cond.code (pm_y m') (pm_cd m') (pm_ml m') none := by unfold pm_codew; rw [hh, ← hrt']
      have hnest := pm_MLN_at hML rfl
      have cn : va_CN R s args (pm_cn (pm_oc m)) ix (pm_y m') (pm_cn 8) (pm_cd m') (pm_ml m') none (pm_codew m' :: pm_ws) (pm_rm d (h1.2.2.1 - h.2.2.1) (h1.2.2.2 - h.2.2.2)) (h1.2.2.1 - h.2.2.1) (h1.2.2.2 - h.2.2.2) (pm_na m') := by
        refine ⟨⟨rfl, rfl, hfr, by show 8 + (pm_ml m' + 11) + 40 * d ≤ R.locals; have := h4.2.2.2.2.2; omega, pay_in hts (pm_good (pm_goodc hm')), by rw [hcw]; exact List.mem_cons_self⟩, by rw [← hcw]; exact hts _ (pm_M1 m' hm'), hts _ (pm_ini_at hm'), ⟨h4.2.2.1, h4.2.2.2.1⟩, fun sig hsig => ?_, va_Nw.use rfl (hW.2.2.2.2.2.2.2.2.2.1 _ hnest)⟩
        have h2 := h4.2.1
        rw [hsig] at h2
        exact (Option.some.inj h2).symm
      exact va_runIN (cells := h.2.2.1 - c0) (slots := h.2.2.2 - s0) (locs := locs) (e := e) (below := below) (meth := meth) (g := F0 mid pc ls ((As.reverse ++ .ref b :: S).map (pm_cv G ad))) (As := As.map (pm_cv G ad)) (rest := S.map (pm_cv G ad)) (b := ad b) ⟨hexec, hb, hml, hown, hts⟩ (pm_met (hM.2 l hl G ad ws H.size hr.2.2.2.1 has) (fun _ _ _ q => q)) ⟨cn, hni, hts _ (pm_inst_at hm' hstt)⟩ ⟨pm_Pc_blind, pm_Pc_at (as := .ref b :: As) hW hr hA⟩ rfl (by rw [List.length_map]; exact hlen) (hr.1.1.trans hlen9) pm_stk_map (pm_sum8 hW h8) hd ⟨by omega, by omega⟩
  refine pm_run_ok hW hr hS hM.1 run (fun ad' H1 locs1 ws1 he hrel => ?_)
  have key := pm_at.mono (fun t q => hF _ _ _ _ _ _ _ _ _ _ _ t hM.1 he q) (kk.2.2 l hl p e R s mid args below meth c G A ad' c0 s0 C9 hW hlen9 (by dsimp only; omega) (by dsimp only; omega) hcr hsr) ls H1 locs1 ws1 hrel
  dsimp only at key ⊢
  rw [show h.2.2.1 - c0 + (h1.2.2.1 - h.2.2.1) = h1.2.2.1 - c0 by omega, show h.2.2.2 - s0 + (h1.2.2.2 - h.2.2.2) = h1.2.2.2 - s0 by omega]
  exact key
theorem pm_Wg.callI {m' ix rr pl pc b z : Nat} {L : List (Option Value)} {As S st : List Value} {h h1 : pm_H} (hm' : m' < pm_nM) (hh : pm_hh m' = []) (hd : decode (pm_cd m) pc = .ok (.invokespecial ix, 3)) (hML : pm_ML[rr]? = some (pm_oc m, ix, m', z, pl)) (hz : z = 0 ∨ z = 1) (hstt : pm_stt m' = false) (hni : (pm_y m').name = "<init>") (hrt' : pm_rt m' = none) (hlen : As.length = pm_na m') (h8 : pm_sum S ≤ 8) (hst : st = As.reverse ++ .ref b :: S) (hM : pm_Mt m' d (.ref b :: As) h (.inl none) h1) (kk : pm_Wg m (d + 1) r hf (pc + 3, L, S, h1)) : pm_Wg m (d + 1) r hf (pc, L, st, h) := ⟨hM.1.trans kk.1, pm_Wx.callI pm_FQ_ok hm' hh hd hML hz hstt hni hrt' hlen h8 hst hM kk.2⟩
end PMS
