/-! Strings' own methods; a method of Math; one instruction outside the pure machine's list. -/
section PMS
variable {m d : Nat} {r : Option Value ⊕ String} {hf : pm_H} {F : pm_Fam} {b1 b2 : Nat}
theorem pm_Wd.stx {G : pm_G} {A : Nat → Prop} {s : State} (hW : pm_Wd G A s) : pm_stx G A s := hW.2.2.2.2.2.2.2.2.2.2.2
/-- one instruction by a row of its own: the heap stays -/
theorem pm_Wx.one {pc pc' : Nat} {L : List (Option Value)} {S S' : List Value} {h : pm_H}
    (hrow : ∀ (l : Launch) (p : Program) (e : Env) (R : Room) (s : State) (mid : MethodId) (args : Array Value) (below : List Frame) (meth : Method) (c : Code) (Q : State → Prop) (G : pm_G) (A : Nat → Prop) (ad : Nat → Nat) (cells slots : Nat), pm_Cx m d p R s mid args meth c → pm_Wd G A s → ∀ (ls : Array Slot) (H : Heap) (locs : List Loc) (ws : va_W), pm_rel G ad A s L S h ls H locs ws → (∀ v ∈ S', pm_ok h v) ∧ (W p l e R s mid args below meth c H locs cells slots Q (F0 mid pc' ls (S'.map (pm_cv G ad))) → W p l e R s mid args below meth c H locs cells slots Q (F0 mid pc ls (S.map (pm_cv G ad)))))
    (kk : pm_Wx m d F b1 b2 (pc', L, S', h)) : pm_Wx m d F b1 b2 (pc, L, S, h) := by
  refine ⟨kk.1, kk.2.1, fun l hl p e R s mid args below meth c G A ad c0 s0 C hW hlen hc0 hs0 hcr hsr => ?_⟩
  intro ls H locs ws hr
  obtain ⟨a1, a2⟩ := hrow l p e R s mid args below meth c (F below args s G A ad h c0 s0) G A ad (h.2.2.1 - c0) (h.2.2.2 - s0) C hW ls H locs ws hr
  exact a2 (kk.2.2 l hl p e R s mid args below meth c G A ad c0 s0 C hW hlen hc0 hs0 hcr hsr ls H locs ws (hr.stk a1))
theorem pm_tl_ok {h : pm_H} {v : Value} {S : List Value} (hS : ∀ w ∈ v :: S, pm_ok h w) : ∀ w ∈ S, pm_ok h w := fun w hw => hS w (List.mem_cons_of_mem _ hw)
theorem pm_ok_db {h : pm_H} (x : UInt64) : pm_ok h (.double x) := fun i e => by cases e
theorem pm_ok_fl {h : pm_H} (x : UInt32) : pm_ok h (.float x) := fun i e => by cases e
theorem pm_Wg.gcoder {pc ix k : Nat} {q : Nat × Nat × String × Nat} {L : List (Option Value)} {S : List Value} {h : pm_H} (hd : decode (pm_cd m) pc = .ok (.getfield ix, 3)) (hlk : Cond.fieldLink (pm_cn (pm_oc m)) ix "java/lang/String" "coder" "B" ∈ pm_ws) (hk : pm_SR[k]? = some q) (kk : pm_Wg m d r hf (pc + 3, L, .int 0 :: S, h)) : pm_Wg m d r hf (pc, L, .retAddr k :: S, h) := by
  refine ⟨kk.1, pm_Wx.one (fun l p e R s mid args below meth c Q G A ad cells slots C hW ls H locs ws hr => ?_) kk.2⟩
  obtain ⟨hexec, hb, hml, hrt, hlk0, hown, hts, -⟩ := C
  exact ⟨pm_oks (pm_ok_int _) (pm_tl_ok hr.2.2.1), fun w => vk_getf (A := A) hexec hb ((hW.stx.1 k q hk).2.1) hr.2.2.2.2.2.2 hown (hts _ hlk) (fun _ z => z) hd w⟩
theorem pm_Wg.gvalue {pc ix k : Nat} {x : UInt64} {q : Nat × Nat × String × Nat} {L : List (Option Value)} {S : List Value} {h : pm_H} (hd : decode (pm_cd m) pc = .ok (.getfield ix, 3)) (hlk : Cond.fieldLink (pm_cn (pm_oc m)) ix "java/lang/String" "value" "[B" ∈ pm_ws) (hk : pm_SR[k]? = some q) (hx : x.toNat = k) (kk : pm_Wg m d r hf (pc + 3, L, .double x :: S, h)) : pm_Wg m d r hf (pc, L, .retAddr k :: S, h) := by
  refine ⟨kk.1, pm_Wx.one (fun l p e R s mid args below meth c Q G A ad cells slots C hW ls H locs ws hr => ?_) kk.2⟩
  obtain ⟨hexec, hb, hml, hrt, hlk0, hown, hts, -⟩ := C
  refine ⟨pm_oks (pm_ok_db _) (pm_tl_ok hr.2.2.1), fun w => vk_getf (A := A) hexec hb ((hW.stx.1 k q hk).2.2.1) hr.2.2.2.2.2.2 hown (hts _ hlk) (fun _ z => z) hd ?_⟩
  rw [← hx]
  exact w
theorem pm_Wg.vlen {pc : Nat} {x : UInt64} {q : Nat × Nat × String × Nat} {L : List (Option Value)} {S : List Value} {h : pm_H} (hd : decode (pm_cd m) pc = .ok (.arraylength, 1)) (hk : pm_SR[x.toNat]? = some q) (kk : pm_Wg m d r hf (pc + 1, L, .int (Int32.ofNat q.2.2.1.length) :: S, h)) : pm_Wg m d r hf (pc, L, .double x :: S, h) := by
  refine ⟨kk.1, pm_Wx.one (fun l p e R s mid args below meth c Q G A ad cells slots C hW ls H locs ws hr => ?_) kk.2⟩
  obtain ⟨hexec, hb, hml, hrt, hlk0, hown, hts, -⟩ := C
  exact ⟨pm_oks (pm_ok_int _) (pm_tl_ok hr.2.2.1), fun w => va_tlen (A := A) hexec hb ((hW.stx.1 _ q hk).2.2.2) hr.2.2.2.2.2.2 rfl hd w⟩
theorem pm_Wg.vbald {pc : Nat} {i : Int32} {x : UInt64} {q : Nat × Nat × String × Nat} {L : List (Option Value)} {S : List Value} {h : pm_H} (hd : decode (pm_cd m) pc = .ok (.baload, 1)) (hk : pm_SR[x.toNat]? = some q) (hi : vp_in i q.2.2.1.length) (kk : pm_Wg m d r hf (pc + 1, L, .int (pm_by q.2.2.1 i.toNatClampNeg) :: S, h)) : pm_Wg m d r hf (pc, L, .int i :: .double x :: S, h) := by
  refine ⟨kk.1, pm_Wx.one (fun l p e R s mid args below meth c Q G A ad cells slots C hW ls H locs ws hr => ?_) kk.2⟩
  obtain ⟨hexec, hb, hml, hrt, hlk0, hown, hts, -⟩ := C
  exact ⟨pm_oks (pm_ok_int _) (pm_tl_ok (pm_tl_ok hr.2.2.1)), fun w => va_tb (A := A) hexec hb ((hW.stx.1 _ q hk).2.2.2) hr.2.2.2.2.2.2 hi rfl hd w⟩
theorem pm_Wg.gcomp {pc ix : Nat} {L : List (Option Value)} {S : List Value} {h : pm_H} (hd : decode (pm_cd m) pc = .ok (.getstatic ix, 3)) (hlk : Cond.fieldLink (pm_cn (pm_oc m)) ix "java/lang/String" "COMPACT_STRINGS" "Z" ∈ pm_ws) (kk : pm_Wg m d r hf (pc + 3, L, .int 1 :: S, h)) : pm_Wg m d r hf (pc, L, S, h) := by
  refine ⟨kk.1, pm_Wx.one (fun l p e R s mid args below meth c Q G A ad cells slots C hW ls H locs ws hr => ?_) kk.2⟩
  obtain ⟨hexec, hb, hml, hrt, hlk0, hown, hts, -⟩ := C
  exact ⟨pm_oks (pm_ok_int _) hr.2.2.1, fun w => va_gets (A := A) hexec hb hW.stx.2.1 hr.2.2.2.2.2.2 hown (hts _ hlk) (fun _ z => z) hd w⟩
theorem pm_Wg.gform {pc ix : Nat} {L : List (Option Value)} {S : List Value} {h : pm_H} (hd : decode (pm_cd m) pc = .ok (.getstatic ix, 3)) (hlk : Cond.fieldLink (pm_cn (pm_oc m)) ix "jdk/internal/util/Preconditions" "SIOOBE_FORMATTER" "Ljava/util/function/BiFunction;" ∈ pm_ws) (kk : pm_Wg m d r hf (pc + 3, L, .float 0 :: S, h)) : pm_Wg m d r hf (pc, L, S, h) := by
  refine ⟨kk.1, pm_Wx.one (fun l p e R s mid args below meth c Q G A ad cells slots C hW ls H locs ws hr => ?_) kk.2⟩
  obtain ⟨hexec, hb, hml, hrt, hlk0, hown, hts, -⟩ := C
  exact ⟨pm_oks (pm_ok_fl _) hr.2.2.1, fun w => va_gets (A := A) hexec hb hW.stx.2.2 hr.2.2.2.2.2.2 hown (hts _ hlk) (fun _ z => z) hd w⟩
theorem pm_Wg.i2c {pc : Nat} {x : Int32} {L : List (Option Value)} {S : List Value} {h : pm_H} (hd : decode (pm_cd m) pc = .ok (.i2c, 1)) (kk : pm_Wg m d r hf (pc + 1, L, .int (x.toUInt32 % 65536).toInt32 :: S, h)) : pm_Wg m d r hf (pc, L, .int x :: S, h) := by
  refine ⟨kk.1, pm_Wx.one (fun l p e R s mid args below meth c Q G A ad cells slots C hW ls H locs ws hr => ?_) kk.2⟩
  obtain ⟨hexec, hb, hml, hrt, hlk0, hown, hts, -⟩ := C
  exact ⟨pm_oks (pm_ok_int _) (pm_tl_ok hr.2.2.1), fun w => lv_i2c hexec hb hd rfl w⟩
theorem pm_Wg.ald {pc : Nat} {i : Fin 4} {x : UInt64} {L : List (Option Value)} {S : List Value} {h : pm_H} (hd : decode (pm_cd m) pc = .ok (.aload_n i, 1)) (hL : L[i.val]? = some (some (.double x))) (kk : pm_Wg m d r hf (pc + 1, L, .double x :: S, h)) : pm_Wg m d r hf (pc, L, S, h) := by
  refine ⟨kk.1, pm_Wx.one (fun l p e R s mid args below meth c Q G A ad cells slots C hW ls H locs ws hr => ?_) kk.2⟩
  obtain ⟨hexec, hb, hml, hrt, hlk0, hown, hts, -⟩ := C
  exact ⟨pm_oks (pm_ok_db _) hr.2.2.1, fun w => lv_aload_n hexec hb hd rfl (hr.1.2.2 i.val _ hL) w⟩
/-- a String's own method -/
theorem pm_Wx.callT {m' ix rr pl pc k : Nat} {q : Nat × Nat × String × Nat} {L : List (Option Value)} {As S st : List Value} {h h1 : pm_H} {v : Option Value} (hF : pm_Fok F) (hm' : m' < pm_nM) (hh : pm_hh m' = []) (hd : decode (pm_cd m) pc = .ok (.invokevirtual ix, 3)) (hML : pm_ML[rr]? = some (pm_oc m, ix, m', 0, pl)) (hstt : pm_stt m' = false) (hni : (pm_y m').name ≠ "<init>") (hlen : As.length = pm_na m') (hobj : pm_SR[k]? = some q) (hoc : pm_cn (pm_oc m') = "java/lang/String") (h8 : pm_sum S ≤ 8) (hst : st = As.reverse ++ .retAddr k :: S) (hM : pm_Mt m' d (.retAddr k :: As) h (.inl v) h1) (kk : pm_Wx m (d + 1) F b1 b2 (pc + 3, L, v.toList ++ S, h1)) : pm_Wx m (d + 1) F b1 b2 (pc, L, st, h) := by
  subst hst
  have m1 := hM.1.1
  have m2 := hM.1.2.1
  have m3 := kk.1
  have m4 := kk.2.1
  dsimp only at m1 m2 m3 m4
  refine ⟨by dsimp only; omega, by dsimp only; omega, fun l hl p e R s mid args below meth c G A ad c0 s0 C hW hlen9 hc0 hs0 hcr hsr => ?_⟩
  have C9 := C
  obtain ⟨hexec, hb, hml, hrt, hlk0, hown, hts, htab, hin, hfr, hlo⟩ := C
  intro ls H locs ws hr
  have has : ∀ v ∈ Value.retAddr k :: As, pm_ok h v := fun v hv => by
    rcases List.mem_cons.mp hv with z | z
    · rw [z]; exact pm_ok_ra k
    · exact hr.2.2.1 v (List.mem_append_left _ (List.mem_reverse.mpr z))
  have hS : ∀ v ∈ S, pm_ok h v := fun v hv => hr.2.2.1 v (List.mem_append_right _ (List.mem_cons_of_mem _ hv))
  have hA := pm_relA hW hr
  have h4 := pm_M4_at hm'
  have hrec : ∃ cell : Cell, H[G.2.2.1 k]? = some cell ∧ cell.vm.isStatics = false ∧ s.vm.findClass (pm_cn (pm_oc m')) = some cell.cls := by
    obtain ⟨cell, g1, g2, g3, -⟩ := ((hW.stx.1 k q hobj).1).kept hr.2.2.2.2.2.2.2.1
    exact ⟨cell, g1, g2, by rw [hoc]; exact g3⟩
  dsimp only at hc0 hs0 hlen9
  have run := va_runV (C := pm_cn (pm_oc m')) (cells := h.2.2.1 - c0) (slots := h.2.2.2 - s0) (locs := locs) (e := e) (below := below) (meth := meth) (g := F0 mid pc ls ((As.reverse ++ .retAddr k :: S).map (pm_cv G ad))) (As := As.map (pm_cv G ad)) (rest := S.map (pm_cv G ad)) (b := G.2.2.1 k) ⟨hexec, hb, hml, hown, hts⟩ (pm_met (hM.2 l hl G ad ws H.size hr.2.2.2.1 has) (fun _ _ _ z => z)) ⟨pm_callB hm' hh hts (pm_ML_at hML rfl).1 hfr hlo, hts _ (pm_inst_at hm' hstt), by rw [← h4.1]; exact hts _ (pm_sel_at hm' hstt hni)⟩ ⟨pm_Pc_blind, hrec, pm_Pc_at (as := .retAddr k :: As) hW hr hA⟩ rfl (by rw [List.length_map]; exact hlen) (hr.1.1.trans hlen9) (by show (As.reverse ++ .retAddr k :: S).map (pm_cv G ad) = _; rw [List.map_append, List.map_reverse]; rfl) (pm_sum8 hW h8) hd ⟨by omega, by omega⟩
  refine pm_run_ok hW hr hS hM.1 run (fun ad' H1 locs1 ws1 he hrel => ?_)
  have key := pm_at.mono (fun t z => hF _ _ _ _ _ _ _ _ _ _ _ t hM.1 he z) (kk.2.2 l hl p e R s mid args below meth c G A ad' c0 s0 C9 hW hlen9 (by dsimp only; omega) (by dsimp only; omega) hcr hsr) ls H1 locs1 ws1 hrel
  dsimp only at key ⊢
  rw [show h.2.2.1 - c0 + (h1.2.2.1 - h.2.2.1) = h1.2.2.1 - c0 by omega, show h.2.2.2 - s0 + (h1.2.2.2 - h.2.2.2) = h1.2.2.2 - s0 by omega]
  exact key
theorem pm_Wg.callT {m' ix rr pl pc k : Nat} {q : Nat × Nat × String × Nat} {L : List (Option Value)} {As S st : List Value} {h h1 : pm_H} {v : Option Value} (hm' : m' < pm_nM) (hh : pm_hh m' = []) (hd : decode (pm_cd m) pc = .ok (.invokevirtual ix, 3)) (hML : pm_ML[rr]? = some (pm_oc m, ix, m', 0, pl)) (hstt : pm_stt m' = false) (hni : (pm_y m').name ≠ "<init>") (hlen : As.length = pm_na m') (hobj : pm_SR[k]? = some q) (hoc : pm_cn (pm_oc m') = "java/lang/String") (h8 : pm_sum S ≤ 8) (hst : st = As.reverse ++ .retAddr k :: S) (hM : pm_Mt m' d (.retAddr k :: As) h (.inl v) h1) (kk : pm_Wg m (d + 1) r hf (pc + 3, L, v.toList ++ S, h1)) : pm_Wg m (d + 1) r hf (pc, L, st, h) := ⟨hM.1.trans kk.1, pm_Wx.callT pm_FQ_ok hm' hh hd hML hstt hni hlen hobj hoc h8 hst hM kk.2⟩
end PMS
/-- a body of a method that the model has no row of its own for, though its class is among those that have some -/
theorem vx_ofWF {l : Launch} {y : MethodName} {ws ws' : List Cond} {rm : Room} {Pc : Array Value → State → Prop} {Qc : Array Value → State → Outcome → State → Prop} {XC : String → State → State → Prop} {mc ms : Nat} {free : Addr → Prop} {cc : ByteArray} {maxL : Nat} {ret : Option FieldType}
    (hy : plainFor y = true) (hw : ws = Cond.code y cc maxL ret :: ws')
    (body : ∀ p e s m args below meth c s₁, BodyLoose p l y (headSpec ws rm) cc maxL ret e s m args below meth c s₁ → c.maxLocals = maxL → (∀ x ∈ c.exceptionTable.toList, False) → Pc args s →
      W p l e (headSpec ws rm).room s m args below meth c s.heap [] 0 0 (vx_MQ below Qc XC args s mc ms free) (entryFrame m args maxL)) : vx_Met l y ws rm Pc Qc XC mc ms free := by
  refine MetFree.of_bodySF (code := cc) (maxLocals := maxL) (ret := ret) hy ?_ ?_
  · intro args s m h hn
    obtain ⟨meth, c, h1, h2, h3, h4, h5, h6, -, -⟩ := Cond.code_spec hn (atoms_spec (ws := ws) h _ (by rw [hw]; exact List.mem_cons_self))
    exact ⟨meth, c, h1, h2, h3, h4, h5, h6⟩
  · intro p e s m args below meth c s₁ B hml hP _
    have hh0 : s₁.heap = s.heap := by rw [B.state]; rfl
    have ht : ∀ x ∈ c.exceptionTable.toList, False := by
      obtain ⟨meth9, c9, h1, h2, -, -, -, -, h7, -⟩ := Cond.code_spec B.named (atoms_spec (ws := ws) B.pre _ (by rw [hw]; exact List.mem_cons_self))
      cases Option.some.inj (h1.symm.trans B.method)
      cases Option.some.inj (h2.symm.trans (Stand.of_body B).code)
      intro x hx
      rw [Array.isEmpty_iff.mp h7] at hx
      cases hx
    obtain ⟨t, a1, o, b1, b2, b3⟩ := body p e s m args below meth c s₁ B hml ht hP s₁ hh0 (Stand.of_body B)
    exact ⟨t, o, a1, b1, b2, b3⟩
theorem pm_Mt.ofF {m d : Nat} {r : Option Value ⊕ String} {h h' : pm_H} {as : List Value} (hm : m < pm_nM) (hpl : plainFor (pm_y m) = true) (hh : pm_hh m = []) (hL : pm_L0len (pm_ml m) as = true) (kk : pm_Wg m d r h' (0, pm_L0 (pm_ml m) as, [], h)) : pm_Mt m d as h r h' := by
  refine ⟨kk.1, fun l hl G ad ws sz hp has => ?_⟩
  have hcw : pm_codew m = Cond.code (pm_y m) (pm_cd m) (pm_ml m) (pm_rt m) := by unfold pm_codew; rw [hh]
  refine vx_ofWF (cc := pm_cd m) (maxL := pm_ml m) (ret := pm_rt m) hpl (by rw [hcw]) ?_
  intro p e s mid args below meth c s₁ B hml htab hv
  obtain ⟨rfl, hsz, hP, hD, hW⟩ := hv
  subst hsz
  have hts := atoms_spec (ws := pm_codew m :: pm_ws) B.pre
  have hown : s.vm.findClass (pm_cn (pm_oc m)) = some mid.cls := by
    rw [← (pm_M4_at hm).1]
    exact findClass_of_methodNamed B.named
  exact pm_Wg.entry hL kk hl ⟨B.exec, B.bytes, hml, B.returns, B.notSynchronized, hown, fun w hw => hts w (List.mem_cons_of_mem _ hw), by rw [hh]; exact List.eq_nil_iff_forall_not_mem.mpr htab, fun q => ((name_of_methodNamed B.named B.method).1).trans q, Nat.le_refl _, Nat.le_refl _⟩ hp has hP hD hW
