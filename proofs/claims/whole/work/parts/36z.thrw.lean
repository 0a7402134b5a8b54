/-! Throws whose text has a wide index. -/
section PXB
variable {p : Program} {l : Launch} {e : Env} {R : Room} {s : State} {m : MethodId} {args : Array Value} {below : List Frame} {meth : Method} {c : Code} {H : Heap} {locs : List Loc} {cells slots : Nat} {Q : State → Prop}
variable {ls : Array Slot} {rest : List Value}
theorem px_makeSW {cc : ByteArray} {pc : Nat} (hexec : p.tables.exec = Jvm.exec) (hb : c.code = cc) (hl : l.stackTraces = false) {own cls text : String} {names : List String} {ik is ic ix sa : Nat} {rx : ByteArray} {A : Nat → Prop} (x0 : decode rx 0 = .ok (.aload_n 0, 1)) (x1 : decode rx 1 = .ok (.aload_n 1, 1)) (x2 : decode rx 2 = .ok (.invokespecial ix, 3)) (x5 : decode rx 5 = .ok (.return_, 1))
    (hown : s.vm.findClass own = some m.cls) (hcls : Bundle.fit cls = true) (hnames : ∀ n ∈ names, Bundle.fit n = true)
    (hk : (Cond.classLink own ik cls).before args s = true) (hini : (Cond.initialized cls).before args s = true) (hstr : vk_R own is text sa s) (hat : ∀ w ∈ px_at own ic cls ix rx names, w.before args s = true)
    (hgood : ∀ w ∈ Cond.classLink own ik cls :: Cond.initialized cls :: px_at own ic cls ix rx names, vx_ot w = true)
    (hU : vx_Zq Bundle.tN "UNASSIGNED_STACK" Bundle.steD A s s.heap) (hN : vx_Zq Bundle.tN "SUPPRESSED_SENTINEL" Bundle.listD A s s.heap) (hS : va_S A s.heap H locs) (hsize : ls.size = c.maxLocals)
    (d0 : decode cc pc = .ok (.new ik, 3)) (d3 : decode cc (pc + 3) = .ok (.dup, 1)) (d4 : decode cc (pc + 4) = .ok (.ldc_w is, 3)) (d6 : decode cc (pc + 7) = .ok (.invokespecial ic, 3))
    (hRframes : names.length + 3 < R.frames) (hRlocals : (rest.map fun v => v.category).sum + (13 * (names.length + 1) + 43) ≤ R.locals) (hRcells : cells + 1 ≤ R.cells) (hRslots : slots + 6 ≤ R.slots)
    (kk : ∀ (q : Nat) (H1 : Heap) (ce : Cell), H.size ≤ H1.size → (∀ z : Nat, z < H.size → H1[z]? = H[z]?) → H1[q]? = some ce → ce.vm = .none → s.vm.findClass cls = some ce.cls → W p l e R s m args below meth c H1 locs (cells + 1) (slots + 6) Q (F0 m (pc + 10) ls (.ref q :: rest))) :
    W p l e R s m args below meth c H locs cells slots Q (F0 m pc ls rest) := by
  intro T hT X
  subst hT
  have htr : e.platform.stackTraces = false := (show e.platform.stackTraces = l.stackTraces by rw [X.admits.platform]).trans hl
  have Y := vx_rebase X (R' := { frames := R.frames, locals := R.locals, cells := 1, slots := 6 }) (Nat.le_refl _) (Nat.le_refl _) hRcells hRslots
  obtain ⟨s', hA'⟩ : ∃ z, z = (T.setVm s.vm).setFrames (.invoking m args :: below) := ⟨_, rfl⟩
  rw [← hA'] at Y
  have hvm : s'.vm = s.vm := by rw [hA']; rfl
  have hhp : s'.heap = T.heap := by rw [hA']; rfl
  have hW0 : s.WarmedH s'.vm := by rw [hvm]; exact State.WarmedH.refl s
  have hat' : ∀ w ∈ px_at own ic cls ix rx names, w.before args s' = true := fun w hw => vx_ot_at hW0 hvm.symm (hgood w (List.mem_cons_of_mem _ (List.mem_cons_of_mem _ hw))) (hat w hw)
  have hk' : (Cond.classLink own ik cls).before args s' = true := vx_ot_at hW0 hvm.symm (hgood _ List.mem_cons_self) hk
  have hini' : (Cond.initialized cls).before args s' = true := vx_ot_at hW0 hvm.symm (hgood _ (List.mem_cons_of_mem _ List.mem_cons_self)) hini
  have hU' : vx_Zq Bundle.tN "UNASSIGNED_STACK" Bundle.steD A s' s'.heap := by rw [hhp]; exact vx_Zq.moved hW0.alike (hU.kept hS.2.1)
  have hN' : vx_Zq Bundle.tN "SUPPRESSED_SENTINEL" Bundle.listD A s' s'.heap := by rw [hhp]; exact vx_Zq.moved hW0.alike (hN.kept hS.2.1)
  have h : ∀ w ∈ px_own own ic cls ix rx names, w.before args s' = true := vx_own hat' (vx_isRefq hU'.1) (vx_isRefq hN'.1) hU'.2.word hN'.2.word
  have hown' : s'.vm.findClass own = some m.cls := by rw [hvm]; exact hown
  have hins : (Cond.instantiable cls 6).before args s' = true := h _ (by simp [px_own])
  obtain ⟨vm₁, cX, kX, hfX, hkX, -, -, X₁, st1⟩ := Y.newCold hexec (own := own) (C := cls) (index := ik) (n := 6) hown' hk' hins hini'
    (g := F0 m pc ls rest) rfl (by rw [hb]; exact d0) (Nat.le_refl _) (Nat.le_refl _)
  generalize hT1 : (T.setVm vm₁).pushCell { cls := cX, slots := kX.instanceTypes.map defaultValue, vm := .none } = T1 at X₁ st1
  have hcat : (Value.ref T.heap.size).category = 1 := rfl
  have hcellA : T1.heap[T.heap.size]? = some (freshCell cX kX) := by rw [← hT1]; exact State.heap_pushCell_size _ _
  have d3' : decode c.code (pc + 3) = .ok (.dup, 1) := by rw [hb]; exact d3
  have d4' : decode c.code (pc + 4) = .ok (.ldc_w is, 3) := by rw [hb]; exact d4
  have hstr' : vk_R own is text sa s' := vk_R.warm hW0 hstr
  obtain ⟨V, ce, L, Z, hL, hlt, hcl9, hvm9, st⟩ := px_ctorMadeS X₁ hexec htr x0 x1 x2 x5 (own := own) (cls := cls) (names := names) (ic := ic) hown' hcls hnames h (fun x hx => nomatch hx) hfX hkX hcellA (by rw [hhp]; exact Nat.le_refl _) (msg := .ref sa) rfl
    (g := { method := m, pc := pc + 7, locals := ls, stack := .ref sa :: .ref T.heap.size :: .ref T.heap.size :: rest, locked := none }) rfl hsize (rest := rest) rfl
    (by rw [hb]; exact d6) hRframes (by simp only [List.map_cons, List.sum_cons, hcat]; omega)
  have Z0 := Stand.forget (locs := []) Z (fun y hy => by rw [hL y hy, hhp]; exact Nat.le_refl _)
  obtain ⟨f1, f2⟩ := vx_frame Z0.same
  rw [hhp] at f1 f2
  have hcid : s.vm.findClass cls = some ce.cls := by
    rw [hcl9, ← hvm]
    exact hfX
  have hh : (V.setCell T.heap.size ce).heap[T.heap.size]? = some ce := heapAt_setCell_self (s := V) ce hlt
  subst hA'
  have X5 := px_back9 X Y Z0
  have X6 : Stand p l e R s m args below meth c (V.setCell T.heap.size ce) locs (cells + 1) (slots + 6) := { X5 with same := X5.same.mono (by omega) (by omega) }
  obtain ⟨t, a1, b1⟩ := kk T.heap.size (V.setCell T.heap.size ce).heap ce f1 (fun z hz => f2 z hz (fun z hz => nomatch hz)) hh hvm9 hcid _ rfl X6
  refine ⟨t, st1 _ ?_, b1⟩
  show Steps p.tables e below (T1.setTop { method := m, pc := pc + 3, locals := ls, stack := .ref T.heap.size :: rest, locked := none }) _
  jvm_step X₁.here [X₁.here.top, hexec, d3', Value.category]
  exact X₁.ldcStringW hexec (own := own) (text := text) (index := is) (a := sa) hown' hstr'.1 hstr'.2
    (g := { method := m, pc := pc + 4, locals := ls, stack := .ref T.heap.size :: .ref T.heap.size :: rest, locked := none }) rfl d4' _ (st _ a1)
end PXB
theorem pm_Wg.throwW {m d pc k ik ic ix : Nat} {E : String} {rx : ByteArray} {q : Nat × Nat × String × Nat} {L : List (Option Value)} {S : List Value} {h : pm_H} (ho : pm_oc m = 8) (hh : pm_hh m = []) (hd6 : 6 ≤ d) (hE : px_ok E ik ic ix rx) (hk : pm_SR[k]? = some q) (hq1 : q.1 = 8) (d0 : decode (pm_cd m) pc = .ok (.new ik, 3)) (d3 : decode (pm_cd m) (pc + 3) = .ok (.dup, 1)) (d4 : decode (pm_cd m) (pc + 4) = .ok (.ldc_w q.2.1, 3)) (d6 : decode (pm_cd m) (pc + 7) = .ok (.invokespecial ic, 3)) (d9 : decode (pm_cd m) (pc + 10) = .ok (.athrow, 1)) (h8 : pm_sum S ≤ 8) : pm_Wg m d (.inr E) (h.1, h.2.1, h.2.2.1 + 1, h.2.2.2 + 6) (pc, L, S, h) := by
  refine ⟨⟨Nat.le_succ _, Nat.le_add_right _ _, fun i c hc => ⟨c, hc⟩⟩, Nat.le_succ _, Nat.le_add_right _ _, fun l hl p e R s mid args below meth c G A ad c0 s0 C hW hlen hc0 hs0 hcr hsr => ?_⟩
  obtain ⟨hexec, hb, hml, hrt, hlk0, hown, hts, htab, hin, hfr, hlo⟩ := C
  intro ls H locs ws hr
  obtain ⟨⟨e1, x0, x1, x2, x5⟩, e2, e3, e4, e5⟩ := hE
  rw [ho] at hown
  dsimp only at hc0 hs0 hlen hcr hsr
  have hstr := hW.2.2.2.2.2.2.2.2.1 k q hk
  rw [hq1] at hstr
  have hS := hr.2.2.2.2.2.2
  have hP := hr.2.2.2.2.1
  have hsum := Nat.le_trans (pm_sum_eq (ad := ad) hW.2.2.2.2.1 S) h8
  have hn2 : pm_nms.length = 2 := rfl
  refine px_makeSW (own := pm_cn 8) (cls := E) (names := pm_nms) (ik := ik) (ic := ic) (sa := G.2.2.1 k) (text := q.2.2.1) (A := A) hexec hb hl x0 x1 x2 x5 hown e1 px_nms (hts _ e2) (hts _ e3) hstr (fun w hw => (e4 w hw).elim (fun z => hts w z) (fun z => va_Nw.use (px_ot w (List.mem_filter.mp z).2) (hW.2.2.2.2.2.2.2.2.2.1 w z))) e5 hW.2.2.2.2.2.2.1 hW.2.2.2.2.2.2.2.1 hS ((hr.1.1.trans hlen).trans hml.symm) d0 d3 d4 d6 (by rw [hn2]; omega) (by rw [hn2]; dsimp only at hsum ⊢; omega) (by dsimp only; omega) (by dsimp only; omega) (fun q9 H1 ce g1 g2 g3 g4 g5 => ?_)
  refine px_athrow hexec hb d9 ?_
  refine vx_out (E := E) (ce := ce) (fun x hx => by rw [htab, hh] at hx; cases hx) hlk0 g3 g4 g5 (fun t ht hal => ?_) hS.2.2 (by dsimp only; omega) (by dsimp only; omega)
  refine ⟨rfl, ad, ws, fun _ _ _ => rfl, hr.2.2.2.1, ?_, hr.2.2.2.2.2.1, ?_⟩
  · rw [ht]
    exact hP.kept (fun k9 x hx => g2 x.1 ((hP k9 x hx).lt))
  · exact ⟨by rw [ht]; exact Nat.le_trans hS.1 g1, fun z h1 h2 => by rw [ht]; exact (g2 z (Nat.lt_of_lt_of_le h1 hS.1)).trans (hS.2.1 z h1 h2)⟩
