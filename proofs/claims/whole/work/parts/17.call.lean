/-! Calls. -/
theorem pm_M4_at {m : Nat} (hm : m < pm_nM) : (pm_y m).cls = pm_cn (pm_oc m) ∧ (parseMethodDescriptor (pm_y m).desc).map (fun d => d.parameters.length) = some (pm_na m) ∧ (pm_y m).cls ≠ "java/lang/invoke/MethodHandle" ∧ (pm_y m).cls ≠ "java/lang/invoke/VarHandle" ∧ pm_oc m < 19 ∧ pm_ml m ≤ 21 := by
  have h := pm_M4 m hm
  unfold pm_Mc4 at h
  simp only [Bool.and_eq_true, decide_eq_true_eq, Nat.blt_eq] at h
  exact ⟨h.1, h.2.1, h.2.2.1, h.2.2.2.1, h.2.2.2.2.1, Nat.le_of_ble_eq_true h.2.2.2.2.2⟩
theorem pm_Mt.of {m d : Nat} {r : Option Value ⊕ String} {h h' : pm_H} {as : List Value} (hm : m < pm_nM) (hpl : plainName (pm_y m).cls = true) (hh : pm_hh m = []) (hL : pm_L0len (pm_ml m) as = true) (kk : pm_Wg m d r h' (0, pm_L0 (pm_ml m) as, [], h)) : pm_Mt m d as h r h' := by
  refine ⟨kk.1, fun l hl G ad ws sz hp has => ?_⟩
  have hcw : pm_codew m = Cond.code (pm_y m) (pm_cd m) (pm_ml m) (pm_rt m) := by unfold pm_codew; rw [hh]
  refine vx_ofW (cc := pm_cd m) (maxL := pm_ml m) (ret := pm_rt m) hpl (by rw [hcw]) ?_
  intro p e s mid args below meth c s₁ B hml htab hv
  obtain ⟨rfl, hsz, hP, hD, hW⟩ := hv
  subst hsz
  have hts := atoms_spec (ws := pm_codew m :: pm_ws) B.pre
  have hown : s.vm.findClass (pm_cn (pm_oc m)) = some mid.cls := by
    rw [← (pm_M4_at hm).1]
    exact findClass_of_methodNamed B.named
  exact pm_Wg.entry hL kk hl ⟨B.exec, B.bytes, hml, B.returns, B.notSynchronized, hown, fun w hw => hts w (List.mem_cons_of_mem _ hw), by rw [hh]; exact List.eq_nil_iff_forall_not_mem.mpr htab, fun q => ((name_of_methodNamed B.named B.method).1).trans q, Nat.le_refl _, Nat.le_refl _⟩ hp has hP hD hW
theorem pm_Mt.ofH {m d : Nat} {r : Option Value ⊕ String} {h h' : pm_H} {as : List Value} {x : Nat × Nat × Nat × Nat} {xs : List (Nat × Nat × Nat × Nat)} (hm : m < pm_nM) (hpl : plainName (pm_y m).cls = true) (hh : pm_hh m = x :: xs) (hL : pm_L0len (pm_ml m) as = true) (kk : pm_Wg m d r h' (0, pm_L0 (pm_ml m) as, [], h)) : pm_Mt m d as h r h' := by
  refine ⟨kk.1, fun l hl G ad ws sz hp has => ?_⟩
  have hcw : pm_codew m = Cond.codeWith (pm_y m) (pm_cd m) (pm_ml m) (pm_rt m) (x :: xs) := by unfold pm_codew; rw [hh]
  refine vx_ofWH (cc := pm_cd m) (maxL := pm_ml m) (ret := pm_rt m) (hh := x :: xs) hpl (by rw [hcw]) ?_
  intro p e s mid args below meth c s₁ B hml hv
  obtain ⟨rfl, hsz, hP, hD, hW⟩ := hv
  subst hsz
  have hts := atoms_spec (ws := pm_codew m :: pm_ws) B.pre
  have hown : s.vm.findClass (pm_cn (pm_oc m)) = some mid.cls := by
    rw [← (pm_M4_at hm).1]
    exact findClass_of_methodNamed B.named
  have htab : c.exceptionTable.toList = tableOf (pm_hh m) := by
    rw [hh]
    have h9 := hts _ List.mem_cons_self
    rw [hcw] at h9
    exact vx_table (x := pm_y m) B h9
  exact pm_Wg.entry hL kk hl ⟨B.exec, B.bytes, hml, B.returns, B.notSynchronized, hown, fun w hw => hts w (List.mem_cons_of_mem _ hw), htab, fun q => ((name_of_methodNamed B.named B.method).1).trans q, Nat.le_refl _, Nat.le_refl _⟩ hp has hP hD hW
/-- a contract that only returns -/
theorem pm_met {l : Launch} {y : MethodName} {ws : List Cond} {rm : Room} {Pc : Array Value → State → Prop} {Qc : Array Value → State → Outcome → State → Prop} {XC : String → State → State → Prop} {mc ms : Nat} {free : Addr → Prop} (h : vx_Met l y ws rm Pc Qc XC mc ms free) (hX : ∀ E st t, ¬ XC E st t) : Met l y ws rm Pc Qc mc ms free := by
  intro p e h1 h2 h3 s m args below h4 h5 h6 h7
  obtain ⟨n, o, k1, k2, k3, k4⟩ := h p e h1 h2 h3 s m args below h4 h5 h6 h7
  refine ⟨n, o, k1, k2, k3, ?_⟩
  rcases k4 with k4 | ⟨q, -, E, ce, L, k5, -⟩
  · exact k4
  · exact absurd k5 (hX _ _ _)
theorem pm_good {ws : List Cond} (h : ∀ w ∈ ws, w ∈ pm_ws) : GoodIn pm_ws ws := fun w hw => ⟨h w hw, good_of_word (List.mem_filter.mp (h w hw)).2⟩
theorem pm_goodc {m : Nat} (hm : m < pm_nM) : ∀ w ∈ pm_codew m :: pm_ws, w ∈ pm_ws := fun w hw => by
  rcases List.mem_cons.mp hw with q | q
  · rw [q]; exact pm_M1 m hm
  · exact q
theorem pm_nb_warm {s U : State} (hW : s.WarmedH U.vm) (h : ∀ w ∈ pm_nb, va_Nw w s) : ∀ w ∈ pm_nb, va_Nw w U := fun w hw => by
  have h1 := h w hw
  have h2 : pm_isn w = true := (List.mem_filter.mp hw).2
  cases w <;> first
    | (cases h2; done)
    | exact va_Nw.warmD hW h1
    | exact va_Nw.warmC hW h1
    | exact va_Nw.warmM hW h1
theorem pm_nb_same {u U : State} (hv : U.vm = u.vm) (h : ∀ w ∈ pm_nb, va_Nw w u) : ∀ w ∈ pm_nb, va_Nw w U := fun w hw => by
  have h1 := h w hw
  have h2 : pm_isn w = true := (List.mem_filter.mp hw).2
  cases w <;> first
    | (cases h2; done)
    | exact va_Nw.same rfl hv.symm h1
theorem pm_Wd.moved {G : pm_G} {A : Nat → Prop} {u U : State} (hvm : U.vm = u.vm) (hh : U.heap = u.heap) (h : pm_Wd G A u) : pm_Wd G A U := by
  have hal : u.vm.Alike U.vm := by rw [hvm]; exact Vm.Alike.refl _
  obtain ⟨h1, h2, h3, h4, h5, h6, h7, h8, h9, h10, h11, h12⟩ := h
  refine ⟨va_K.moved hal h1, by rw [hh]; exact va_X.moved hal h2, by rw [hh]; exact h3, h4, h5, by rw [hh]; exact h6, by rw [hh]; exact vx_Zq.moved hal h7, by rw [hh]; exact vx_Zq.moved hal h8, fun k q hk => vk_R.same hvm (h9 k q hk), pm_nb_same hvm h10, fun q hq => va_Nc.moved hal (h11 q hq), pm_stx.to hal (fun a _ _ => by rw [hh]) (fun _ hq => hq) h12⟩
section PMS
variable {m d : Nat} {p : Program} {l : Launch} {e : Env} {R : Room} {s : State} {mid : MethodId} {args : Array Value} {below : List Frame} {meth : Method} {c : Code} {G : pm_G} {A : Nat → Prop} {c0 s0 : Nat} {ad : Nat → Nat}
/-- what a callee stands on -/
theorem pm_Wd.call {H : Heap} {locs : List Loc} {ws : va_W} {U : State} (hW : pm_Wd G A s) (hS : va_S A s.heap H locs) (hA : ∀ q, va_A ws H.size q → A q) (hU : U.heap = H) (hw : s.WarmedH U.vm) : pm_Wd G (va_A ws H.size) U := by
  obtain ⟨h1, h2, h3, h4, h5, h6, h7, h8, h9, h10, h11, h12⟩ := hW
  have keep : ∀ a : Nat, a < s.heap.size → ¬ A a → H[a]? = s.heap[a]? := hS.2.1
  refine ⟨va_K.moved hw.alike h1, ?_, ?_, fun q => h4 (hA _ q), h5, ?_, ?_, ?_, fun k q hk => vk_R.warm hw (h9 k q hk), pm_nb_warm hw h10, fun q hq => va_Nc.moved hw.alike (h11 q hq), pm_stx.to hw.alike (by rw [hU]; exact keep) hA h12⟩
  · rw [hU]
    exact va_X.moved hw.alike (va_X.kept h2 (keep _ h3 h4))
  · rw [hU]
    exact Nat.lt_of_lt_of_le h3 hS.1
  · intro q hq
    rw [hU] at hq
    exact Or.inr hq
  · rw [hU]
    exact vx_Zq.moved hw.alike (vx_Zq.narrow (vx_Zq.kept h7 keep) hA)
  · rw [hU]
    exact vx_Zq.moved hw.alike (vx_Zq.narrow (vx_Zq.kept h8 keep) hA)
theorem pm_Pc_blind {ws : va_W} {sz : Nat} {as : List Value} : FrameBlind (pm_Pc G ad ws sz as) := fun a U g mk q => by
  obtain ⟨q1, q2, q3, q4, q5⟩ := q
  exact ⟨q1, q2, q3, q4, pm_Wd.moved (u := U) (U := U.calling g mk a) rfl rfl q5⟩
theorem pm_Pc_at {h : pm_H} {ws : va_W} {as : List Value} {L : List (Option Value)} {S : List Value} {ls : Array Slot} {H : Heap} {locs : List Loc} (hW : pm_Wd G A s) (hr : pm_rel G ad A s L S h ls H locs ws) (hA : ∀ q, va_A ws H.size q → A q) : ∀ U : State, U.heap = H → s.WarmedH U.vm → pm_Pc G ad ws H.size as (as.map (pm_cv G ad)).toArray U := fun U hU hw =>
  ⟨rfl, by rw [hU], by rw [hU]; exact hr.2.2.2.2.1, hr.2.2.2.2.2.1.weaken (fun _ _ _ _ => trivial), hW.call hr.2.2.2.2.2.2 hA hU hw⟩
theorem pm_relA {L : List (Option Value)} {S : List Value} {h : pm_H} {ls : Array Slot} {H : Heap} {locs : List Loc} {ws : va_W} (hW : pm_Wd G A s) (hr : pm_rel G ad A s L S h ls H locs ws) : ∀ q, va_A ws H.size q → A q := fun q hq => by
  rcases hq with ⟨k, e', hk⟩ | hq
  · exact hr.2.2.2.2.2.1.2 k (q, e') hk
  · exact hW.2.2.2.2.2.1 q (Nat.le_trans hr.2.2.2.2.2.2.1 hq)
/-- the state behind a call -/
theorem pm_rel_call {L : List (Option Value)} {S S1 : List Value} {h h1 : pm_H} {ls : Array Slot} {H : Heap} {locs Ls : List Loc} {ws ws' : va_W} {ad' : Nat → Nat} {st₀ t T' : State} (hW : pm_Wd G A s) (hr : pm_rel G ad A s L S h ls H locs ws) (hmo : pm_mo h h1) (hS1 : ∀ v ∈ S1, pm_ok h1 v) (h0 : st₀.heap = H) (e1 : T'.heap = t.heap) (hL : ∀ q ∈ Ls, va_A ws H.size q.base) (hE : pm_end G (va_A ws H.size) ad h h1 st₀ t ad' ws') : pm_rel G ad' A s L S1 h1 ls T'.heap (locs ++ Ls) ws' := by
  obtain ⟨k1, k2, k3, k4, k5, k6⟩ := hE
  have hA := pm_relA hW hr
  have live : ∀ w, pm_ok h w → pm_ok h1 w := fun w hw j ej => by
    obtain ⟨c', hc'⟩ := hw j ej
    exact hmo.2.2 j c' hc'
  rw [h0] at k5 k6
  refine ⟨⟨hr.1.1, hr.1.2.1, fun i v hv => ?_⟩, fun i v hv => live v (hr.2.1 i v hv), hS1, k2, by rw [e1]; exact k3, k4.weaken (fun _ q _ hq => hA _ hq), Nat.le_trans hr.2.2.2.2.2.2.1 (by rw [e1]; exact k5), fun q q1 q2 => ?_, fun z hz => ?_⟩
  · rw [pm_cv_same (hr.2.1 i v hv) k1]
    exact hr.1.2.2 i v hv
  · rw [e1, k6 q (Nat.lt_of_lt_of_le q1 hr.2.2.2.2.2.2.1) (fun z => q2 (hA q z))]
    exact hr.2.2.2.2.2.2.2.1 q q1 q2
  · rcases List.mem_append.mp hz with hz | hz
    · exact hr.2.2.2.2.2.2.2.2 z hz
    · exact hA _ (hL z hz)
theorem pm_run_ok {Q : State → Prop} {mc ms pc cells slots : Nat} {L : List (Option Value)} {S0 S st : List Value} {h h1 : pm_H} {v : Option Value} {ls : Array Slot} {H : Heap} {locs : List Loc} {ws : va_W} {a : Array Value} (hW : pm_Wd G A s) (hr : pm_rel G ad A s L S0 h ls H locs ws) (hS : ∀ v ∈ S, pm_ok h v) (hmo : pm_mo h h1)
    (hrun : va_Run p l e R s mid args below meth c H locs cells slots mc ms (F0 mid pc ls st) (S.map (pm_cv G ad)) (pm_Qc G (va_A ws H.size) ad h h1 (.inl v) a) (va_A ws H.size))
    (kk : ∀ (ad' : Nat → Nat) (H1 : Heap) (locs1 : List Loc) (ws1 : va_W), (∀ i c', pm_lk h i = some c' → ad' i = ad i) → pm_rel G ad' A s L (v.toList ++ S) h1 ls H1 locs1 ws1 → W p l e R s mid args below meth c H1 locs1 (cells + mc) (slots + ms) Q (F0 mid (pc + 3) ls ((v.toList ++ S).map (pm_cv G ad')))) : W p l e R s mid args below meth c H locs cells slots Q (F0 mid pc ls st) := by
  intro T hT X
  obtain ⟨v', st₀, t, T', Ls, h0, X', hL, e1, e2, hq, go⟩ := hrun T hT X
  obtain ⟨ad', ws', hv, hok, hE⟩ := hq
  have hv : v' = v.map (pm_cv G ad') := by injection hv
  subst hv
  have hS1 : ∀ w ∈ v.toList ++ S, pm_ok h1 w := fun w hw => by
    rcases List.mem_append.mp hw with q | q
    · cases v with
      | none => cases q
      | some z =>
        have : w = z := by simpa using q
        rw [this]
        exact hok z rfl
    · intro j ej
      obtain ⟨c', hc'⟩ := hS w q j ej
      exact hmo.2.2 j c' hc'
  obtain ⟨t2, a1, b1⟩ := kk ad' T'.heap (locs ++ Ls) ws' hE.1 (pm_rel_call hW hr hmo hS1 h0 e1 hL hE) T' rfl X'
  refine ⟨t2, go t2 ?_, b1⟩
  have hst : (v.toList ++ S).map (pm_cv G ad') = (v.map (pm_cv G ad')).toList ++ S.map (pm_cv G ad) := by
    rw [List.map_append, pm_map_same hS hE.1]
    cases v <;> rfl
  rw [hst] at a1
  exact a1
end PMS
