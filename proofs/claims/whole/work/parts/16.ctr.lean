/-! Contracts of methods over the pure machine's heaps, and how a body gives one. -/
def pm_end (G : pm_G) (A : Nat → Prop) (ad : Nat → Nat) (h h' : pm_H) (st t : State) (ad' : Nat → Nat) (ws' : va_W) : Prop :=
  (∀ i c, pm_lk h i = some c → ad' i = ad i) ∧ pm_hp G ad' h' ws' ∧ va_P G.1 vwCl ws' t.heap ∧ va_D A ws' ∧ va_F A st t
def pm_Qc (G : pm_G) (A : Nat → Prop) (ad : Nat → Nat) (h h' : pm_H) (r : Option Value ⊕ String) : Array Value → State → Outcome → State → Prop := fun _ st oc t => match r with
  | .inl v => ∃ (ad' : Nat → Nat) (ws' : va_W), oc = .returned (v.map (pm_cv G ad')) ∧ (∀ w, v = some w → pm_ok h' w) ∧ pm_end G A ad h h' st t ad' ws'
  | .inr _ => False
def pm_Xc (G : pm_G) (A : Nat → Prop) (ad : Nat → Nat) (h h' : pm_H) (r : Option Value ⊕ String) : String → State → State → Prop := fun E st t => match r with
  | .inl _ => False
  | .inr E0 => E = E0 ∧ ∃ (ad' : Nat → Nat) (ws' : va_W), pm_end G A ad h h' st t ad' ws'
def pm_Q (below : List Frame) (args : Array Value) (s : State) (G : pm_G) (A : Nat → Prop) (ad : Nat → Nat) (h h' : pm_H) (r : Option Value ⊕ String) (mc ms : Nat) : State → Prop := vx_MQ below (pm_Qc G A ad h h' r) (pm_Xc G A ad h h' r) args s mc ms A
/-- what is to be reached, said of a frame's addresses and heap -/
abbrev pm_Fam : Type := List Frame → Array Value → State → pm_G → (Nat → Prop) → (Nat → Nat) → pm_H → Nat → Nat → State → Prop
def pm_Fok (F : pm_Fam) : Prop := ∀ (below : List Frame) (args : Array Value) (s : State) (G : pm_G) (A : Nat → Prop) (ad ad1 : Nat → Nat) (h h1 : pm_H) (c0 s0 : Nat) (t : State), pm_mo h h1 → (∀ i c, pm_lk h i = some c → ad1 i = ad i) → F below args s G A ad1 h1 c0 s0 t → F below args s G A ad h c0 s0 t
/-- from the frame f of the method m what F says is reached, with at most b1 cells and b2 slots in all -/
def pm_Wx (m d : Nat) (F : pm_Fam) (b1 b2 : Nat) (f : pm_F) : Prop :=
  f.2.2.2.2.2.1 ≤ b1 ∧ f.2.2.2.2.2.2 ≤ b2 ∧ ∀ (l : Launch), l.stackTraces = false → ∀ (p : Program) (e : Env) (R : Room) (s : State) (mid : MethodId) (args : Array Value) (below : List Frame) (meth : Method) (c : Code) (G : pm_G) (A : Nat → Prop) (ad : Nat → Nat) (c0 s0 : Nat), pm_Cx m d p R s mid args meth c → pm_Wd G A s → f.2.1.length = pm_ml m → c0 ≤ f.2.2.2.2.2.1 → s0 ≤ f.2.2.2.2.2.2 → b1 - c0 ≤ R.cells → b2 - s0 ≤ R.slots → pm_at p l e R s mid args below meth c (F below args s G A ad f.2.2.2 c0 s0) G A c0 s0 ad f
def pm_FQ (r : Option Value ⊕ String) (hf : pm_H) : pm_Fam := fun below args s G A ad h c0 s0 => pm_Q below args s G A ad h hf r (hf.2.2.1 - c0) (hf.2.2.2 - s0)
/-- from the frame f the method m comes to its end: r, with the heap hf -/
def pm_Wg (m d : Nat) (r : Option Value ⊕ String) (hf : pm_H) (f : pm_F) : Prop := pm_mo f.2.2.2 hf ∧ pm_Wx m d (pm_FQ r hf) hf.2.2.1 hf.2.2.2 f
def pm_rm (d mc ms : Nat) : Room := { frames := d, cells := mc, slots := ms, locals := 40 * d }
def pm_Pc (G : pm_G) (ad : Nat → Nat) (ws : va_W) (sz : Nat) (as : List Value) : Array Value → State → Prop := va_Pc (as.map (pm_cv G ad)) (fun U => U.heap.size = sz ∧ va_P G.1 vwCl ws U.heap ∧ va_D (fun _ => True) ws ∧ pm_Wd G (va_A ws sz) U)
/-- the method m, given as and the heap h, ends with r and the heap h' -/
def pm_Mt (m d : Nat) (as : List Value) (h : pm_H) (r : Option Value ⊕ String) (h' : pm_H) : Prop :=
  pm_mo h h' ∧ ∀ (l : Launch), l.stackTraces = false → ∀ (G : pm_G) (ad : Nat → Nat) (ws : va_W) (sz : Nat), pm_hp G ad h ws → (∀ v ∈ as, pm_ok h v) →
    vx_Met l (pm_y m) (pm_codew m :: pm_ws) (pm_rm d (h'.2.2.1 - h.2.2.1) (h'.2.2.2 - h.2.2.2)) (pm_Pc G ad ws sz as) (pm_Qc G (va_A ws sz) ad h h' r) (pm_Xc G (va_A ws sz) ad h h' r) (h'.2.2.1 - h.2.2.1) (h'.2.2.2 - h.2.2.2) (va_A ws sz)
theorem pm_Q_mono {below : List Frame} {args : Array Value} {s : State} {G : pm_G} {A : Nat → Prop} {ad ad1 : Nat → Nat} {h h1 h' : pm_H} {r : Option Value ⊕ String} {mc ms : Nat} (hm : pm_mo h h1) (he : ∀ i c, pm_lk h i = some c → ad1 i = ad i) (t : State) (q : pm_Q below args s G A ad1 h1 h' r mc ms t) : pm_Q below args s G A ad h h' r mc ms t := by
  have key : ∀ st t ad' ws', pm_end G A ad1 h1 h' st t ad' ws' → pm_end G A ad h h' st t ad' ws' := fun st t ad' ws' q => ⟨fun i c hc => by
    obtain ⟨c', hc'⟩ := hm.2.2 i c hc
    rw [q.1 i c' hc', he i c hc], q.2⟩
  obtain ⟨o, b1, b2, b3⟩ := q
  refine ⟨o, b1, b2, ?_⟩
  rcases b3 with ⟨k1, k2⟩ | ⟨q0, k1, E, ce, L, k2, k3⟩
  · refine Or.inl ⟨?_, k2⟩
    cases r with
    | inl v =>
      obtain ⟨ad', ws', g1, g2, g3⟩ := k1
      exact ⟨ad', ws', g1, g2, key _ _ _ _ g3⟩
    | inr E => exact k1
  · refine Or.inr ⟨q0, k1, E, ce, L, ?_, k3⟩
    cases r with
    | inl v => exact k2
    | inr E0 =>
      obtain ⟨g1, ad', ws', g2⟩ := k2
      exact ⟨g1, ad', ws', key _ _ _ _ g2⟩
section PMS
variable {m d : Nat} {p : Program} {l : Launch} {e : Env} {R : Room} {s : State} {mid : MethodId} {args : Array Value} {below : List Frame} {meth : Method} {c : Code} {G : pm_G} {A : Nat → Prop} {c0 s0 : Nat} {ad : Nat → Nat} {r : Option Value ⊕ String} {hf : pm_H}
theorem pm_at.mono {Q Q' : State → Prop} {f : pm_F} (hq : ∀ t, Q t → Q' t) (k : pm_at p l e R s mid args below meth c Q G A c0 s0 ad f) : pm_at p l e R s mid args below meth c Q' G A c0 s0 ad f := by
  intro ls H locs ws hr T hT X
  obtain ⟨t, a1, b1⟩ := k ls H locs ws hr T hT X
  exact ⟨t, a1, hq t b1⟩
theorem pm_FQ_ok : pm_Fok (pm_FQ r hf) := fun _ _ _ _ _ _ _ _ _ _ _ t hm he q => pm_Q_mono hm he t q
/-- straight code -/
theorem pm_Wx.path {F : pm_Fam} {b1 b2 : Nat} {tb : List pm_I} {k : Nat} {ds : List Nat} {P : Prop} {f f' : pm_F} (hF : pm_Fok F) (htb : ∀ e ∈ tb, pm_ck m e = true) (hd1 : 1 ≤ d) (hg : pm_gp tb k ds True f = some (P, f')) (hP : P) (kk : pm_Wx m d F b1 b2 f') : pm_Wx m d F b1 b2 f := by
  obtain ⟨a1, a2, a3⟩ := pm_gp_mo _ _ _ _ _ _ hg
  have m1 := a3.1
  have m2 := a3.2.1
  have m3 := kk.1
  have m4 := kk.2.1
  refine ⟨by omega, by omega, fun l hl p e R s mid args below meth c G A ad c0 s0 C hW hlen hc0 hs0 hcr hsr => ?_⟩
  refine pm_path C hd1 hW htb k ds True P f f' ad hg hP hlen hc0 hs0 (by omega) (by omega) (fun ad' he => ?_)
  exact pm_at.mono (fun t q => hF _ _ _ _ _ _ _ _ _ _ _ t a3 he q) (kk.2.2 l hl p e R s mid args below meth c G A ad' c0 s0 C hW (a2.trans hlen) (by omega) (by omega) hcr hsr)
theorem pm_Wg.path {tb : List pm_I} {k : Nat} {ds : List Nat} {P : Prop} {f f' : pm_F} (htb : ∀ e ∈ tb, pm_ck m e = true) (hd1 : 1 ≤ d) (hg : pm_gp tb k ds True f = some (P, f')) (hP : P) (kk : pm_Wg m d r hf f') : pm_Wg m d r hf f := ⟨(pm_gp_mo _ _ _ _ _ _ hg).2.2.trans kk.1, pm_Wx.path pm_FQ_ok htb hd1 hg hP kk.2⟩
/-- a body's end -/
theorem pm_endF {h : pm_H} {ls : Array Slot} {L : List (Option Value)} {S : List Value} {H : Heap} {locs : List Loc} {ws : va_W} {t : State} (hr : pm_rel G ad A s L S h ls H locs ws) (ht : t.heap = H) : pm_end G A ad h h s t ad ws := ⟨fun _ _ _ => rfl, hr.2.2.2.1, by rw [ht]; exact hr.2.2.2.2.1, hr.2.2.2.2.2.1, hr.2.2.2.2.2.2.F ht⟩
theorem pm_Wg.iret {pc : Nat} {L : List (Option Value)} {h : pm_H} {v : Int32} {ty : FieldType} (hd : decode (pm_cd m) pc = .ok (.ireturn, 1)) (hrt : pm_rt m = some ty) (hn : narrow ty (.int v) = .int v) : pm_Wg m d (.inl (some (.int v))) h (pc, L, [.int v], h) := by
  refine ⟨pm_mo_rf, Nat.le_refl _, Nat.le_refl _, fun l hl p e R s mid args below meth c G A ad c0 s0 C hW hlen hc0 hs0 hcr hsr => ?_⟩
  intro ls H locs ws hr
  obtain ⟨hexec, hb, hml, hrt9, hlk0, -⟩ := C
  exact vx_ret (W.zret hexec hb (hrt9.trans hrt) hn (fun t ht hw => ⟨ad, ws, rfl, (fun w e => by cases e; exact pm_ok_int v), pm_endF hr ht⟩) hr.2.2.2.2.2.2.2.2 hd hlk0)
theorem pm_Wg.lret {pc : Nat} {L : List (Option Value)} {h : pm_H} {v : Int64} (hd : decode (pm_cd m) pc = .ok (.lreturn, 1)) (hrt : pm_rt m = some .long) : pm_Wg m d (.inl (some (.long v))) h (pc, L, [.long v], h) := by
  refine ⟨pm_mo_rf, Nat.le_refl _, Nat.le_refl _, fun l hl p e R s mid args below meth c G A ad c0 s0 C hW hlen hc0 hs0 hcr hsr => ?_⟩
  intro ls H locs ws hr
  obtain ⟨hexec, hb, hml, hrt9, hlk0, -⟩ := C
  exact vx_ret (W.lret hexec hb (hrt9.trans hrt) (fun t ht hw => ⟨ad, ws, rfl, (fun w e => by cases e; exact pm_ok_long v), pm_endF hr ht⟩) hr.2.2.2.2.2.2.2.2 hd hlk0)
theorem pm_Wg.vret {pc : Nat} {L : List (Option Value)} {h : pm_H} (hd : decode (pm_cd m) pc = .ok (.return_, 1)) (hrt : pm_rt m = none) : pm_Wg m d (.inl none) h (pc, L, [], h) := by
  refine ⟨pm_mo_rf, Nat.le_refl _, Nat.le_refl _, fun l hl p e R s mid args below meth c G A ad c0 s0 C hW hlen hc0 hs0 hcr hsr => ?_⟩
  intro ls H locs ws hr
  obtain ⟨hexec, hb, hml, hrt9, hlk0, -⟩ := C
  exact vx_ret (W.vret hexec hb (hrt9.trans hrt) (fun t ht hw => ⟨ad, ws, rfl, (fun w e => by cases e), pm_endF hr ht⟩) hr.2.2.2.2.2.2.2.2 hd hlk0)
end PMS
/-- the locals at a method's entry -/
def pm_ent : List Value → List (Option Value)
  | [] => []
  | v :: t => match v with
    | .long x => some (.long x) :: none :: pm_ent t
    | w => some w :: pm_ent t
def pm_L0 (n : Nat) (as : List Value) : List (Option Value) := pm_ent as ++ List.replicate (n - (pm_ent as).length) none
def pm_L0len (n : Nat) (as : List Value) : Bool := Nat.ble (pm_ent as).length n
theorem pm_ent_at {f : Value → Value} (hcat : ∀ w, (f w).category = 2 ↔ ∃ x, w = .long x) : ∀ (as : List Value) (o : Nat), (lg_sl (as.map f)).length = (pm_ent as).length ∧ ∀ (i : Nat) (v : Value), (pm_ent as)[i]? = some (some v) → (o + i, f v) ∈ lv_args o (as.map f) := by
  intro as
  induction as with
  | nil =>
    intro o
    exact ⟨rfl, fun i v h => by cases h⟩
  | cons w t ih =>
    intro o
    by_cases hw : ∃ x, w = .long x
    · obtain ⟨x, rfl⟩ := hw
      have hc : (f (.long x)).category = 2 := (hcat _).mpr ⟨x, rfl⟩
      obtain ⟨i1, i2⟩ := ih (o + 2)
      refine ⟨?_, fun i v h => ?_⟩
      · show (lg_sl (f (.long x) :: t.map f)).length = (pm_ent t).length + 1 + 1
        unfold lg_sl at i1 ⊢
        rw [List.flatMap_cons, if_pos hc, List.length_append, i1]
        simp; omega
      · show (o + i, f v) ∈ (o, f (.long x)) :: lv_args (if (f (.long x)).category = 2 then o + 2 else o + 1) (t.map f)
        rw [if_pos hc]
        have h : (some (Value.long x) :: none :: pm_ent t)[i]? = some (some v) := h
        match i, h with
        | 0, h => cases h; exact List.mem_cons_self
        | 1, h => cases h
        | i + 2, h =>
          have := i2 i v h
          rw [show o + (i + 2) = o + 2 + i by omega]
          exact List.mem_cons_of_mem _ this
    · have hc : ¬ (f w).category = 2 := fun q => hw ((hcat w).mp q)
      have he : pm_ent (w :: t) = some w :: pm_ent t := by
        cases w with
        | long x => exact absurd ⟨x, rfl⟩ hw
        | _ => rfl
      obtain ⟨i1, i2⟩ := ih (o + 1)
      rw [he]
      refine ⟨?_, fun i v h => ?_⟩
      · show (lg_sl (f w :: t.map f)).length = (pm_ent t).length + 1
        unfold lg_sl at i1 ⊢
        rw [List.flatMap_cons, if_neg hc, List.length_append, i1]
        simp; omega
      · show (o + i, f v) ∈ (o, f w) :: lv_args (if (f w).category = 2 then o + 2 else o + 1) (t.map f)
        rw [if_neg hc]
        match i, h with
        | 0, h => cases h; exact List.mem_cons_self
        | i + 1, h =>
          have := i2 i v h
          rw [show o + (i + 1) = o + 1 + i by omega]
          exact List.mem_cons_of_mem _ this
theorem pm_cat2 {G : pm_G} {ad : Nat → Nat} (hj : ∀ w, G.2.2.2.2.1 w = .null ∨ ∃ a, G.2.2.2.2.1 w = .ref a) : ∀ w, (pm_cv G ad w).category = 2 ↔ ∃ x, w = .long x := fun w => ⟨pm_cat hj w, fun ⟨x, q⟩ => by rw [q]; rfl⟩
/-- a body's entry -/
theorem pm_Wg.entry {m d : Nat} {r : Option Value ⊕ String} {h h' : pm_H} {as : List Value} (hL : pm_L0len (pm_ml m) as = true) (kk : pm_Wg m d r h' (0, pm_L0 (pm_ml m) as, [], h)) {l : Launch} (hl : l.stackTraces = false) {p : Program} {e : Env} {s : State} {mid : MethodId} {below : List Frame} {meth : Method} {c : Code} {G : pm_G} {ad : Nat → Nat} {ws : va_W}
    (C : pm_Cx m d p (pm_rm d (h'.2.2.1 - h.2.2.1) (h'.2.2.2 - h.2.2.2)) s mid (as.map (pm_cv G ad)).toArray meth c) (hp : pm_hp G ad h ws) (has : ∀ v ∈ as, pm_ok h v) (hP : va_P G.1 vwCl ws s.heap) (hD : va_D (fun _ => True) ws) (hW : pm_Wd G (va_A ws s.heap.size) s) :
    W p l e (pm_rm d (h'.2.2.1 - h.2.2.1) (h'.2.2.2 - h.2.2.2)) s mid (as.map (pm_cv G ad)).toArray below meth c s.heap [] 0 0 (pm_Q below (as.map (pm_cv G ad)).toArray s G (va_A ws s.heap.size) ad h h' r (h'.2.2.1 - h.2.2.1) (h'.2.2.2 - h.2.2.2)) (entryFrame mid (as.map (pm_cv G ad)).toArray (pm_ml m)) := by
  have hle : (pm_ent as).length ≤ pm_ml m := Nat.le_of_ble_eq_true hL
  obtain ⟨e1, e2⟩ := pm_ent_at (pm_cat2 (ad := ad) hW.2.2.2.2.1) as 0
  have hv := lv_entry (as.map (pm_cv G ad)) (n := pm_ml m) (by rw [e1]; exact hle)
  rw [lg_entry_eq]
  have hlen : (pm_L0 (pm_ml m) as).length = pm_ml m := by
    unfold pm_L0
    rw [List.length_append, List.length_replicate]
    omega
  have hloc : ∀ (i : Nat) (v : Value), (pm_L0 (pm_ml m) as)[i]? = some (some v) → (pm_ent as)[i]? = some (some v) := fun i v hi => by
    unfold pm_L0 at hi
    rcases Nat.lt_or_ge i (pm_ent as).length with q | q
    · rw [List.getElem?_append_left q] at hi
      exact hi
    · rw [List.getElem?_append_right q, List.getElem?_replicate] at hi
      split at hi <;> cases hi
  have hok : ∀ (i : Nat) (v : Value), (pm_ent as)[i]? = some (some v) → pm_ok h v := by
    have gen : ∀ (as : List Value), (∀ v ∈ as, pm_ok h v) → ∀ (i : Nat) (v : Value), (pm_ent as)[i]? = some (some v) → pm_ok h v := by
      intro as
      induction as with
      | nil => intro _ i v hi; cases hi
      | cons w t ih =>
        intro ha i v hi
        have hmem : some v ∈ pm_ent (w :: t) := List.mem_of_getElem? hi
        have key : some v = some w ∨ some v ∈ pm_ent t := by
          cases w with
          | long x =>
            rcases List.mem_cons.mp hmem with q | q
            · exact Or.inl q
            · rcases List.mem_cons.mp q with q | q
              · cases q
              · exact Or.inr q
          | _ =>
            rcases List.mem_cons.mp hmem with q | q
            · exact Or.inl q
            · exact Or.inr q
        rcases key with q | q
        · rw [Option.some.inj q]
          exact ha w List.mem_cons_self
        · obtain ⟨j, hj⟩ := List.getElem?_of_mem q
          exact ih (fun v hv => ha v (List.mem_cons_of_mem _ hv)) j v hj
    exact gen as has
  have key := kk.2.2.2 l hl p e _ s mid _ below meth c G (va_A ws s.heap.size) ad h.2.2.1 h.2.2.2 C hW hlen (Nat.le_refl _) (Nat.le_refl _) (Nat.le_refl _) (Nat.le_refl _)
  have key2 := key _ s.heap [] ws ⟨⟨by rw [hv.1, hlen], hv.2.1, fun i v hi => hv.2.2 (i, pm_cv G ad v) (by have := e2 i v (hloc i v hi); rwa [Nat.zero_add] at this)⟩, fun i v hi => hok i v (hloc i v hi), (fun v hv => by cases hv), hp, hP, hD.self, va_S.rf⟩
  dsimp only at key2
  rw [Nat.sub_self, Nat.sub_self] at key2
  exact key2
