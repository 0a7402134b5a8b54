/-! The claim, over what the pure part gives: from 'lw_walk' on the skeleton's text. -/
theorem ls_lk {n : Nat} {xs : Nat → Int32} {i : Nat} {c : pm_E} (h : pm_lk (cl_h [] [] [] [] [] [] [] [] [] [.inl (9, n, .inl xs)] (0, 0, 0)) i = some c) : i = 576 ∧ c = .inl (9, n, .inl xs) := by
  unfold pm_lk cl_h at h
  dsimp only at h
  rcases (show i / 64 = 0 ∨ i / 64 = 1 ∨ i / 64 = 2 ∨ i / 64 = 3 ∨ i / 64 = 4 ∨ i / 64 = 5 ∨ i / 64 = 6 ∨ i / 64 = 7 ∨ i / 64 = 8 ∨ i / 64 = 9 ∨ 10 ≤ i / 64 by omega) with z | z | z | z | z | z | z | z | z | z | z
  case inr.inr.inr.inr.inr.inr.inr.inr.inr.inl =>
    rw [z] at h
    have h9 : ([Sum.inl (9, n, Sum.inl xs)] : List pm_E)[i % 64]? = some c := h
    by_cases hm : i % 64 = 0
    · rw [hm] at h9
      exact ⟨by omega, (Option.some.inj h9).symm⟩
    · rw [List.getElem?_eq_none (by simp only [List.length_singleton]; omega)] at h9
      cases h9
  case inr.inr.inr.inr.inr.inr.inr.inr.inr.inr =>
    rw [rn_far z] at h
    cases h
  all_goals
    rw [z] at h
    cases h
theorem whole_start {IN : t_IN} {IE : t_IE} (PA : ps_all IN IE) {s1 : mo_S} (HB : f_X9_begin mo_0 = some s1) (I0 : IN 0 cs_x0 s1) {p : Program} {e : Env} {s : State} {m : MethodId} {below : List Frame} {meth : Method} {c : Code} (l : Launch) (hflags : l.flags = flags0) {b L : Nat} {xs : Nat → Int32} (hL : L ≤ 3072) (C0 : lw_At p s m meth c b L xs) (htab : c.exceptionTable.toList = []) : W p l e room_1 s m #[Value.ref b] below meth c s.heap [] 0 0 (lw_Z below #[Value.ref b] s) (entryFrame m ([Value.ref b] : List Value).toArray 8) := by
  obtain ⟨hx, hb, hr, hml, hown, hts, hX, hbl, hlocks, hgv⟩ := C0
  have hl : l.stackTraces = false := by
    unfold Launch.stackTraces
    rw [hflags]
    decide +kernel
  obtain ⟨G, hW, hG⟩ := ls_G hts hX hbl hgv
  have C : pm_Cx 338 13 p room_1 s m #[Value.ref b] meth c := ⟨hx, hb, hml, hr, hlocks, hown, fun w h => hts w (List.mem_filter.mp h).1, htab, fun z => absurd z (by decide +kernel), by decide, by decide⟩
  have k := (lw_enter PA (xs := xs) hL HB I0).2.2 l hl p e room_1 s m #[Value.ref b] below meth c G (fun q => s.heap.size ≤ q) (fun _ => b) 0 0 C hW rfl (Nat.le_refl _) (Nat.le_refl _) (by decide) (by decide)
  have hv := lv_entry ([.ref b] : List Value) (n := 8) (Nat.le_of_ble_eq_true rfl)
  rw [lg_entry_eq]
  have hloc : ∀ (ls : Array Slot), ls[0]? = some (.val (.ref b)) → ∀ (i : Nat) (v : Value), ([some (.ref 576), none, none, none, none, none, none, none] : List (Option Value))[i]? = some (some v) → ls[i]? = some (.val (pm_cv G (fun _ => b) v)) := fun ls h0 i v hi => by
    match i, hi with
    | 0, hi => cases hi; exact h0
    | 1, hi => cases hi
    | 2, hi => cases hi
    | 3, hi => cases hi
    | 4, hi => cases hi
    | 5, hi => cases hi
    | 6, hi => cases hi
    | 7, hi => cases hi
    | j + 8, hi => cases hi
  have hok : ∀ (i : Nat) (v : Value), ([some (.ref 576), none, none, none, none, none, none, none] : List (Option Value))[i]? = some (some v) → pm_ok (cl_h [] [] [] [] [] [] [] [] [] [.inl (9, L, .inl xs)] (0, 0, 0)) v := fun i v hi => by
    match i, hi with
    | 0, hi => cases hi; exact fun i e => by cases e; exact ⟨_, rfl⟩
    | 1, hi => cases hi
    | 2, hi => cases hi
    | 3, hi => cases hi
    | 4, hi => cases hi
    | 5, hi => cases hi
    | 6, hi => cases hi
    | 7, hi => cases hi
    | j + 8, hi => cases hi
  have hhp : pm_hp G (fun _ => b) (cl_h [] [] [] [] [] [] [] [] [] [.inl (9, L, .inl xs)] (0, 0, 0)) [] := by
    refine ⟨fun i c9 hc hn => absurd ⟨_, (ls_lk hc).2⟩ hn, fun i c9 hc hs => ?_, fun i j c9 c8 hc _ hn _ _ => absurd ⟨_, (ls_lk hc).2⟩ hn, fun i ci fs hc => ?_⟩
    · obtain ⟨e1, e2⟩ := ls_lk hc
      rw [e2, hG]
      exact ⟨rfl, rfl⟩
    · have e2 := (ls_lk hc).2
      cases e2
  have k2 := k _ s.heap [] [] ⟨⟨by rw [hv.1]; rfl, hv.2.1, hloc _ (hv.2.2 (0, .ref b) List.mem_cons_self)⟩, hok, (fun v hv => by cases hv), hhp, (fun k q h => by cases h), ⟨(fun i j p q h => by cases h), (fun k q h => by cases h)⟩, va_S.rf⟩
  intro T hT X
  obtain ⟨t, a1, g1⟩ := k2 T hT X
  exact ⟨t, a1, g1 (fun q hq => hq) rfl rfl⟩
set_option maxHeartbeats 4000000 in
theorem lw_walk {IN : t_IN} {IE : t_IE} (PA : ps_all IN IE) {s1 : mo_S} (HB : f_X9_begin mo_0 = some s1) (I0 : IN 0 cs_x0 s1) (l : Launch) (hflags : l.flags = flags0) (b : Addr) (xs : List Int32) : MetFree l x (headSpec (Jvm.Cond.code x code maxLocals ret :: tables_1) room_1) (lw_P b xs) (fun _ _ _ _ _ => True) lw_Q := by
  refine MetFree.of_bodyS (code := code) (maxLocals := maxLocals) (ret := ret) (by decide) ?_ ?_
  · intro args s m h hn
    obtain ⟨meth, c, h1, h2, h3, h4, h5, h6, -, -⟩ := Cond.code_spec hn (atoms_spec (ws := Jvm.Cond.code x code maxLocals ret :: tables_1) h _ List.mem_cons_self)
    exact ⟨meth, c, h1, h2, h3, h4, h5, h6⟩
  · intro p e s m args below meth c s₁ B hml0 hP _
    obtain ⟨rfl, hx, hbd, hgv⟩ := hP
    obtain ⟨scr, harrAt, hlist, hof, hsmall⟩ := hx
    obtain ⟨hcb, hkn, -, -⟩ := State.arrayAt?_spec harrAt
    have hown : s.vm.findClass R_law = some m.cls := findClass_of_methodNamed B.named
    have hts0 : ∀ c ∈ (Jvm.Cond.code x code maxLocals ret :: tables_1), c.before #[Value.ref b] s = true := atoms_spec (ws := Jvm.Cond.code x code maxLocals ret :: tables_1) B.pre
    have hts : ∀ w ∈ lw_tbl, w.before #[Value.ref b] s = true := k2_hts_sels lw_privs (fun w hw => hts0 w (List.mem_cons_of_mem _ hw)) lw_privs_ok
    have hml : c.maxLocals = 8 := B.maxLocals_eq (hts0 _ List.mem_cons_self)
    have htab : c.exceptionTable.toList = [] := by
      obtain ⟨meth9, c9, h1, h2, -, -, -, -, h7, -⟩ := Cond.code_spec B.named (hts0 _ List.mem_cons_self)
      cases Option.some.inj (h1.symm.trans B.method)
      cases Option.some.inj (h2.symm.trans (Stand.of_body B).code)
      rw [Array.isEmpty_iff.mp h7]
    have X₀ : Stand p l e room_1 s m #[Value.ref b] below meth c s₁ [] 0 0 := Stand.of_body B
    have hh0 : s₁.heap = s.heap := by rw [B.state]; rfl
    have hsz : scr.slots.size = xs.length := by rw [← Array.length_toList, hlist, List.length_map]
    have hval : ∀ j : Nat, j < xs.length → scr.slots[j]? = some (.int (xs.getD j 0)) := fun j hj => by
      rw [← Array.getElem?_toList, hlist]
      simp [hj]
    have hbl : b < s.heap.size := (Array.getElem?_eq_some_iff.mp hcb).1
    have hX : va_X b xs.length (fun j => xs.getD j 0) s s.heap := ⟨scr, hcb, hof, hkn, hsz, hval⟩
    have K : W p l e room_1 s m #[Value.ref b] below meth c s₁.heap [] 0 0 (lw_Z below #[Value.ref b] s) (entryFrame m ([Value.ref b] : List Value).toArray 8) := by
      rw [hh0]
      exact whole_start PA HB I0 l hflags hbd ⟨B.exec, B.bytes, B.returns, hml, hown, hts, hX, hbl, B.notSynchronized, hgv⟩ htab
    obtain ⟨t, a1, o, b1, b2, b3⟩ := K s₁ rfl X₀
    exact ⟨t, o, a1, b1, b2, b3⟩
theorem lw_pre_spec {args : Array Value} {s : State} (h : (Jvm.Cond.and given_1 narrow_1).before args s = true) (hr : rest_1_c.before args s = true) : ∃ (b : Addr) (xs : List Int32), lw_P b xs args s := by
  have hs := flat_of_before _ h
  have hq := flat_of_before _ hr
  have hc : (Cond.count 1).before args s = true := hs _ (by decide +kernel)
  have harr : (Cond.arrayOf (.arg 0) .int).before args s = true := hs _ (by decide +kernel)
  have hle : (Cond.le (.length (.arg 0)) (.int 3072)).before args s = true := hs _ (by decide +kernel)
  have hlen : (Cond.isInt (.length (.arg 0))).before args s = true := hq _ (by decide +kernel)
  have hall : (Cond.all (.arg 0) (.isInt (.elem (.arg 0) (.index 0)))).before args s = true := hq _ (by decide +kernel)
  obtain ⟨b, xs, hb, hx⟩ := State.ints_of_pre rfl harr hlen hall
  have hsm : xs.length < 2 ^ 31 := hx.choose_spec.2.2.2
  have hev : (Term.length (.arg 0)).eval args s none [] s = some (.int xs.length.toInt32) := hx.length_eval hb
  have hv := Cond.le_ints hev (show (Term.int 3072).eval args s none [] s = some (.int 3072) from rfl)
  have hd : xs.length.toInt32 ≤ 3072 := by
    simpa [Cond.before, Cond.holds, hv] using hle
  have hN : xs.length ≤ 3072 := (Int32.ofNat_le_ofNat hsm (by decide)).mp (show Int32.ofNat xs.length ≤ Int32.ofNat 3072 from hd)
  exact ⟨b, xs, Cond.one_arg hc (show args[0]? = some (.ref b) from hb), hx, hN, h⟩
theorem lw_comes {IN : t_IN} {IE : t_IE} (PA : ps_all IN IE) {s1 : mo_S} (HB : f_X9_begin mo_0 = some s1) (I0 : IN 0 cs_x0 s1) (l : Launch) (hflags : l.flags = flags0) : Comes l x (Jvm.Cond.code x code maxLocals ret :: tables_1) room_1 (fun tb e args s => Calls_1 tb e args s ∧ rest_1 tb e args s ∧ Pre_1 tb e args s)
    (fun _ _ args s o t => lw_Q args s o t) := by
  intro p e ha hc hk s m args below hf hfit hheap happ hpre
  obtain ⟨b, xs, hP⟩ := lw_pre_spec hpre.2.2 hpre.2.1
  obtain ⟨k, o, h1, h2, h3, hQ⟩ := lw_walk PA HB I0 l hflags b xs p e ha hc hk s m args below hf ((Spec.applies_iff_loose hf).mp happ).1 hP trivial
  exact ⟨k, o, h1, h2, h3, hQ⟩
theorem lw_frame {s t : State} {o : Outcome} {args : Array Value} (h : Framed s o t [] 601024 7293034) :
    Framed s o t (fieldLocs frame_1_writes args s ++ arrayLocs frame_1_arrays args s ++ staticLocs frame_1_statics s) 601024 7293034 := h
theorem lw_limb {IN : t_IN} {IE : t_IE} (PA : ps_all IN IE) {s1 : mo_S} (HB : f_X9_begin mo_0 = some s1) (I0 : IN 0 cs_x0 s1) (L : Cond) (hL : ∀ (args : Array Value) (s t : State), L.after args s (.returned (some (.int 1))) t = true) :
    ArmFor flags0 classFile x code maxLocals ret World_1 tables_1 room_1 Calls_1 rest_1 Pre_1
      (fun tb e a s o t => postC L tb e a s o t ∧ Framed s o t (fieldLocs frame_1_writes a s ++ arrayLocs frame_1_arrays a s ++ staticLocs frame_1_statics s) 601024 7293034) := by
  intro l hflags _ _ p e ha hc hk s m args below hf hfit hheap happ hpre
  obtain ⟨k, o, h1, h2, h3, rfl, hF⟩ := lw_comes PA HB I0 l hflags p e ha hc hk s m args below hf hfit hheap happ hpre
  exact ⟨k, _, h1, h2, h3, hL args s _, lw_frame hF⟩
theorem lw_claim {IN : t_IN} {IE : t_IE} (PA : ps_all IN IE) {s1 : mo_S} (HB : f_X9_begin mo_0 = some s1) (I0 : IN 0 cs_x0 s1) : Claimed_1_1 ∧ Claimed_1_2 := ⟨lw_limb PA HB I0 limb_1_1 (fun args s t => by simp [limb_1_1, Cond.after, Cond.holds, Cond.value]), lw_limb PA HB I0 limb_1_2 (fun args s t => Cond.after_iff.mpr (by
  first | (rw [show limb_1_2 = Cond.eq .result (.int 1) from rfl, Cond.eq_ints (x := 1) (y := 1) rfl rfl]; simp; done) | (simp [limb_1_2, Cond.value, Term.eval]; done)))⟩
