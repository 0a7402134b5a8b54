/-! The law's own rules: a call of a helper that has a table, cells with new numbers at the loop's head, the end. -/
section PMS
variable {m d : Nat} {F : pm_Fam} {b1 b2 : Nat}
theorem pm_Wx.callSW {m' ix rr pl pc : Nat} {x : Nat × Nat × Nat × Nat} {xs : List (Nat × Nat × Nat × Nat)} {L : List (Option Value)} {As S st : List Value} {h h1 : pm_H} {v : Option Value} (hF : pm_Fok F) (hm' : m' < pm_nM) (hh : pm_hh m' = x :: xs) (hd : decode (pm_cd m) pc = .ok (.invokestatic ix, 3)) (hML : pm_ML[rr]? = some (pm_oc m, ix, m', 0, pl)) (hstt : pm_stt m' = true) (hlen : As.length = pm_na m') (h8 : pm_sum S ≤ 8) (hst : st = As.reverse ++ S) (hM : pm_Mt m' d As h (.inl v) h1) (kk : pm_Wx m (d + 1) F b1 b2 (pc + 3, L, v.toList ++ S, h1)) : pm_Wx m (d + 1) F b1 b2 (pc, L, st, h) := by
  subst hst
  have m1 := hM.1.1
  have m2 := hM.1.2.1
  have m3 := kk.1
  have m4 := kk.2.1
  dsimp only at m1 m2 m3 m4
  refine ⟨by dsimp only; omega, by dsimp only; omega, fun l hl p e R s mid args below meth c G A ad c0 s0 C hW hlen9 hc0 hs0 hcr hsr => ?_⟩
  have C9 := C
  obtain ⟨hexec, hb, hml, hrt, hlk0, hown, hts, htab, hin, hfr, hlo⟩ := C
  intro ls H locs ws hr
  have has : ∀ v ∈ As, pm_ok h v := fun v hv => hr.2.2.1 v (List.mem_append_left _ (List.mem_reverse.mpr hv))
  have hS : ∀ v ∈ S, pm_ok h v := fun v hv => hr.2.2.1 v (List.mem_append_right _ hv)
  have hA := pm_relA hW hr
  have h4 := pm_M4_at hm'
  have hcw : pm_codew m' = Cond.codeWith (pm_y m') (pm_cd m') (pm_ml m') (pm_rt m') (x :: xs) := by unfold pm_codew; rw [hh]
  dsimp only at hc0 hs0 hlen9
  have cw : vx_CSW R s args (pm_cn (pm_oc m)) ix (pm_y m') (pm_cd m') (pm_ml m') (pm_rt m') (x :: xs) (pm_codew m' :: pm_ws) (pm_rm d (h1.2.2.1 - h.2.2.1) (h1.2.2.2 - h.2.2.2)) (h1.2.2.1 - h.2.2.1) (h1.2.2.2 - h.2.2.2) (pm_na m') := by
    refine ⟨⟨rfl, rfl, hfr, by show 8 + (pm_ml m' + 11) + 40 * d ≤ R.locals; have := h4.2.2.2.2.2; omega, pay_in hts (pm_good (pm_goodc hm')), by rw [hcw]; exact List.mem_cons_self⟩, by rw [← hcw]; exact hts _ (pm_M1 m' hm'), hts _ (pm_ini_at hm'), ⟨h4.2.2.1, h4.2.2.2.1⟩, fun sig hsig => ?_, hts _ (pm_ML_at hML rfl).1, hts _ (pm_stat_at hm' hstt)⟩
    have h2 := h4.2.1
    rw [hsig] at h2
    exact (Option.some.inj h2).symm
  have run := vx_runSW (cells := h.2.2.1 - c0) (slots := h.2.2.2 - s0) (locs := locs) (e := e) (below := below) (meth := meth) (g := F0 mid pc ls ((As.reverse ++ S).map (pm_cv G ad))) (As := As.map (pm_cv G ad)) (rest := S.map (pm_cv G ad)) ⟨hexec, hb, hml, hown, hts⟩ (pm_met (hM.2 l hl G ad ws H.size hr.2.2.2.1 has) (fun _ _ _ z => z)) cw ⟨pm_Pc_blind, pm_Pc_at (as := As) hW hr hA⟩ rfl (by rw [List.length_map]; exact hlen) (hr.1.1.trans hlen9) (by show (As.reverse ++ S).map (pm_cv G ad) = _; rw [List.map_append, List.map_reverse]) (pm_sum8 hW h8) hd ⟨by omega, by omega⟩
  refine pm_run_ok hW hr hS hM.1 run (fun ad' H1 locs1 ws1 he hrel => ?_)
  have key := pm_at.mono (fun t z => hF _ _ _ _ _ _ _ _ _ _ _ t hM.1 he z) (kk.2.2 l hl p e R s mid args below meth c G A ad' c0 s0 C9 hW hlen9 (by dsimp only; omega) (by dsimp only; omega) hcr hsr) ls H1 locs1 ws1 hrel
  dsimp only at key ⊢
  rw [show h.2.2.1 - c0 + (h1.2.2.1 - h.2.2.1) = h1.2.2.1 - c0 by omega, show h.2.2.2 - s0 + (h1.2.2.2 - h.2.2.2) = h1.2.2.2 - s0 by omega]
  exact key
end PMS
theorem pm_Wx.weak {m d pc b1 b2 : Nat} {F : pm_Fam} {h : pm_H} {L L' : List (Option Value)} {S : List Value} (hlen : L.length = L'.length) (hle : pm_le L L') (kk : pm_Wx m d F b1 b2 (pc, L, S, h)) : pm_Wx m d F b1 b2 (pc, L', S, h) := by
  obtain ⟨k1, k2⟩ := pm_le_at L L' hle
  refine ⟨kk.1, kk.2.1, fun l hl p e R s mid args below meth c G A ad c0 s0 C hW hlen9 hc0 hs0 hcr hsr => ?_⟩
  intro ls H locs ws hr
  exact kk.2.2 l hl p e R s mid args below meth c G A ad c0 s0 C hW (k1.trans hlen9) hc0 hs0 hcr hsr ls H locs ws ⟨⟨hr.1.1.trans k1.symm, hr.1.2.1, fun i v hv => hr.1.2.2 i v (k2 i v hv)⟩, fun i v hv => hr.2.1 i v (k2 i v hv), hr.2.2⟩
/-! cells with new numbers: p takes a new number to the old one, J tells what a forgotten reference was -/
def rn_v (p : Nat → Nat) (J : UInt32 → Value) (v : Value) : Value := match v with
  | .ref j => .ref (p j)
  | .float w => J w
  | w => w
def rn_e (p : Nat → Nat) (J : UInt32 → Value) (c : pm_E) : pm_E := match c with
  | .inl x => .inl x
  | .inr (ci, fs) => .inr (ci, fs.map (rn_v p J))
def rn_G (G : pm_G) (f : UInt32 → Value) : pm_G := (G.1, G.2.1, G.2.2.1, G.2.2.2.1, f, G.2.2.2.2.2)
theorem rn_Wd {G : pm_G} {A : Nat → Prop} {s : State} {f : UInt32 → Value} (hW : pm_Wd G A s) (h0 : f 0 = G.2.2.2.2.1 0) (hf : ∀ w, f w = .null ∨ ∃ a, f w = .ref a) : pm_Wd (rn_G G f) A s := by
  obtain ⟨h1, h2, h3, h4, h5, h6, h7, h8, h9, h10, h11, h12, h13, h14⟩ := hW
  refine ⟨h1, h2, h3, h4, hf, h6, h7, h8, h9, h10, h11, h12, h13, ?_⟩
  show va_Z _ _ _ (f 0) A s s.heap
  rw [h0]
  exact h14
theorem rn_cv {G : pm_G} {ad : Nat → Nat} {p : Nat → Nat} {J : UInt32 → Value} (v : Value) : pm_cv (rn_G G (fun w => pm_cv G ad (J w))) (fun i => ad (p i)) v = pm_cv G ad (rn_v p J v) := by
  cases v <;> rfl
theorem rn_ce {G : pm_G} {ad : Nat → Nat} {p : Nat → Nat} {J : UInt32 → Value} (c : pm_E) : pm_ce (rn_G G (fun w => pm_cv G ad (J w))) (fun i => ad (p i)) c = pm_ce G ad (rn_e p J c) := by
  rcases c with x | ⟨ci, fs⟩
  · rfl
  · show (Sum.inr (ci, fs.map (pm_cv (rn_G G (fun w => pm_cv G ad (J w))) (fun i => ad (p i)))) : va_E) = Sum.inr (ci, (fs.map (rn_v p J)).map (pm_cv G ad))
    rw [List.map_map]
    congr 2
    exact List.map_congr_left (fun v _ => rn_cv v)
theorem rn_scr {p : Nat → Nat} {J : UInt32 → Value} {c : pm_E} (h : pm_scr (rn_e p J c)) : pm_scr c := by
  rcases c with x | ⟨ci, fs⟩
  · exact h
  · obtain ⟨x, hx⟩ := h
    cases hx
theorem rn_scr' {p : Nat → Nat} {J : UInt32 → Value} {c : pm_E} (h : pm_scr c) : rn_e p J c = c := by
  obtain ⟨x, hx⟩ := h
  rw [hx]
  rfl
def rn_R (p : Nat → Nat) (J : UInt32 → Value) (h h' : pm_H) : Prop := (∀ i c, pm_lk h' i = some c → pm_lk h (p i) = some (rn_e p J c)) ∧ (∀ i j c c', pm_lk h' i = some c → pm_lk h' j = some c' → p i = p j → i = j) ∧ ∀ i ci fs, pm_lk h' i = some (.inr (ci, fs)) → ∀ v ∈ fs, pm_ok h' v
theorem rn_hp {G : pm_G} {ad : Nat → Nat} {p : Nat → Nat} {J : UInt32 → Value} {h h' : pm_H} {ws : va_W} (hR : rn_R p J h h') (H : pm_hp G ad h ws) : pm_hp (rn_G G (fun w => pm_cv G ad (J w))) (fun i => ad (p i)) h' ws := by
  obtain ⟨H1, H2, H3, H4⟩ := H
  obtain ⟨R1, R2, R3⟩ := hR
  refine ⟨fun i c hc hn => ?_, fun i c hc hs => ?_, fun i j c c' hc hc' n n' e => ?_, R3⟩
  · obtain ⟨k, hk⟩ := H1 (p i) _ (R1 i c hc) (fun z => hn (rn_scr z))
    exact ⟨k, by rw [hk, rn_ce]⟩
  · have e1 := rn_scr' (p := p) (J := J) hs
    have hc9 := R1 i c hc
    rw [e1] at hc9
    exact H2 (p i) c hc9 hs
  · exact R2 i j c c' hc hc' (H3 (p i) (p j) _ _ (R1 i c hc) (R1 j c' hc') (fun z => n (rn_scr z)) (fun z => n' (rn_scr z)) e)
/-- a family that doesn't look at the cells' numbers -/
def pm_Fc (F : pm_Fam) : Prop := ∀ (below : List Frame) (args : Array Value) (s : State) (G G' : pm_G) (A : Nat → Prop) (ad ad' : Nat → Nat) (h h' : pm_H) (c0 s0 : Nat) (t : State), F below args s G' A ad' h' c0 s0 t → F below args s G A ad h c0 s0 t
theorem pm_Wx.ren {m d pc b1 b2 : Nat} {F : pm_Fam} {p : Nat → Nat} {J : UInt32 → Value} {L L' : List (Option Value)} {h : pm_H} {l' : List (List pm_E)} (hF : pm_Fc F) (hR : rn_R p J h (l', h.2)) (hJ0 : J 0 = .float 0) (hJ : ∀ w, J w = .float w ∨ ∃ j, J w = .ref j) (hlen : L'.length = L.length) (hL : ∀ (i : Nat) (v : Value), L'[i]? = some (some v) → L[i]? = some (some (rn_v p J v)) ∧ pm_ok (l', h.2) v) (kk : pm_Wx m d F b1 b2 (pc, L', [], (l', h.2))) : pm_Wx m d F b1 b2 (pc, L, [], h) := by
  refine ⟨kk.1, kk.2.1, fun l hl p9 e R s mid args below meth c G A ad c0 s0 C hW hlen9 hc0 hs0 hcr hsr => ?_⟩
  intro ls H locs ws hr
  have hW' : pm_Wd (rn_G G (fun w => pm_cv G ad (J w))) A s := rn_Wd hW (by rw [hJ0]; rfl) (fun w => by
    rcases hJ w with z | ⟨j, z⟩
    · rw [z]; exact hW.2.2.2.2.1 w
    · rw [z]; exact Or.inr ⟨_, rfl⟩)
  have k := kk.2.2 l hl p9 e R s mid args below meth c (rn_G G (fun w => pm_cv G ad (J w))) A (fun i => ad (p i)) c0 s0 C hW' (hlen.trans hlen9) hc0 hs0 hcr hsr
  have k2 := k ls H locs ws ⟨⟨hr.1.1.trans hlen.symm, hr.1.2.1, fun i v hv => by
      rw [rn_cv]
      exact hr.1.2.2 i _ (hL i v hv).1⟩, fun i v hv => (hL i v hv).2, (fun v hv => by cases hv), rn_hp hR hr.2.2.2.1, hr.2.2.2.2⟩
  intro T hT X
  obtain ⟨t, a1, b1⟩ := k2 T hT X
  exact ⟨t, a1, hF _ _ _ _ _ _ _ _ _ _ _ _ t b1⟩
def rn_okb (h : pm_H) (c : pm_E) : Bool := match c with
  | .inl _ => true
  | .inr (_, fs) => fs.all (fun v => match v with
    | .ref j => (pm_lk h j).isSome
    | _ => true)
/-- heaps by their groups: k g is the old number of the group g -/
theorem rn_cl {k : Nat → Nat} {J : UInt32 → Value} {a0 a1 a2 a3 a4 a5 a6 a7 a8 a9 : List pm_E} {q : Nat × Nat × Nat} {h' : pm_H} {as : Nat → List pm_E} (has : ∀ g, [a0, a1, a2, a3, a4, a5, a6, a7, a8, a9].getD g [] = as g) (hm : ∀ g, h'.1.getD g [] = [] ∨ as (k g) = (h'.1.getD g []).map (rn_e (fun i => k (i / 64) * 64 + i % 64) J)) (hk : ∀ g g', h'.1.getD g [] ≠ [] → h'.1.getD g' [] ≠ [] → k g = k g' → g = g') (hok : ∀ g, (h'.1.getD g []).all (rn_okb h') = true) : rn_R (fun i => k (i / 64) * 64 + i % 64) J (cl_h a0 a1 a2 a3 a4 a5 a6 a7 a8 a9 q) h' := by
  have ne : ∀ i c, pm_lk h' i = some c → h'.1.getD (i / 64) [] ≠ [] := fun i c hc z => by
    unfold pm_lk at hc
    rw [z] at hc
    cases hc
  refine ⟨fun i c hc => ?_, fun i j c c' hc hc' e => ?_, fun i ci fs hc v hv => ?_⟩
  · have hn := ne i c hc
    unfold pm_lk at hc ⊢
    unfold cl_h
    dsimp only
    rw [show (k (i / 64) * 64 + i % 64) / 64 = k (i / 64) by omega, show (k (i / 64) * 64 + i % 64) % 64 = i % 64 by omega, has]
    rcases hm (i / 64) with z | z
    · exact absurd z hn
    · rw [z, List.getElem?_map, hc]
      rfl
  · dsimp only at e
    have e1 := hk (i / 64) (j / 64) (ne i c hc) (ne j c' hc') (by omega)
    omega
  · have hmem : (Sum.inr (ci, fs) : pm_E) ∈ h'.1.getD (i / 64) [] := List.mem_of_getElem? hc
    have h1 := List.all_eq_true.mp (hok (i / 64)) _ hmem
    have h2 := List.all_eq_true.mp (show fs.all (fun v => match v with
      | .ref j => (pm_lk h' j).isSome
      | _ => true) = true from h1) v hv
    intro j ej
    subst ej
    exact Option.isSome_iff_exists.mp h2
theorem rn_loc {k : Nat → Nat} {J : UInt32 → Value} {h : pm_H} {x : Int32} (k9 : k 9 = 9) (k0 : k 0 = 0) (k1 : k 1 = 1) (k2 : k 2 = 2) (h9 : (pm_lk h 576).isSome = true) (h0 : (pm_lk h 0).isSome = true) (h1 : (pm_lk h 64).isSome = true) (h2 : (pm_lk h 128).isSome = true) : ∀ (i : Nat) (v : Value), ([some (.ref 576), some (.ref 0), some (.ref 64), some (.ref 128), some (.int x), none, none, none] : List (Option Value))[i]? = some (some v) → ([some (.ref 576), some (.ref 0), some (.ref 64), some (.ref 128), some (.int x), none, none, none] : List (Option Value))[i]? = some (some (rn_v (fun i => k (i / 64) * 64 + i % 64) J v)) ∧ pm_ok h v := by
  have okr : ∀ a, (pm_lk h a).isSome = true → pm_ok h (.ref a) := fun a ha i e => by
    cases e
    exact Option.isSome_iff_exists.mp ha
  intro i v hv
  match i, hv with
  | 0, hv => cases hv; exact ⟨by show some (some (Value.ref 576)) = some (some (Value.ref (k 9 * 64 + 0))); rw [k9], okr _ h9⟩
  | 1, hv => cases hv; exact ⟨by show some (some (Value.ref 0)) = some (some (Value.ref (k 0 * 64 + 0))); rw [k0], okr _ h0⟩
  | 2, hv => cases hv; exact ⟨by show some (some (Value.ref 64)) = some (some (Value.ref (k 1 * 64 + 0))); rw [k1], okr _ h1⟩
  | 3, hv => cases hv; exact ⟨by show some (some (Value.ref 128)) = some (some (Value.ref (k 2 * 64 + 0))); rw [k2], okr _ h2⟩
  | 4, hv => cases hv; exact ⟨rfl, pm_ok_int _⟩
  | 5, hv => cases hv
  | 6, hv => cases hv
  | 7, hv => cases hv
  | j + 8, hv => cases hv
/-- what the law comes to -/
def lw_F : pm_Fam := fun below args s _ A _ _ c0 s0 t => (∀ q, A q → s.heap.size ≤ q) → c0 = 0 → s0 = 0 → lw_Z below args s t
theorem lw_F_ok : pm_Fok lw_F := fun _ _ _ _ _ _ _ _ _ _ _ _ _ _ z => z
theorem lw_F_c : pm_Fc lw_F := fun _ _ _ _ _ _ _ _ _ _ _ _ _ z => z
theorem lw_retR {p : Program} {l : Launch} {e : Env} {R : Room} {s : State} {m : MethodId} {args : Array Value} {below : List Frame} {meth : Method} {c : Code} (hx : p.tables.exec = Jvm.exec) (hb : c.code = code) (hr : meth.sig.returnType = ret) (hlocks : meth.locks = false) {pc : Nat} {H : Heap} {ls : Array Slot} (hdg : decode code pc = .ok (.ireturn, 1)) : W p l e R s m args below meth c H [] 601024 7293034 (lw_Z below args s) (F0 m pc ls [.int 1]) := by
  intro T hT X
  obtain ⟨fs, hret, hrun, hended, hW, hframe⟩ := X.leave (v := some (.int 1)) (hlocks := hlocks) (fun h => by rw [hr] at h; cases h)
  have hmeth' : T.vm.method? m = some meth := X.method'
  refine ⟨T.setFrames fs, ?_, .returned (some (.int 1)), hrun, hended, rfl, ⟨_, rfl⟩, hW, hframe⟩
  jvm_step X.here [X.here.top, hx, hb, hdg, hmeth', hr, ret, narrow_b1]
  (try refine ⟨rfl, ?_⟩); (try refine ⟨rfl, ?_⟩)
  first | (intro acts; rw [hret _ acts rfl rfl rfl]) | rw [hret _ _ rfl rfl rfl]
  exact Steps.refl _
theorem pm_Wx.lawret {d pc : Nat} {L : List (Option Value)} {h : pm_H} (hd : decode (pm_cd 338) pc = .ok (.ireturn, 1)) (h1 : h.2.2.1 ≤ 601024) (h2 : h.2.2.2 ≤ 7293034) : pm_Wx 338 d lw_F 601024 7293034 (pc, L, [.int 1], h) := by
  refine ⟨h1, h2, fun l hl p e R s mid args below meth c G A ad c0 s0 C hW hlen hc0 hs0 hcr hsr => ?_⟩
  obtain ⟨hexec, hb, hml, hrt, hlk0, hown, hts, -⟩ := C
  intro ls H locs ws hr
  by_cases hA : (∀ q, A q → s.heap.size ≤ q) ∧ c0 = 0 ∧ s0 = 0
  · obtain ⟨hA, rfl, rfl⟩ := hA
    refine va_forget (fun z hz => hA _ (hr.2.2.2.2.2.2.2.2 z hz)) (W.widen (k := 601024) (n := 7293034) (by dsimp only; omega) (by dsimp only; omega) ?_)
    intro T hT X
    obtain ⟨t, a1, g1⟩ := lw_retR (args := args) (ls := ls) (H := H) hexec hb hrt hlk0 hd T hT X
    exact ⟨t, a1, fun _ _ _ => g1⟩
  · intro T hT X
    exact ⟨_, Steps.refl _, fun q1 q2 q3 => absurd ⟨q1, q2, q3⟩ hA⟩
