/-! Two groups of cells change their numbers: the thought's engine (7) for the engine (5). -/
def sw_n (i : Nat) : Nat := if i / 64 = 5 then i + 128 else if i / 64 = 7 then i - 128 else i
theorem sw_nn (i : Nat) : sw_n (sw_n i) = i := by
  unfold sw_n
  by_cases h5 : i / 64 = 5
  · rw [if_pos h5, if_neg (by omega), if_pos (by omega)]
    omega
  · rw [if_neg h5]
    by_cases h7 : i / 64 = 7
    · rw [if_pos h7, if_pos (by omega)]
      omega
    · rw [if_neg h7, if_neg h5, if_neg h7]
theorem sw_nm (i : Nat) : sw_n i % 64 = i % 64 := by
  unfold sw_n
  by_cases h5 : i / 64 = 5
  · rw [if_pos h5]; omega
  · rw [if_neg h5]
    by_cases h7 : i / 64 = 7
    · rw [if_pos h7]; omega
    · rw [if_neg h7]
theorem sw_n5 {i : Nat} (h : i / 64 = 5) : sw_n i / 64 = 7 := by unfold sw_n; rw [if_pos h]; omega
theorem sw_n7 {i : Nat} (h : i / 64 = 7) : sw_n i / 64 = 5 := by unfold sw_n; rw [if_neg (by omega), if_pos h]; omega
theorem sw_no {i : Nat} (h5 : i / 64 ≠ 5) (h7 : i / 64 ≠ 7) : sw_n i = i := by unfold sw_n; rw [if_neg h5, if_neg h7]
def sw_v (v : Value) : Value := match v with
  | .ref i => .ref (sw_n i)
  | w => w
theorem sw_vv (v : Value) : sw_v (sw_v v) = v := by
  cases v with
  | ref i => show Value.ref (sw_n (sw_n i)) = _; rw [sw_nn]
  | _ => rfl
def sw_e (c : pm_E) : pm_E := match c with
  | .inl x => .inl x
  | .inr (ci, fs) => .inr (ci, fs.map sw_v)
theorem sw_ee (c : pm_E) : sw_e (sw_e c) = c := by
  rcases c with x | ⟨ci, fs⟩
  · rfl
  · show (Sum.inr (ci, (fs.map sw_v).map sw_v) : pm_E) = _
    rw [List.map_map, show sw_v ∘ sw_v = id from funext sw_vv, List.map_id]
def sw_l (g : List pm_E) : List pm_E := g.map sw_e
theorem sw_ll (g : List pm_E) : sw_l (sw_l g) = g := by
  unfold sw_l
  rw [List.map_map, show sw_e ∘ sw_e = id from funext sw_ee, List.map_id]
def sw_R (h h' : pm_H) : Prop := ∀ i, pm_lk h' (sw_n i) = (pm_lk h i).map sw_e
theorem sw_R.symm {h h' : pm_H} (H : sw_R h h') : sw_R h' h := fun i => by
  have k := H (sw_n i)
  rw [sw_nn] at k
  rw [k]
  cases pm_lk h (sw_n i) with
  | none => rfl
  | some c => show some c = some (sw_e (sw_e c)); rw [sw_ee]
theorem sw_lk (a0 a1 a2 a3 a4 a5 a6 a7 a8 a9 : List pm_E) (q q' : Nat × Nat × Nat) : sw_R (cl_h a0 a1 a2 a3 a4 a5 a6 a7 a8 a9 q) (cl_h (sw_l a0) (sw_l a1) (sw_l a2) (sw_l a3) (sw_l a4) (sw_l a7) (sw_l a6) (sw_l a5) (sw_l a8) (sw_l a9) q') := by
  intro i
  unfold pm_lk cl_h
  dsimp only
  rw [sw_nm]
  rcases (show i / 64 = 0 ∨ i / 64 = 1 ∨ i / 64 = 2 ∨ i / 64 = 3 ∨ i / 64 = 4 ∨ i / 64 = 5 ∨ i / 64 = 6 ∨ i / 64 = 7 ∨ i / 64 = 8 ∨ i / 64 = 9 ∨ 10 ≤ i / 64 by omega) with z | z | z | z | z | z | z | z | z | z | z
  case inr.inr.inr.inr.inr.inl =>
    rw [sw_n5 z, z]
    exact List.getElem?_map
  case inr.inr.inr.inr.inr.inr.inr.inl =>
    rw [sw_n7 z, z]
    exact List.getElem?_map
  case inr.inr.inr.inr.inr.inr.inr.inr.inr.inr =>
    have n1 : ∀ y : List (List pm_E), y.length = 10 → y.getD (i / 64) [] = [] := fun y hy => by
      rw [List.getD_eq_getElem?_getD, List.getElem?_eq_none (by omega)]
      rfl
    rw [sw_no (by omega) (by omega), n1 _ rfl, n1 _ rfl]
    rfl
  all_goals
    rw [sw_no (by omega) (by omega), z]
    exact List.getElem?_map
theorem sw_cv {G : pm_G} {ad : Nat → Nat} (v : Value) : pm_cv G ad (sw_v v) = pm_cv G (fun i => ad (sw_n i)) v := by
  cases v <;> rfl
theorem sw_ce {G : pm_G} {ad : Nat → Nat} (c : pm_E) : pm_ce G ad (sw_e c) = pm_ce G (fun i => ad (sw_n i)) c := by
  rcases c with x | ⟨ci, fs⟩
  · rfl
  · show (Sum.inr (ci, (fs.map sw_v).map (pm_cv G ad)) : va_E) = Sum.inr (ci, fs.map (pm_cv G (fun i => ad (sw_n i))))
    rw [List.map_map]
    congr 2
    exact List.map_congr_left (fun v _ => sw_cv v)
theorem sw_scr {c : pm_E} (h : pm_scr (sw_e c)) : pm_scr c := by
  rcases c with x | ⟨ci, fs⟩
  · exact h
  · obtain ⟨x, hx⟩ := h
    cases hx
theorem sw_scr' {c : pm_E} (h : pm_scr c) : sw_e c = c := by
  obtain ⟨x, hx⟩ := h
  rw [hx]
  rfl
theorem sw_to {h h' : pm_H} (hR : sw_R h h') {i : Nat} {c : pm_E} (hc : pm_lk h i = some c) : pm_lk h' (sw_n i) = some (sw_e c) := by
  rw [hR i, hc]
  rfl
theorem sw_ok {h h' : pm_H} (hR : sw_R h h') {v : Value} (hv : pm_ok h v) : pm_ok h' (sw_v v) := fun i e => by
  cases v with
  | ref j =>
    obtain ⟨c, hc⟩ := hv j rfl
    have e2 : sw_n j = i := by
      have : Value.ref (sw_n j) = Value.ref i := e
      injection this
    rw [← e2]
    exact ⟨_, sw_to hR hc⟩
  | _ => cases e
theorem sw_hp {G : pm_G} {ad : Nat → Nat} {h h' : pm_H} {ws : va_W} (hR : sw_R h h') (H : pm_hp G ad h' ws) : pm_hp G (fun i => ad (sw_n i)) h ws := by
  obtain ⟨H1, H2, H3, H4⟩ := H
  refine ⟨fun i c hc hn => ?_, fun i c hc hs => ?_, fun i j c c' hc hc' n n' e => ?_, fun i ci fs hc v hv => ?_⟩
  · obtain ⟨k, hk⟩ := H1 (sw_n i) (sw_e c) (sw_to hR hc) (fun z => hn (sw_scr z))
    exact ⟨k, by rw [hk, sw_ce]⟩
  · have e1 := sw_scr' hs
    have hc9 := sw_to hR hc
    rw [e1] at hc9
    exact H2 (sw_n i) c hc9 hs
  · have e2 := H3 (sw_n i) (sw_n j) (sw_e c) (sw_e c') (sw_to hR hc) (sw_to hR hc') (fun z => n (sw_scr z)) (fun z => n' (sw_scr z)) e
    have e3 := congrArg sw_n e2
    rw [sw_nn, sw_nn] at e3
    exact e3
  · have k := H4 (sw_n i) ci (fs.map sw_v) (sw_to hR hc) (sw_v v) (List.mem_map.mpr ⟨v, hv, rfl⟩)
    have k2 := sw_ok hR.symm k
    rw [sw_vv] at k2
    exact k2
theorem sw_mo {h h' h1 h1' : pm_H} (hR : sw_R h h') (hR1 : sw_R h1 h1') (e1 : h'.2.2 = h.2.2) (e2 : h1'.2.2 = h1.2.2) (hm : pm_mo h h1) : pm_mo h' h1' := by
  refine ⟨by rw [e1, e2]; exact hm.1, by rw [e1, e2]; exact hm.2.1, fun i c hc => ?_⟩
  obtain ⟨c1, hc1⟩ := hm.2.2 (sw_n i) _ (sw_to hR.symm hc)
  have k := sw_to hR1 hc1
  rw [sw_nn] at k
  exact ⟨_, k⟩
/-- a contract with the two groups' numbers changed -/
theorem pm_Mt.sw {m d : Nat} {as : List Value} {h h' h1 h1' : pm_H} (hR : sw_R h h') (hR1 : sw_R h1 h1') (e1 : h'.2.2 = h.2.2) (e2 : h1'.2.2 = h1.2.2) (hM : pm_Mt m d as h (.inl none) h1) : pm_Mt m d (as.map sw_v) h' (.inl none) h1' := by
  refine ⟨sw_mo hR hR1 e1 e2 hM.1, fun l hl G ad ws sz hp has => ?_⟩
  have key := hM.2 l hl G (fun i => ad (sw_n i)) ws sz (sw_hp hR hp) (fun v hv => by
    have k := sw_ok hR.symm (has (sw_v v) (List.mem_map.mpr ⟨v, hv, rfl⟩))
    rw [sw_vv] at k
    exact k)
  rw [e1, e2]
  intro p e k1 k2 k3 s mm args below k4 k5 k6 k7
  have k6' : pm_Pc G (fun i => ad (sw_n i)) ws sz as args s := by
    obtain ⟨q1, q2⟩ := k6
    refine ⟨?_, q2⟩
    rw [q1, List.map_map]
    congr 1
    exact List.map_congr_left (fun v _ => sw_cv v)
  obtain ⟨n, o, c1, c2, c3, c4⟩ := key p e k1 k2 k3 s mm args below k4 k5 k6' k7
  refine ⟨n, o, c1, c2, c3, ?_⟩
  have go : ∀ st t ad' ws', pm_end G (va_A ws sz) (fun i => ad (sw_n i)) h h1 st t ad' ws' → pm_end G (va_A ws sz) ad h' h1' st t (fun i => ad' (sw_n i)) ws' := fun st t ad' ws' z => ⟨fun i c hc => by
    have y := z.1 (sw_n i) _ (sw_to hR.symm hc)
    dsimp only at y
    rw [sw_nn] at y
    exact y, sw_hp hR1.symm z.2.1, z.2.2⟩
  rcases c4 with ⟨c5, c6⟩ | ⟨q, c5, E, ce, L, c6, c7⟩
  · obtain ⟨ad', ws', g1, g2, g3⟩ := c5
    exact Or.inl ⟨⟨fun i => ad' (sw_n i), ws', g1, (fun w hw => by cases hw), go _ _ _ _ g3⟩, c6⟩
  · exact c6.elim
set_option maxRecDepth 20000 in
theorem e_X1_runTo7 {d : Nat} (hd : 6 ≤ d) {g0 g1 g2 g3 g5 g8 g9 : List pm_E} {q : Nat × Nat × Nat} {s4 s6 s7 : cs_S} {a0 a1 : Int32} {z7 : cs_S} (H : f_X1_runTo s4 s7 s6 a0 a1 = some z7) : pm_Mt 16 d [.ref 448, .int a0, .int a1] (cl_h g0 g1 g2 g3 (ct_p4 s4) g5 (ct_t6 s6) (ct_e7 (.ref 256) (.ref 384) s7) g8 g9 q) (.inl none) (cl_h g0 g1 g2 g3 (ct_p4 s4) g5 (ct_t6 s6) (ct_e7 (.ref 256) (.ref 384) z7) g8 g9 q) := by
  have k := e_X1_runTo hd (g0 := sw_l g0) (g1 := sw_l g1) (g2 := sw_l g2) (g3 := sw_l g3) (g7 := sw_l g5) (g8 := sw_l g8) (g9 := sw_l g9) (q := q) H
  have R1 := fun x : cs_S => sw_lk (sw_l g0) (sw_l g1) (sw_l g2) (sw_l g3) (ct_p4 s4) (ct_e5 (.ref 256) (.ref 384) x) (ct_t6 s6) (sw_l g5) (sw_l g8) (sw_l g9) q q
  simp only [sw_ll] at R1
  exact pm_Mt.sw (as := [.ref 320, .int a0, .int a1]) (R1 s7) (R1 z7) rfl rfl k
