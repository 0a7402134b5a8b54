/-! Arrays.fill, for any array (wip/whole/fill.py). -/
theorem nI_clamp' {n : Nat} (h : n < 2 ^ 31) : (Int32.ofNat n).toNatClampNeg = n := nI_clamp h
theorem nI_1' (a : Nat) : Int32.ofNat a + 1 = Int32.ofNat (a + 1) := nI_1 a
theorem pm_gp1 {tb : List pm_I} {pc r r2 : Nat} {I : Instr} {L : List (Option Value)} {S : List Value} {h : pm_H} {Q : Prop} {f' : pm_F} (hft : pm_ft tb pc = some (I, r, r2)) (hb : pm_isb I = false) (hx : pm_ex I r r2 0 pc L S h = some (some Q, f')) : pm_gp tb 1 [] True (pc, L, S, h) = some (Q ∧ True, f') := by
  unfold pm_gp
  simp only [hft, hb, hx]
  rfl
theorem pm_gp1n {tb : List pm_I} {pc r r2 : Nat} {I : Instr} {L : List (Option Value)} {S : List Value} {h : pm_H} {f' : pm_F} (hft : pm_ft tb pc = some (I, r, r2)) (hb : pm_isb I = false) (hx : pm_ex I r r2 0 pc L S h = some (none, f')) : pm_gp tb 1 [] True (pc, L, S, h) = some (True, f') := by
  unfold pm_gp
  simp only [hft, hb, hx]
  rfl
theorem pm_st_st {h : pm_H} {i : Nat} {c c1 c0 : pm_E} (h0 : pm_lk h i = some c0) : pm_st (pm_st h i c) i c1 = pm_st h i c1 := by
  have hl := pm_lk_lt h0
  unfold pm_st
  dsimp only
  rw [pm_getD_set _ _ _ _ _ hl, if_pos rfl, List.set_set, List.set_set]
theorem pm_st_id {h : pm_H} {i : Nat} {c0 : pm_E} (h0 : pm_lk h i = some c0) : pm_st h i c0 = h := by
  have hl := pm_lk_lt h0
  unfold pm_lk at h0
  unfold pm_st
  obtain ⟨h1, h2⟩ := h
  dsimp only at hl h0 ⊢
  have e1 : (h1.getD (i / 64) []).set (i % 64) c0 = h1.getD (i / 64) [] := by
    obtain ⟨q1, q2⟩ := List.getElem?_eq_some_iff.mp h0
    apply List.ext_getElem?
    intro j
    rw [List.getElem?_set]
    by_cases e : i % 64 = j
    · rw [if_pos e, if_pos q1, ← e, h0]
    · rw [if_neg e]
  rw [e1]
  have e2 : h1.set (i / 64) (h1.getD (i / 64) []) = h1 := by
    apply List.ext_getElem?
    intro j
    rw [List.getElem?_set]
    by_cases e : i / 64 = j
    · rw [if_pos e, if_pos hl, ← e, List.getD_eq_getElem?_getD, List.getElem?_eq_getElem hl]
      rfl
    · rw [if_neg e]
  rw [e2]
theorem pm_alk {h : pm_H} {b pc n : Nat} {f : Nat → Int32} {x i : Int32} {L : List (Option Value)} {S : List Value} (hlk : pm_lk h b = some (.inl (0, n, .inl f))) : pm_as 0 pc L (.int x :: .int i :: .ref b :: S) h = some (some (vp_in i n), (pc, L, S, pm_st h b (.inl (0, n, .inl (upd f i.toNatClampNeg x))))) := by
  unfold pm_as
  dsimp only
  rw [hlk]
  rfl
theorem pm_alk1 {h : pm_H} {b pc n : Nat} {f : Nat → Int64} {x : Int64} {i : Int32} {L : List (Option Value)} {S : List Value} (hlk : pm_lk h b = some (.inl (1, n, .inr (.inl f)))) : pm_as 1 pc L (.long x :: .int i :: .ref b :: S) h = some (some (vp_in i n), (pc, L, S, pm_st h b (.inl (1, n, .inr (.inl (vp_updL f i.toNatClampNeg x)))))) := by
  unfold pm_as
  dsimp only
  rw [hlk]
  rfl
theorem pm_lenk {h : pm_H} {b pc n : Nat} {f : Nat → Int32} {L : List (Option Value)} {S : List Value} (hlk : pm_lk h b = some (.inl (0, n, .inl f))) : pm_len pc L (.ref b :: S) h = some (none, (pc, L, .int (Int32.ofNat n) :: S, h)) := by
  unfold pm_len
  dsimp only
  rw [hlk]
  rfl
theorem pm_lenk1 {h : pm_H} {b pc n : Nat} {f : Nat → Int64} {L : List (Option Value)} {S : List Value} (hlk : pm_lk h b = some (.inl (1, n, .inr (.inl f)))) : pm_len pc L (.ref b :: S) h = some (none, (pc, L, .int (Int32.ofNat n) :: S, h)) := by
  unfold pm_len
  dsimp only
  rw [hlk]
  rfl
theorem cs_fi_up (f : Nat → Int32) (i : Nat) (v : Int32) : upd (cs_fi f i v) i v = cs_fi f (i + 1) v := by
  funext j
  unfold upd cs_fi
  by_cases e : j = i
  · subst e; simp
  · by_cases e2 : j < i
    · simp [e, e2, show j < i + 1 by omega]
    · simp [e, e2, show ¬ j < i + 1 by omega]
theorem cs_fl_up (f : Nat → Int64) (i : Nat) (v : Int64) : vp_updL (cs_fl f i v) i v = cs_fl f (i + 1) v := by
  funext j
  unfold vp_updL cs_fl
  by_cases e : j = i
  · subst e; simp
  · by_cases e2 : j < i
    · simp [e, e2, show j < i + 1 by omega]
    · simp [e, e2, show ¬ j < i + 1 by omega]
theorem cs_fi_0 (f : Nat → Int32) (v : Int32) : cs_fi f 0 v = f := by
  funext j
  simp [cs_fi]
theorem cs_fl_0 (f : Nat → Int64) (v : Int64) : cs_fl f 0 v = f := by
  funext j
  simp [cs_fl]
def tb_J7_fill_53178 : List pm_I := [(0, .iconst 0, 2, 0), (1, .istore_n 2, 0, 0), (2, .aload_n 0, 0, 0), (3, .arraylength, 0, 0), (4, .istore_n 3, 0, 0), (5, .iload_n 2, 0, 0), (6, .iload_n 3, 0, 0), (7, .if_icmp .ge 13, 20, 0), (10, .aload_n 0, 0, 0), (11, .iload_n 2, 0, 0), (12, .iload_n 1, 0, 0), (13, .iastore, 0, 0), (14, .iinc 2 1, 3, 0), (17, .goto (-12), 5, 0), (20, .return_, 0, 0)]
theorem tk_J7_fill_53178 : ∀ e ∈ tb_J7_fill_53178, pm_ck 307 e = true := List.all_eq_true.mp (by decide +kernel)
set_option maxRecDepth 20000 in
theorem lfillI {d : Nat} (hd : 1 ≤ d) {h : pm_H} {b n : Nat} {f : Nat → Int32} {v : Int32} (hn : n < 100000) (hlk : pm_lk h b = some (.inl (0, n, .inl (f)))) : ∀ (k i : Nat), i + k = n → pm_Wg 307 d (.inl none) (pm_st h b (.inl (0, n, .inl (cs_fi f n v)))) (5, [some (.ref b), some (.int v), some (.int (Int32.ofNat i)), some (.int (Int32.ofNat n))], [], pm_st h b (.inl (0, n, .inl (cs_fi f i v)))) := by
  intro k
  induction k with
  | zero =>
    intro i hi
    have e : n = i := by omega
    subst e
    refine pm_Wg.path (k := 3) (ds := [1]) (f' := (20, [some (.ref b), some (.int v), some (.int (Int32.ofNat n)), some (.int (Int32.ofNat n))], [], pm_st h b (.inl (0, n, .inl (cs_fi f n v))))) tk_J7_fill_53178 (by omega) rfl ⟨Int32.le_refl _, trivial⟩ ?_
    exact pm_Wg.vret (pm_dec tk_J7_fill_53178 rfl) rfl
  | succ k ih =>
    intro i hi
    have hb : ¬ Int32.ofNat n ≤ Int32.ofNat i := nI_ge (by omega) (by omega)
    have hin : vp_in (Int32.ofNat i) n := vp_in_nI (by omega) (by omega)
    have hl2 : pm_lk (pm_st h b (.inl (0, n, .inl (cs_fi f i v)))) b = some (.inl (0, n, .inl (cs_fi f i v))) := by rw [pm_lk_st hlk, if_pos rfl]
    refine pm_Wg.path (k := 6) (ds := [0]) (f' := (13, [some (.ref b), some (.int v), some (.int (Int32.ofNat i)), some (.int (Int32.ofNat n))], [.int v, .int (Int32.ofNat i), .ref b], pm_st h b (.inl (0, n, .inl (cs_fi f i v))))) tk_J7_fill_53178 (by omega) rfl ⟨hb, trivial⟩ ?_
    refine pm_Wg.path (k := 1) (ds := []) (P := vp_in (Int32.ofNat i) n ∧ True) (f' := (14, [some (.ref b), some (.int v), some (.int (Int32.ofNat i)), some (.int (Int32.ofNat n))], [], pm_st (pm_st h b (.inl (0, n, .inl (cs_fi f i v)))) b (.inl (0, n, .inl (upd (cs_fi f i v) (Int32.ofNat i).toNatClampNeg v))))) tk_J7_fill_53178 (by omega) ?_ ⟨hin, trivial⟩ ?_
    · exact pm_gp1 rfl rfl (pm_alk hl2)
    · rw [pm_st_st hlk, nI_clamp' (by omega), cs_fi_up]
      refine pm_Wg.path (k := 2) (ds := []) (f' := (5, [some (.ref b), some (.int v), some (.int (Int32.ofNat i + 1)), some (.int (Int32.ofNat n))], [], pm_st h b (.inl (0, n, .inl (cs_fi f (i + 1) v))))) tk_J7_fill_53178 (by omega) rfl trivial ?_
      rw [nI_1']
      exact ih (i + 1) (by omega)
set_option maxRecDepth 20000 in
theorem e_fillI {d : Nat} (hd : 1 ≤ d) {h h1 : pm_H} {b n : Nat} {f : Nat → Int32} {v : Int32} (hn : n < 100000) (hlk : pm_lk h b = some (.inl (0, n, .inl (f)))) (hh : h1 = pm_st h b (.inl (0, n, .inl (cs_fi f n v)))) : pm_Mt 307 d [.ref b, .int v] h (.inl none) h1 := by
  subst hh
  refine pm_Mt.of (by decide) (by decide +kernel) rfl rfl ?_
  refine pm_Wg.path (k := 3) (ds := []) (f' := (3, [some (.ref b), some (.int v), some (.int 0), none], [.ref b], h)) tk_J7_fill_53178 (by omega) rfl trivial ?_
  refine pm_Wg.path (k := 1) (ds := []) (P := True) (f' := (4, [some (.ref b), some (.int v), some (.int 0), none], [.int (Int32.ofNat n)], h)) tk_J7_fill_53178 (by omega) ?_ trivial ?_
  · exact pm_gp1n rfl rfl (pm_lenk hlk)
  · refine pm_Wg.path (k := 1) (ds := []) (f' := (5, [some (.ref b), some (.int v), some (.int 0), some (.int (Int32.ofNat n))], [], h)) tk_J7_fill_53178 (by omega) rfl trivial ?_
    have key := lfillI hd (v := v) hn hlk n 0 (by omega)
    rw [cs_fi_0, pm_st_id hlk] at key
    exact key
def tb_J7_fill_d0a16 : List pm_I := [(0, .iconst 0, 2, 0), (1, .istore_n 3, 0, 0), (2, .aload_n 0, 0, 0), (3, .arraylength, 0, 0), (4, .istore 4, 0, 0), (6, .iload_n 3, 0, 0), (7, .iload 4, 0, 0), (9, .if_icmp .ge 13, 22, 0), (12, .aload_n 0, 0, 0), (13, .iload_n 3, 0, 0), (14, .lload_n 1, 0, 0), (15, .lastore, 0, 0), (16, .iinc 3 1, 3, 0), (19, .goto (-13), 6, 0), (22, .return_, 0, 0)]
theorem tk_J7_fill_d0a16 : ∀ e ∈ tb_J7_fill_d0a16, pm_ck 306 e = true := List.all_eq_true.mp (by decide +kernel)
set_option maxRecDepth 20000 in
theorem lfillL {d : Nat} (hd : 1 ≤ d) {h : pm_H} {b n : Nat} {f : Nat → Int64} {v : Int64} (hn : n < 100000) (hlk : pm_lk h b = some (.inl (1, n, .inr (.inl (f))))) : ∀ (k i : Nat), i + k = n → pm_Wg 306 d (.inl none) (pm_st h b (.inl (1, n, .inr (.inl (cs_fl f n v))))) (6, [some (.ref b), some (.long v), none, some (.int (Int32.ofNat i)), some (.int (Int32.ofNat n))], [], pm_st h b (.inl (1, n, .inr (.inl (cs_fl f i v))))) := by
  intro k
  induction k with
  | zero =>
    intro i hi
    have e : n = i := by omega
    subst e
    refine pm_Wg.path (k := 3) (ds := [1]) (f' := (22, [some (.ref b), some (.long v), none, some (.int (Int32.ofNat n)), some (.int (Int32.ofNat n))], [], pm_st h b (.inl (1, n, .inr (.inl (cs_fl f n v)))))) tk_J7_fill_d0a16 (by omega) rfl ⟨Int32.le_refl _, trivial⟩ ?_
    exact pm_Wg.vret (pm_dec tk_J7_fill_d0a16 rfl) rfl
  | succ k ih =>
    intro i hi
    have hb : ¬ Int32.ofNat n ≤ Int32.ofNat i := nI_ge (by omega) (by omega)
    have hin : vp_in (Int32.ofNat i) n := vp_in_nI (by omega) (by omega)
    have hl2 : pm_lk (pm_st h b (.inl (1, n, .inr (.inl (cs_fl f i v))))) b = some (.inl (1, n, .inr (.inl (cs_fl f i v)))) := by rw [pm_lk_st hlk, if_pos rfl]
    refine pm_Wg.path (k := 6) (ds := [0]) (f' := (15, [some (.ref b), some (.long v), none, some (.int (Int32.ofNat i)), some (.int (Int32.ofNat n))], [.long v, .int (Int32.ofNat i), .ref b], pm_st h b (.inl (1, n, .inr (.inl (cs_fl f i v)))))) tk_J7_fill_d0a16 (by omega) rfl ⟨hb, trivial⟩ ?_
    refine pm_Wg.path (k := 1) (ds := []) (P := vp_in (Int32.ofNat i) n ∧ True) (f' := (16, [some (.ref b), some (.long v), none, some (.int (Int32.ofNat i)), some (.int (Int32.ofNat n))], [], pm_st (pm_st h b (.inl (1, n, .inr (.inl (cs_fl f i v))))) b (.inl (1, n, .inr (.inl (vp_updL (cs_fl f i v) (Int32.ofNat i).toNatClampNeg v)))))) tk_J7_fill_d0a16 (by omega) ?_ ⟨hin, trivial⟩ ?_
    · exact pm_gp1 rfl rfl (pm_alk1 hl2)
    · rw [pm_st_st hlk, nI_clamp' (by omega), cs_fl_up]
      refine pm_Wg.path (k := 2) (ds := []) (f' := (6, [some (.ref b), some (.long v), none, some (.int (Int32.ofNat i + 1)), some (.int (Int32.ofNat n))], [], pm_st h b (.inl (1, n, .inr (.inl (cs_fl f (i + 1) v)))))) tk_J7_fill_d0a16 (by omega) rfl trivial ?_
      rw [nI_1']
      exact ih (i + 1) (by omega)
set_option maxRecDepth 20000 in
theorem e_fillL {d : Nat} (hd : 1 ≤ d) {h h1 : pm_H} {b n : Nat} {f : Nat → Int64} {v : Int64} (hn : n < 100000) (hlk : pm_lk h b = some (.inl (1, n, .inr (.inl (f))))) (hh : h1 = pm_st h b (.inl (1, n, .inr (.inl (cs_fl f n v))))) : pm_Mt 306 d [.ref b, .long v] h (.inl none) h1 := by
  subst hh
  refine pm_Mt.of (by decide) (by decide +kernel) rfl rfl ?_
  refine pm_Wg.path (k := 3) (ds := []) (f' := (3, [some (.ref b), some (.long v), none, some (.int 0), none], [.ref b], h)) tk_J7_fill_d0a16 (by omega) rfl trivial ?_
  refine pm_Wg.path (k := 1) (ds := []) (P := True) (f' := (4, [some (.ref b), some (.long v), none, some (.int 0), none], [.int (Int32.ofNat n)], h)) tk_J7_fill_d0a16 (by omega) ?_ trivial ?_
  · exact pm_gp1n rfl rfl (pm_lenk1 hlk)
  · refine pm_Wg.path (k := 1) (ds := []) (f' := (6, [some (.ref b), some (.long v), none, some (.int 0), some (.int (Int32.ofNat n))], [], h)) tk_J7_fill_d0a16 (by omega) rfl trivial ?_
    have key := lfillL hd (v := v) hn hlk n 0 (by omega)
    rw [cs_fl_0, pm_st_id hlk] at key
    exact key
