/-! String.length and String.charAt on the String constants (wip/whole/jstr.py). -/
/-- the char at j -/
def pm_cr (w j : Nat) : Int32 := pm_by (pm_tx w) j &&& 255
theorem pm_tx_at {w : Nat} {q : Nat × Nat × String × Nat} (h : pm_SR[w]? = some q) : pm_tx w = q.2.2.1 := by
  unfold pm_tx
  rw [List.getD_eq_getElem?_getD, h]
  rfl
theorem pm_SR_len : ∀ w, w < pm_SR.length → (pm_tx w).length < 2 ^ 31 ∧ w < 2 ^ 64 := by
  have h : (List.range pm_SR.length).all (fun w => decide ((pm_tx w).length < 2 ^ 31 ∧ w < 2 ^ 64)) = true := by decide +kernel
  exact fun w hw => of_decide_eq_true (List.all_eq_true.mp h w (List.mem_range.mpr hw))
theorem pm_SR_lt {w : Nat} {q : Nat × Nat × String × Nat} (h : pm_SR[w]? = some q) : q.2.2.1.length < 2 ^ 31 ∧ w < 2 ^ 64 := by
  rw [← pm_tx_at h]
  exact pm_SR_len w (List.getElem?_eq_some_iff.mp h).1
def tb_J0_coder_7d493 : List pm_I := [(3, .ifCond .eq 10, 13, 0), (6, .aload_n 0, 0, 0), (10, .goto 4, 14, 0), (13, .iconst 1, 3, 0), (14, .ireturn, 0, 0)]
theorem tk_J0_coder_7d493 : ∀ e ∈ tb_J0_coder_7d493, pm_ck 298 e = true := List.all_eq_true.mp (by decide +kernel)
def tb_J0_isLatin1_aae02 : List pm_I := [(3, .ifCond .eq 14, 17, 0), (6, .aload_n 0, 0, 0), (10, .ifCond .ne 7, 17, 0), (13, .iconst 1, 3, 0), (14, .goto 4, 18, 0), (17, .iconst 0, 2, 0), (18, .ireturn, 0, 0)]
theorem tk_J0_isLatin1_aae02 : ∀ e ∈ tb_J0_isLatin1_aae02, pm_ck 299 e = true := List.all_eq_true.mp (by decide +kernel)
def tb_J0_length_8abf5 : List pm_I := [(0, .aload_n 0, 0, 0), (4, .arraylength, 0, 0), (5, .aload_n 0, 0, 0), (6, .invokevirtual 335, 106, 0), (9, .ishr, 0, 0), (10, .ireturn, 0, 0)]
theorem tk_J0_length_8abf5 : ∀ e ∈ tb_J0_length_8abf5, pm_ck 296 e = true := List.all_eq_true.mp (by decide +kernel)
def tb_J3_checkIndex_8e157 : List pm_I := [(0, .iload_n 0, 0, 0), (1, .ifCond .lt 8, 9, 0), (4, .iload_n 0, 0, 0), (5, .iload_n 1, 0, 0), (6, .if_icmp .lt 10, 16, 0), (9, .aload_n 2, 0, 0), (10, .iload_n 0, 0, 0), (11, .iload_n 1, 0, 0), (12, .invokestatic 95, 999, 0), (16, .iload_n 0, 0, 0), (17, .ireturn, 0, 0)]
theorem tk_J3_checkIndex_8e157 : ∀ e ∈ tb_J3_checkIndex_8e157, pm_ck 308 e = true := List.all_eq_true.mp (by decide +kernel)
def tb_J0_checkIndex_df160 : List pm_I := [(0, .iload_n 0, 0, 0), (1, .iload_n 1, 0, 0), (5, .invokestatic 1059, 111, 0), (8, .pop, 0, 0), (9, .return_, 0, 0)]
theorem tk_J0_checkIndex_df160 : ∀ e ∈ tb_J0_checkIndex_df160, pm_ck 300 e = true := List.all_eq_true.mp (by decide +kernel)
def tb_J1_charAt_3b067 : List pm_I := [(0, .iload_n 1, 0, 0), (1, .aload_n 0, 0, 0), (2, .arraylength, 0, 0), (3, .invokestatic 9, 110, 0), (6, .aload_n 0, 0, 0), (7, .iload_n 1, 0, 0), (8, .baload, 0, 0), (9, .sipush 255, 31, 0), (12, .iand, 0, 0), (13, .i2c, 0, 0), (14, .ireturn, 0, 0)]
theorem tk_J1_charAt_3b067 : ∀ e ∈ tb_J1_charAt_3b067, pm_ck 301 e = true := List.all_eq_true.mp (by decide +kernel)
def tb_J0_charAt_5068e : List pm_I := [(0, .aload_n 0, 0, 0), (1, .invokevirtual 492, 108, 0), (4, .ifCond .eq 12, 16, 0), (7, .aload_n 0, 0, 0), (11, .iload_n 1, 0, 0), (12, .invokestatic 495, 109, 0), (15, .ireturn, 0, 0), (16, .aload_n 0, 0, 0), (20, .iload_n 1, 0, 0), (21, .invokestatic 498, 112, 0), (24, .ireturn, 0, 0)]
theorem tk_J0_charAt_5068e : ∀ e ∈ tb_J0_charAt_5068e, pm_ck 297 e = true := List.all_eq_true.mp (by decide +kernel)
theorem e_J0_coder_7d493 {d : Nat} (hd : 1 ≤ d) {h : pm_H} {k : Nat} {q : Nat × Nat × String × Nat} (hk : pm_SR[k]? = some q) : pm_Mt 298 d [.retAddr k] h (.inl (some (.int 0))) h := by
  refine pm_Mt.of (by decide) (by decide +kernel) rfl rfl ?_
  refine pm_Wg.gcomp (ix := 38) (by decide +kernel) (pm_mem (i := 955) (by decide +kernel) rfl) ?_
  refine pm_Wg.path (k := 2) (ds := [0]) (f' := (7, [some (.retAddr k)], [.retAddr k], h)) tk_J0_coder_7d493 (by omega) rfl ⟨by decide, trivial⟩ ?_
  refine pm_Wg.gcoder (ix := 15) (by decide +kernel) (pm_mem (i := 2081) (by decide +kernel) rfl) hk ?_
  refine pm_Wg.path (k := 1) (ds := []) (f' := (14, [some (.retAddr k)], [.int 0], h)) tk_J0_coder_7d493 (by omega) rfl trivial ?_
  exact pm_Wg.iret (pm_dec tk_J0_coder_7d493 rfl) rfl (by decide)
theorem e_J0_isLatin1_aae02 {d : Nat} (hd : 1 ≤ d) {h : pm_H} {k : Nat} {q : Nat × Nat × String × Nat} (hk : pm_SR[k]? = some q) : pm_Mt 299 d [.retAddr k] h (.inl (some (.int 1))) h := by
  refine pm_Mt.of (by decide) (by decide +kernel) rfl rfl ?_
  refine pm_Wg.gcomp (ix := 38) (by decide +kernel) (pm_mem (i := 955) (by decide +kernel) rfl) ?_
  refine pm_Wg.path (k := 2) (ds := [0]) (f' := (7, [some (.retAddr k)], [.retAddr k], h)) tk_J0_isLatin1_aae02 (by omega) rfl ⟨by decide, trivial⟩ ?_
  refine pm_Wg.gcoder (ix := 15) (by decide +kernel) (pm_mem (i := 2081) (by decide +kernel) rfl) hk ?_
  refine pm_Wg.path (k := 3) (ds := [0]) (f' := (18, [some (.retAddr k)], [.int 1], h)) tk_J0_isLatin1_aae02 (by omega) rfl ⟨by decide, trivial⟩ ?_
  exact pm_Wg.iret (pm_dec tk_J0_isLatin1_aae02 rfl) rfl (by decide)
theorem e_J0_length_8abf5 {d : Nat} (hd : 2 ≤ d) {h : pm_H} {k : Nat} {q : Nat × Nat × String × Nat} (hk : pm_SR[k]? = some q) : pm_Mt 296 d [.retAddr k] h (.inl (some (.int (Int32.ofNat (pm_tx k).length)))) h := by
  obtain ⟨hl1, hl2⟩ := pm_SR_lt hk
  obtain ⟨x, hx⟩ : ∃ x : UInt64, x.toNat = k := ⟨UInt64.ofNat k, UInt64.toNat_ofNat_of_lt' hl2⟩
  rw [pm_tx_at hk]
  refine pm_Mt.of (by decide) (by decide +kernel) rfl rfl ?_
  obtain ⟨d, rfl⟩ : ∃ d', d = d' + 1 := ⟨d - 1, by omega⟩
  refine pm_Wg.path (k := 1) (ds := []) (f' := (1, [some (.retAddr k)], [.retAddr k], h)) tk_J0_length_8abf5 (by omega) rfl trivial ?_
  refine pm_Wg.gvalue (ix := 9) (by decide +kernel) (pm_mem (i := 2080) (by decide +kernel) rfl) hk hx ?_
  refine pm_Wg.vlen (q := q) (pm_dec tk_J0_length_8abf5 rfl) (by rw [hx]; exact hk) ?_
  refine pm_Wg.path (k := 1) (ds := []) (f' := (6, [some (.retAddr k)], [.retAddr k, .int (Int32.ofNat q.2.2.1.length)], h)) tk_J0_length_8abf5 (by omega) rfl trivial ?_
  refine pm_Wg.callT (m' := 298) (ix := 335) (rr := 106) (pl := 951) (k := k) (As := []) (S := [.int (Int32.ofNat q.2.2.1.length)]) (by decide) rfl (pm_dec tk_J0_length_8abf5 rfl) rfl rfl (by decide +kernel) rfl hk (by decide +kernel) (Nat.le_of_ble_eq_true rfl) rfl (e_J0_coder_7d493 (by omega) hk) ?_
  refine pm_Wg.path (k := 1) (ds := []) (f' := (10, [some (.retAddr k)], [.int (Int32.ofNat q.2.2.1.length >>> ((0 : Int32) &&& 31))], h)) tk_J0_length_8abf5 (by omega) rfl trivial ?_
  rw [show Int32.ofNat q.2.2.1.length >>> ((0 : Int32) &&& 31) = Int32.ofNat q.2.2.1.length from sc_shr0 hl1]
  exact pm_Wg.iret (pm_dec tk_J0_length_8abf5 rfl) rfl rfl
theorem e_J3_checkIndex_8e157 {d : Nat} (hd : 1 ≤ d) {h : pm_H} {i n : Int32} {w : UInt32} (h0 : ¬ i < 0) (h1 : i < n) : pm_Mt 308 d [.int i, .int n, .float w] h (.inl (some (.int i))) h := by
  refine pm_Mt.of (by decide) (by decide +kernel) rfl rfl ?_
  refine pm_Wg.path (k := 6) (ds := [0, 1]) (f' := (17, [some (.int i), some (.int n), some (.float w)], [.int i], h)) tk_J3_checkIndex_8e157 (by omega) rfl ⟨h1, h0, trivial⟩ ?_
  exact pm_Wg.iret (pm_dec tk_J3_checkIndex_8e157 rfl) rfl rfl
theorem e_J0_checkIndex_df160 {d : Nat} (hd : 2 ≤ d) {h : pm_H} {i n : Int32} (h0 : ¬ i < 0) (h1 : i < n) : pm_Mt 300 d [.int i, .int n] h (.inl none) h := by
  refine pm_Mt.of (by decide) (by decide +kernel) rfl rfl ?_
  obtain ⟨d, rfl⟩ : ∃ d', d = d' + 1 := ⟨d - 1, by omega⟩
  refine pm_Wg.path (k := 2) (ds := []) (f' := (2, [some (.int i), some (.int n)], [.int n, .int i], h)) tk_J0_checkIndex_df160 (by omega) rfl trivial ?_
  refine pm_Wg.gform (ix := 1053) (by decide +kernel) (pm_mem (i := 971) (by decide +kernel) rfl) ?_
  refine pm_Wg.callS (m' := 308) (ix := 1059) (rr := 111) (pl := 973) (As := [.int i, .int n, .float 0]) (S := []) (by decide) rfl (pm_dec tk_J0_checkIndex_df160 rfl) rfl rfl rfl (Nat.le_of_ble_eq_true rfl) rfl (e_J3_checkIndex_8e157 (by omega) h0 h1) ?_
  refine pm_Wg.path (k := 1) (ds := []) (f' := (9, [some (.int i), some (.int n)], [], h)) tk_J0_checkIndex_df160 (by omega) rfl trivial ?_
  exact pm_Wg.vret (pm_dec tk_J0_checkIndex_df160 rfl) rfl
theorem e_J1_charAt_3b067 {d : Nat} (hd : 3 ≤ d) {h : pm_H} {k : Nat} {x : UInt64} {i : Int32} {q : Nat × Nat × String × Nat} (hk : pm_SR[k]? = some q) (hx : x.toNat = k) (hi : vp_in i q.2.2.1.length) : pm_Mt 301 d [.double x, .int i] h (.inl (some (.int (pm_by q.2.2.1 i.toNatClampNeg &&& 255)))) h := by
  obtain ⟨hl1, hl2⟩ := pm_SR_lt hk
  have hk2 : pm_SR[x.toNat]? = some q := by rw [hx]; exact hk
  have h0 : ¬ i < 0 := fun z => hi (Or.inl z)
  have h1 : i < Int32.ofNat q.2.2.1.length := by
    obtain ⟨j, hj, rfl⟩ := vp_in_of hi hl1
    exact nI_lt hj hl1
  refine pm_Mt.of (by decide) (by decide +kernel) rfl rfl ?_
  obtain ⟨d, rfl⟩ : ∃ d', d = d' + 1 := ⟨d - 1, by omega⟩
  refine pm_Wg.path (k := 1) (ds := []) (f' := (1, [some (.double x), some (.int i)], [.int i], h)) tk_J1_charAt_3b067 (by omega) rfl trivial ?_
  refine pm_Wg.ald (i := 0) (pm_dec tk_J1_charAt_3b067 rfl) rfl ?_
  refine pm_Wg.vlen (q := q) (pm_dec tk_J1_charAt_3b067 rfl) hk2 ?_
  refine pm_Wg.callS (m' := 300) (ix := 9) (rr := 110) (pl := 968) (As := [.int i, .int (Int32.ofNat q.2.2.1.length)]) (S := []) (by decide) rfl (pm_dec tk_J1_charAt_3b067 rfl) rfl rfl rfl (Nat.le_of_ble_eq_true rfl) rfl (e_J0_checkIndex_df160 (by omega) h0 h1) ?_
  refine pm_Wg.ald (i := 0) (pm_dec tk_J1_charAt_3b067 rfl) rfl ?_
  refine pm_Wg.path (k := 1) (ds := []) (f' := (8, [some (.double x), some (.int i)], [.int i, .double x], h)) tk_J1_charAt_3b067 (by omega) rfl trivial ?_
  refine pm_Wg.vbald (q := q) (pm_dec tk_J1_charAt_3b067 rfl) hk2 hi ?_
  refine pm_Wg.path (k := 2) (ds := []) (f' := (13, [some (.double x), some (.int i)], [.int (pm_by q.2.2.1 i.toNatClampNeg &&& 255)], h)) tk_J1_charAt_3b067 (by omega) rfl trivial ?_
  refine pm_Wg.i2c (by decide +kernel) ?_
  rw [sc_c2]
  exact pm_Wg.iret (pm_dec tk_J1_charAt_3b067 rfl) rfl (sc_nar _)
theorem e_J0_charAt_5068e {d : Nat} (hd : 4 ≤ d) {h : pm_H} {k : Nat} {i : Int32} {q : Nat × Nat × String × Nat} (hk : pm_SR[k]? = some q) (hi : vp_in i (pm_tx k).length) : pm_Mt 297 d [.retAddr k, .int i] h (.inl (some (.int (pm_cr k i.toNatClampNeg)))) h := by
  obtain ⟨hl1, hl2⟩ := pm_SR_lt hk
  obtain ⟨x, hx⟩ : ∃ x : UInt64, x.toNat = k := ⟨UInt64.ofNat k, UInt64.toNat_ofNat_of_lt' hl2⟩
  unfold pm_cr
  rw [pm_tx_at hk] at hi ⊢
  refine pm_Mt.of (by decide) (by decide +kernel) rfl rfl ?_
  obtain ⟨d, rfl⟩ : ∃ d', d = d' + 1 := ⟨d - 1, by omega⟩
  refine pm_Wg.path (k := 1) (ds := []) (f' := (1, [some (.retAddr k), some (.int i)], [.retAddr k], h)) tk_J0_charAt_5068e (by omega) rfl trivial ?_
  refine pm_Wg.callT (m' := 299) (ix := 492) (rr := 108) (pl := 961) (k := k) (As := []) (S := []) (by decide) rfl (pm_dec tk_J0_charAt_5068e rfl) rfl rfl (by decide +kernel) rfl hk (by decide +kernel) (Nat.le_of_ble_eq_true rfl) rfl (e_J0_isLatin1_aae02 (by omega) hk) ?_
  refine pm_Wg.path (k := 2) (ds := [0]) (f' := (8, [some (.retAddr k), some (.int i)], [.retAddr k], h)) tk_J0_charAt_5068e (by omega) rfl ⟨by decide, trivial⟩ ?_
  refine pm_Wg.gvalue (ix := 9) (by decide +kernel) (pm_mem (i := 2080) (by decide +kernel) rfl) hk hx ?_
  refine pm_Wg.path (k := 1) (ds := []) (f' := (12, [some (.retAddr k), some (.int i)], [.int i, .double x], h)) tk_J0_charAt_5068e (by omega) rfl trivial ?_
  refine pm_Wg.callS (m' := 301) (ix := 495) (rr := 109) (pl := 965) (As := [.double x, .int i]) (S := []) (by decide) rfl (pm_dec tk_J0_charAt_5068e rfl) rfl rfl rfl (Nat.le_of_ble_eq_true rfl) rfl (e_J1_charAt_3b067 (by omega) hk hx hi) ?_
  exact pm_Wg.iret (pm_dec tk_J0_charAt_5068e rfl) rfl (sc_nar _)
