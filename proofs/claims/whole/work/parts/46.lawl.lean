/-! The law's loop and its start (wip/whole/decu.py). -/
def ps_all (IN : t_IN) (IE : t_IE) : Prop := ps_0_N_A IN IE ∧ ps_0_E_A IN IE ∧ ps_1_N_N IN IE ∧ ps_1_E_E IN IE ∧ ps_2_N_N IN IE ∧ ps_2_E_E IN IE ∧ ps_2_E_D IN IE ∧ ps_3_N_A IN IE ∧ ps_3_E_A IN IE ∧ ps_4_N_A IN IE ∧ ps_4_E_A IN IE ∧ ps_5_N_N IN IE ∧ ps_5_E_E IN IE ∧ ps_6_N_N IN IE ∧ ps_6_E_E IN IE ∧ ps_7_N_N IN IE ∧ ps_7_E_E IN IE ∧ ps_8_N_N IN IE ∧ ps_8_E_E IN IE ∧ ps_9_N_N IN IE ∧ ps_9_E_E IN IE ∧ ps_10_N_N IN IE ∧ ps_10_E_E IN IE ∧ ps_11_N_N IN IE ∧ ps_11_E_E IN IE ∧ ps_12_N_N IN IE ∧ ps_12_E_E IN IE ∧ ps_13_N_N IN IE ∧ ps_13_E_E IN IE ∧ ps_14_N_N IN IE ∧ ps_14_E_E IN IE ∧ ps_15_N_N IN IE ∧ ps_15_E_E IN IE ∧ ps_16_N_N IN IE ∧ ps_16_E_E IN IE ∧ ps_17_N_N IN IE ∧ ps_17_E_E IN IE ∧ ps_18_N_N IN IE ∧ ps_18_E_E IN IE ∧ ps_19_N_N IN IE ∧ ps_19_E_E IN IE ∧ ps_20_N_N IN IE ∧ ps_20_E_E IN IE ∧ ps_21_N_N IN IE ∧ ps_21_E_E IN IE ∧ ps_22_N_N IN IE ∧ ps_22_E_E IN IE ∧ ps_23_N_N IN IE ∧ ps_23_E_E IN IE ∧ ps_24_N_N IN IE ∧ ps_24_E_E IN IE ∧ ps_25_N_N IN IE ∧ ps_25_E_E IN IE ∧ ps_26_N_N IN IE ∧ ps_26_E_E IN IE ∧ ps_27_N_N IN IE ∧ ps_27_E_E IN IE ∧ ps_28_N_N IN IE ∧ ps_28_E_E IN IE ∧ ps_29_N_N IN IE ∧ ps_29_E_E IN IE ∧ ps_30_N_N IN IE ∧ ps_30_E_E IN IE ∧ ps_31_N_N IN IE ∧ ps_31_E_E IN IE ∧ ps_32_N_N IN IE ∧ ps_32_E_E IN IE ∧ ps_33_N_N IN IE ∧ ps_33_E_E IN IE ∧ ps_34_N_N IN IE ∧ ps_34_E_E IN IE ∧ ps_35_N_N IN IE ∧ ps_35_E_E IN IE ∧ ps_36_N_N IN IE ∧ ps_36_E_E IN IE ∧ ps_37_N_N IN IE ∧ ps_37_E_E IN IE ∧ ps_38_N_N IN IE ∧ ps_38_E_E IN IE ∧ ps_39_N_N IN IE ∧ ps_39_E_E IN IE ∧ ps_40_N_N IN IE ∧ ps_40_E_E IN IE ∧ ps_41_N_N IN IE ∧ ps_41_E_E IN IE ∧ ps_42_N_N IN IE ∧ ps_42_E_E IN IE ∧ ps_43_N_N IN IE ∧ ps_43_E_E IN IE ∧ ps_44_N_N IN IE ∧ ps_44_E_E IN IE ∧ ps_44_E_T IN IE ∧ ps_45_N_N IN IE ∧ ps_45_E_E IN IE ∧ ((∀ (j : Nat) (s0 : cs_S) (sR : mo_S), j < 512 → IN j s0 sR → IN (j + 1) s0 sR) ∧ (∀ (j : Nat) (s0 s4 s5 s6 : cs_S) (sR : mo_S), j < 512 → IE j s0 s4 s5 s6 sR → IE (j + 1) s0 s4 s5 s6 sR))
def tb_law_h : List pm_I := [(23, .iload 4, 0, 0), (25, .aload_n 0, 0, 0), (26, .arraylength, 0, 0), (27, .bipush 6, 8, 0), (29, .isub, 0, 0), (30, .if_icmp .gt 2287, 2317, 0), (33, .aload_n 0, 0, 0), (34, .iload 4, 0, 0), (36, .iaload, 0, 0), (37, .bipush 63, 25, 0), (39, .iand, 0, 0), (40, .tableswitch 2271 0 45 #[200, 304, 360, 416, 429, 442, 455, 468, 481, 537, 593, 649, 717, 825, 881, 937, 993, 1085, 1098, 1111, 1179, 1258, 1314, 1370, 1426, 1482, 1550, 1618, 1631, 1644, 1657, 1713, 1769, 1825, 1881, 1937, 1993, 2049, 2124, 2137, 2150, 2163, 2176, 2189, 2245, 2258], 0, 200), (2311, .iinc 4 6, 8, 0), (2314, .goto (-2291), 23, 0), (2317, .iconst 1, 3, 0), (2318, .ireturn, 0, 0)]
theorem tk_law_h : ∀ e ∈ tb_law_h, pm_ck 338 e = true := List.all_eq_true.mp (by decide +kernel)
theorem lw_sub6 {n : Nat} (hn : n ≤ 3072) : (Int32.ofNat n - 6).toInt = (n : Int) - 6 := by
  rw [Int32.toInt_sub, show (Int32.ofNat n).toInt = (n : Int) from nI_toInt (by omega), show (6 : Int32).toInt = 6 from rfl]
  exact Int.bmod_eq_of_le (by omega) (by omega)
theorem lw_n45 {x : Int} {k : Nat} (h : x = (k : Int)) (hk : k ≤ 45) : ¬ (45 : Int) < x := by omega
theorem lw_d45 {x : Int} {k : Nat} (h : x = (k : Int)) (hk : 46 ≤ k) : (45 : Int) < x := by omega
theorem lw_gt {n j : Nat} (hn : n ≤ 3072) (hj : 6 * j ≤ n) : (Int32.ofNat n - 6 < Int32.ofNat (6 * j)) ↔ n < 6 * j + 6 := by
  rw [Int32.lt_iff_toInt_lt, lw_sub6 hn, show (Int32.ofNat (6 * j)).toInt = ((6 * j : Nat) : Int) from nI_toInt (by omega)]
  omega
theorem lw_w {n j k : Nat} (hn : n ≤ 3072) (hj : 6 * j + 6 ≤ n) (hk : k < 6) : vp_in (Int32.ofNat (6 * j) + Int32.ofNat k) n := by
  rw [show Int32.ofNat (6 * j) + Int32.ofNat k = nI (6 * j + k) from nI_add (6 * j) k]
  exact vp_in_nI (by omega) (by omega)
theorem lw_i6 (j : Nat) : Int32.ofNat (6 * j) + 6 = Int32.ofNat (6 * (j + 1)) := nI_add (6 * j) 6
set_option maxRecDepth 20000 in
theorem lw_endN {j n : Nat} {xs : Nat → Int32} {sR : mo_S} {o : Nat → Int64} {q : Nat × Nat × Nat} {s0 : cs_S} (hn : n ≤ 3072) (hj : 6 * j ≤ n) (he : n < 6 * j + 6) (h1 : q.2.1 ≤ 601024) (h2 : q.2.2 ≤ 7293034) : pm_Wx 338 13 lw_F 601024 7293034 (lf_h (Int32.ofNat (6 * j)) (lh_N s0 sR o n xs q)) := by
  refine pm_Wx.path (k := 7) (ds := [1]) (f' := (2318, [some (.ref 576), some (.ref 0), some (.ref 64), some (.ref 128), some (.int (Int32.ofNat (6 * j))), none, none, none], [.int 1], lh_N s0 sR o n xs q)) lw_F_ok tk_law_h (by decide) rfl ⟨(lw_gt hn hj).mpr he, trivial⟩ ?_
  exact pm_Wx.lawret (pm_dec tk_law_h rfl) h1 h2
set_option maxRecDepth 20000 in
set_option maxHeartbeats 20000000 in
theorem lw_turnN {IN : t_IN} {IE : t_IE} (PA : ps_all IN IE) {j n : Nat} {xs : Nat → Int32} {sR : mo_S} {o : Nat → Int64} {q : Nat × Nat × Nat} {s0 : cs_S} (hn : n ≤ 3072) (hj : 6 * j + 6 ≤ n) (hI : IN j s0 sR) (hq : b_q j 0 q) (KN : lh_KN IN (j + 1) n xs (Int32.ofNat (6 * j) + 6)) (KE : lh_KE IE (j + 1) n xs (Int32.ofNat (6 * j) + 6)) : pm_Wx 338 13 lw_F 601024 7293034 (lf_h (Int32.ofNat (6 * j)) (lh_N s0 sR o n xs q)) := by
  obtain ⟨P_0_N_A, P_0_E_A, P_1_N_N, P_1_E_E, P_2_N_N, P_2_E_E, P_2_E_D, P_3_N_A, P_3_E_A, P_4_N_A, P_4_E_A, P_5_N_N, P_5_E_E, P_6_N_N, P_6_E_E, P_7_N_N, P_7_E_E, P_8_N_N, P_8_E_E, P_9_N_N, P_9_E_E, P_10_N_N, P_10_E_E, P_11_N_N, P_11_E_E, P_12_N_N, P_12_E_E, P_13_N_N, P_13_E_E, P_14_N_N, P_14_E_E, P_15_N_N, P_15_E_E, P_16_N_N, P_16_E_E, P_17_N_N, P_17_E_E, P_18_N_N, P_18_E_E, P_19_N_N, P_19_E_E, P_20_N_N, P_20_E_E, P_21_N_N, P_21_E_E, P_22_N_N, P_22_E_E, P_23_N_N, P_23_E_E, P_24_N_N, P_24_E_E, P_25_N_N, P_25_E_E, P_26_N_N, P_26_E_E, P_27_N_N, P_27_E_E, P_28_N_N, P_28_E_E, P_29_N_N, P_29_E_E, P_30_N_N, P_30_E_E, P_31_N_N, P_31_E_E, P_32_N_N, P_32_E_E, P_33_N_N, P_33_E_E, P_34_N_N, P_34_E_E, P_35_N_N, P_35_E_E, P_36_N_N, P_36_E_E, P_37_N_N, P_37_E_E, P_38_N_N, P_38_E_E, P_39_N_N, P_39_E_E, P_40_N_N, P_40_E_E, P_41_N_N, P_41_E_E, P_42_N_N, P_42_E_E, P_43_N_N, P_43_E_E, P_44_N_N, P_44_E_E, P_44_E_T, P_45_N_N, P_45_E_E, P_skip⟩ := PA
  have hg : ¬ Int32.ofNat n - 6 < Int32.ofNat (6 * j) := fun z => absurd ((lw_gt hn (by omega)).mp z) (by omega)
  have w0 : vp_in (Int32.ofNat (6 * j)) n := vp_in_nI (by omega) (by omega)
  have w1 : vp_in (Int32.ofNat (6 * j) + 1) n := lw_w (k := 1) hn hj (by decide)
  have w2 : vp_in (Int32.ofNat (6 * j) + 2) n := lw_w (k := 2) hn hj (by decide)
  have w3 : vp_in (Int32.ofNat (6 * j) + 3) n := lw_w (k := 3) hn hj (by decide)
  have w4 : vp_in (Int32.ofNat (6 * j) + 4) n := lw_w (k := 4) hn hj (by decide)
  have w5 : vp_in (Int32.ofNat (6 * j) + 5) n := lw_w (k := 5) hn hj (by decide)
  have hj9 : j < 512 := by omega
  obtain ⟨v, hv, ev⟩ := pk_andE (xs (Int32.toNatClampNeg (Int32.ofNat (6 * j)))) (m := 63) 6 (by decide)
  have hv64 : v < 64 := hv
  have hvI : (xs (Int32.toNatClampNeg (Int32.ofNat (6 * j))) &&& 63).toInt = (v : Int) := by rw [ev]; exact nI_toInt (by omega)
  rcases (show v = 0 ∨ v = 1 ∨ v = 2 ∨ v = 3 ∨ v = 4 ∨ v = 5 ∨ v = 6 ∨ v = 7 ∨ v = 8 ∨ v = 9 ∨ v = 10 ∨ v = 11 ∨ v = 12 ∨ v = 13 ∨ v = 14 ∨ v = 15 ∨ v = 16 ∨ v = 17 ∨ v = 18 ∨ v = 19 ∨ v = 20 ∨ v = 21 ∨ v = 22 ∨ v = 23 ∨ v = 24 ∨ v = 25 ∨ v = 26 ∨ v = 27 ∨ v = 28 ∨ v = 29 ∨ v = 30 ∨ v = 31 ∨ v = 32 ∨ v = 33 ∨ v = 34 ∨ v = 35 ∨ v = 36 ∨ v = 37 ∨ v = 38 ∨ v = 39 ∨ v = 40 ∨ v = 41 ∨ v = 42 ∨ v = 43 ∨ v = 44 ∨ v = 45 ∨ 46 ≤ v by omega) with rfl | rfl | rfl | rfl | rfl | rfl | rfl | rfl | rfl | rfl | rfl | rfl | rfl | rfl | rfl | rfl | rfl | rfl | rfl | rfl | rfl | rfl | rfl | rfl | rfl | rfl | rfl | rfl | rfl | rfl | rfl | rfl | rfl | rfl | rfl | rfl | rfl | rfl | rfl | rfl | rfl | rfl | rfl | rfl | rfl | rfl | hv46
  · refine pm_Wx.path (k := 12) (ds := [0, 0]) (f' := (240, [some (.ref 576), some (.ref 0), some (.ref 64), some (.ref 128), some (.int (Int32.ofNat (6 * j))), none, none, none], [], lh_N s0 sR o n xs q)) lw_F_ok tk_law_h (by decide) rfl ⟨⟨hvI, lw_n45 hvI (by decide)⟩, w0, hg, trivial⟩ ?_
    exact lh_0_N P_0_N_A hj9 w1 w2 w3 w4 w5 hI hq KN KE
  · refine pm_Wx.path (k := 12) (ds := [0, 1]) (f' := (344, [some (.ref 576), some (.ref 0), some (.ref 64), some (.ref 128), some (.int (Int32.ofNat (6 * j))), none, none, none], [], lh_N s0 sR o n xs q)) lw_F_ok tk_law_h (by decide) rfl ⟨⟨hvI, lw_n45 hvI (by decide)⟩, w0, hg, trivial⟩ ?_
    exact lh_1_N P_1_N_N hj9 w1 w2 w3 w4 w5 hI hq KN KE
  · refine pm_Wx.path (k := 12) (ds := [0, 2]) (f' := (400, [some (.ref 576), some (.ref 0), some (.ref 64), some (.ref 128), some (.int (Int32.ofNat (6 * j))), none, none, none], [], lh_N s0 sR o n xs q)) lw_F_ok tk_law_h (by decide) rfl ⟨⟨hvI, lw_n45 hvI (by decide)⟩, w0, hg, trivial⟩ ?_
    exact lh_2_N P_2_N_N hj9 w1 w2 w3 w4 w5 hI hq KN KE
  · refine pm_Wx.path (k := 12) (ds := [0, 3]) (f' := (456, [some (.ref 576), some (.ref 0), some (.ref 64), some (.ref 128), some (.int (Int32.ofNat (6 * j))), none, none, none], [], lh_N s0 sR o n xs q)) lw_F_ok tk_law_h (by decide) rfl ⟨⟨hvI, lw_n45 hvI (by decide)⟩, w0, hg, trivial⟩ ?_
    exact lh_3_N P_3_N_A hj9 w1 w2 w3 w4 w5 hI hq KN KE
  · refine pm_Wx.path (k := 12) (ds := [0, 4]) (f' := (469, [some (.ref 576), some (.ref 0), some (.ref 64), some (.ref 128), some (.int (Int32.ofNat (6 * j))), none, none, none], [], lh_N s0 sR o n xs q)) lw_F_ok tk_law_h (by decide) rfl ⟨⟨hvI, lw_n45 hvI (by decide)⟩, w0, hg, trivial⟩ ?_
    exact lh_4_N P_4_N_A hj9 w1 w2 w3 w4 w5 hI hq KN KE
  · refine pm_Wx.path (k := 12) (ds := [0, 5]) (f' := (482, [some (.ref 576), some (.ref 0), some (.ref 64), some (.ref 128), some (.int (Int32.ofNat (6 * j))), none, none, none], [], lh_N s0 sR o n xs q)) lw_F_ok tk_law_h (by decide) rfl ⟨⟨hvI, lw_n45 hvI (by decide)⟩, w0, hg, trivial⟩ ?_
    exact lh_5_N P_5_N_N hj9 w1 w2 w3 w4 w5 hI hq KN KE
  · refine pm_Wx.path (k := 12) (ds := [0, 6]) (f' := (495, [some (.ref 576), some (.ref 0), some (.ref 64), some (.ref 128), some (.int (Int32.ofNat (6 * j))), none, none, none], [], lh_N s0 sR o n xs q)) lw_F_ok tk_law_h (by decide) rfl ⟨⟨hvI, lw_n45 hvI (by decide)⟩, w0, hg, trivial⟩ ?_
    exact lh_6_N P_6_N_N hj9 w1 w2 w3 w4 w5 hI hq KN KE
  · refine pm_Wx.path (k := 12) (ds := [0, 7]) (f' := (508, [some (.ref 576), some (.ref 0), some (.ref 64), some (.ref 128), some (.int (Int32.ofNat (6 * j))), none, none, none], [], lh_N s0 sR o n xs q)) lw_F_ok tk_law_h (by decide) rfl ⟨⟨hvI, lw_n45 hvI (by decide)⟩, w0, hg, trivial⟩ ?_
    exact lh_7_N P_7_N_N hj9 w1 w2 w3 w4 w5 hI hq KN KE
  · refine pm_Wx.path (k := 12) (ds := [0, 8]) (f' := (521, [some (.ref 576), some (.ref 0), some (.ref 64), some (.ref 128), some (.int (Int32.ofNat (6 * j))), none, none, none], [], lh_N s0 sR o n xs q)) lw_F_ok tk_law_h (by decide) rfl ⟨⟨hvI, lw_n45 hvI (by decide)⟩, w0, hg, trivial⟩ ?_
    exact lh_8_N P_8_N_N hj9 w1 w2 w3 w4 w5 hI hq KN KE
  · refine pm_Wx.path (k := 12) (ds := [0, 9]) (f' := (577, [some (.ref 576), some (.ref 0), some (.ref 64), some (.ref 128), some (.int (Int32.ofNat (6 * j))), none, none, none], [], lh_N s0 sR o n xs q)) lw_F_ok tk_law_h (by decide) rfl ⟨⟨hvI, lw_n45 hvI (by decide)⟩, w0, hg, trivial⟩ ?_
    exact lh_9_N P_9_N_N hj9 w1 w2 w3 w4 w5 hI hq KN KE
  · refine pm_Wx.path (k := 12) (ds := [0, 10]) (f' := (633, [some (.ref 576), some (.ref 0), some (.ref 64), some (.ref 128), some (.int (Int32.ofNat (6 * j))), none, none, none], [], lh_N s0 sR o n xs q)) lw_F_ok tk_law_h (by decide) rfl ⟨⟨hvI, lw_n45 hvI (by decide)⟩, w0, hg, trivial⟩ ?_
    exact lh_10_N P_10_N_N hj9 w1 w2 w3 w4 w5 hI hq KN KE
  · refine pm_Wx.path (k := 12) (ds := [0, 11]) (f' := (689, [some (.ref 576), some (.ref 0), some (.ref 64), some (.ref 128), some (.int (Int32.ofNat (6 * j))), none, none, none], [], lh_N s0 sR o n xs q)) lw_F_ok tk_law_h (by decide) rfl ⟨⟨hvI, lw_n45 hvI (by decide)⟩, w0, hg, trivial⟩ ?_
    exact lh_11_N P_11_N_N hj9 w1 w2 w3 w4 w5 hI hq KN KE
  · refine pm_Wx.path (k := 12) (ds := [0, 12]) (f' := (757, [some (.ref 576), some (.ref 0), some (.ref 64), some (.ref 128), some (.int (Int32.ofNat (6 * j))), none, none, none], [], lh_N s0 sR o n xs q)) lw_F_ok tk_law_h (by decide) rfl ⟨⟨hvI, lw_n45 hvI (by decide)⟩, w0, hg, trivial⟩ ?_
    exact lh_12_N P_12_N_N hj9 w1 w2 w3 w4 w5 hI hq KN KE
  · refine pm_Wx.path (k := 12) (ds := [0, 13]) (f' := (865, [some (.ref 576), some (.ref 0), some (.ref 64), some (.ref 128), some (.int (Int32.ofNat (6 * j))), none, none, none], [], lh_N s0 sR o n xs q)) lw_F_ok tk_law_h (by decide) rfl ⟨⟨hvI, lw_n45 hvI (by decide)⟩, w0, hg, trivial⟩ ?_
    exact lh_13_N P_13_N_N hj9 w1 w2 w3 w4 w5 hI hq KN KE
  · refine pm_Wx.path (k := 12) (ds := [0, 14]) (f' := (921, [some (.ref 576), some (.ref 0), some (.ref 64), some (.ref 128), some (.int (Int32.ofNat (6 * j))), none, none, none], [], lh_N s0 sR o n xs q)) lw_F_ok tk_law_h (by decide) rfl ⟨⟨hvI, lw_n45 hvI (by decide)⟩, w0, hg, trivial⟩ ?_
    exact lh_14_N P_14_N_N hj9 w1 w2 w3 w4 w5 hI hq KN KE
  · refine pm_Wx.path (k := 12) (ds := [0, 15]) (f' := (977, [some (.ref 576), some (.ref 0), some (.ref 64), some (.ref 128), some (.int (Int32.ofNat (6 * j))), none, none, none], [], lh_N s0 sR o n xs q)) lw_F_ok tk_law_h (by decide) rfl ⟨⟨hvI, lw_n45 hvI (by decide)⟩, w0, hg, trivial⟩ ?_
    exact lh_15_N P_15_N_N hj9 w1 w2 w3 w4 w5 hI hq KN KE
  · refine pm_Wx.path (k := 12) (ds := [0, 16]) (f' := (1033, [some (.ref 576), some (.ref 0), some (.ref 64), some (.ref 128), some (.int (Int32.ofNat (6 * j))), none, none, none], [], lh_N s0 sR o n xs q)) lw_F_ok tk_law_h (by decide) rfl ⟨⟨hvI, lw_n45 hvI (by decide)⟩, w0, hg, trivial⟩ ?_
    exact lh_16_N P_16_N_N hj9 w1 w2 w3 w4 w5 hI hq KN KE
  · refine pm_Wx.path (k := 12) (ds := [0, 17]) (f' := (1125, [some (.ref 576), some (.ref 0), some (.ref 64), some (.ref 128), some (.int (Int32.ofNat (6 * j))), none, none, none], [], lh_N s0 sR o n xs q)) lw_F_ok tk_law_h (by decide) rfl ⟨⟨hvI, lw_n45 hvI (by decide)⟩, w0, hg, trivial⟩ ?_
    exact lh_17_N P_17_N_N hj9 w1 w2 w3 w4 w5 hI hq KN KE
  · refine pm_Wx.path (k := 12) (ds := [0, 18]) (f' := (1138, [some (.ref 576), some (.ref 0), some (.ref 64), some (.ref 128), some (.int (Int32.ofNat (6 * j))), none, none, none], [], lh_N s0 sR o n xs q)) lw_F_ok tk_law_h (by decide) rfl ⟨⟨hvI, lw_n45 hvI (by decide)⟩, w0, hg, trivial⟩ ?_
    exact lh_18_N P_18_N_N hj9 w1 w2 w3 w4 w5 hI hq KN KE
  · refine pm_Wx.path (k := 12) (ds := [0, 19]) (f' := (1151, [some (.ref 576), some (.ref 0), some (.ref 64), some (.ref 128), some (.int (Int32.ofNat (6 * j))), none, none, none], [], lh_N s0 sR o n xs q)) lw_F_ok tk_law_h (by decide) rfl ⟨⟨hvI, lw_n45 hvI (by decide)⟩, w0, hg, trivial⟩ ?_
    exact lh_19_N P_19_N_N hj9 w1 w2 w3 w4 w5 hI hq KN KE
  · refine pm_Wx.path (k := 12) (ds := [0, 20]) (f' := (1219, [some (.ref 576), some (.ref 0), some (.ref 64), some (.ref 128), some (.int (Int32.ofNat (6 * j))), none, none, none], [], lh_N s0 sR o n xs q)) lw_F_ok tk_law_h (by decide) rfl ⟨⟨hvI, lw_n45 hvI (by decide)⟩, w0, hg, trivial⟩ ?_
    exact lh_20_N P_20_N_N hj9 w1 w2 w3 w4 w5 hI hq KN KE
  · refine pm_Wx.path (k := 12) (ds := [0, 21]) (f' := (1298, [some (.ref 576), some (.ref 0), some (.ref 64), some (.ref 128), some (.int (Int32.ofNat (6 * j))), none, none, none], [], lh_N s0 sR o n xs q)) lw_F_ok tk_law_h (by decide) rfl ⟨⟨hvI, lw_n45 hvI (by decide)⟩, w0, hg, trivial⟩ ?_
    exact lh_21_N P_21_N_N hj9 w1 w2 w3 w4 w5 hI hq KN KE
  · refine pm_Wx.path (k := 12) (ds := [0, 22]) (f' := (1354, [some (.ref 576), some (.ref 0), some (.ref 64), some (.ref 128), some (.int (Int32.ofNat (6 * j))), none, none, none], [], lh_N s0 sR o n xs q)) lw_F_ok tk_law_h (by decide) rfl ⟨⟨hvI, lw_n45 hvI (by decide)⟩, w0, hg, trivial⟩ ?_
    exact lh_22_N P_22_N_N hj9 w1 w2 w3 w4 w5 hI hq KN KE
  · refine pm_Wx.path (k := 12) (ds := [0, 23]) (f' := (1410, [some (.ref 576), some (.ref 0), some (.ref 64), some (.ref 128), some (.int (Int32.ofNat (6 * j))), none, none, none], [], lh_N s0 sR o n xs q)) lw_F_ok tk_law_h (by decide) rfl ⟨⟨hvI, lw_n45 hvI (by decide)⟩, w0, hg, trivial⟩ ?_
    exact lh_23_N P_23_N_N hj9 w1 w2 w3 w4 w5 hI hq KN KE
  · refine pm_Wx.path (k := 12) (ds := [0, 24]) (f' := (1466, [some (.ref 576), some (.ref 0), some (.ref 64), some (.ref 128), some (.int (Int32.ofNat (6 * j))), none, none, none], [], lh_N s0 sR o n xs q)) lw_F_ok tk_law_h (by decide) rfl ⟨⟨hvI, lw_n45 hvI (by decide)⟩, w0, hg, trivial⟩ ?_
    exact lh_24_N P_24_N_N hj9 w1 w2 w3 w4 w5 hI hq KN KE
  · refine pm_Wx.path (k := 12) (ds := [0, 25]) (f' := (1522, [some (.ref 576), some (.ref 0), some (.ref 64), some (.ref 128), some (.int (Int32.ofNat (6 * j))), none, none, none], [], lh_N s0 sR o n xs q)) lw_F_ok tk_law_h (by decide) rfl ⟨⟨hvI, lw_n45 hvI (by decide)⟩, w0, hg, trivial⟩ ?_
    exact lh_25_N P_25_N_N hj9 w1 w2 w3 w4 w5 hI hq KN KE
  · refine pm_Wx.path (k := 12) (ds := [0, 26]) (f' := (1590, [some (.ref 576), some (.ref 0), some (.ref 64), some (.ref 128), some (.int (Int32.ofNat (6 * j))), none, none, none], [], lh_N s0 sR o n xs q)) lw_F_ok tk_law_h (by decide) rfl ⟨⟨hvI, lw_n45 hvI (by decide)⟩, w0, hg, trivial⟩ ?_
    exact lh_26_N P_26_N_N hj9 w1 w2 w3 w4 w5 hI hq KN KE
  · refine pm_Wx.path (k := 12) (ds := [0, 27]) (f' := (1658, [some (.ref 576), some (.ref 0), some (.ref 64), some (.ref 128), some (.int (Int32.ofNat (6 * j))), none, none, none], [], lh_N s0 sR o n xs q)) lw_F_ok tk_law_h (by decide) rfl ⟨⟨hvI, lw_n45 hvI (by decide)⟩, w0, hg, trivial⟩ ?_
    exact lh_27_N P_27_N_N hj9 w1 w2 w3 w4 w5 hI hq KN KE
  · refine pm_Wx.path (k := 12) (ds := [0, 28]) (f' := (1671, [some (.ref 576), some (.ref 0), some (.ref 64), some (.ref 128), some (.int (Int32.ofNat (6 * j))), none, none, none], [], lh_N s0 sR o n xs q)) lw_F_ok tk_law_h (by decide) rfl ⟨⟨hvI, lw_n45 hvI (by decide)⟩, w0, hg, trivial⟩ ?_
    exact lh_28_N P_28_N_N hj9 w1 w2 w3 w4 w5 hI hq KN KE
  · refine pm_Wx.path (k := 12) (ds := [0, 29]) (f' := (1684, [some (.ref 576), some (.ref 0), some (.ref 64), some (.ref 128), some (.int (Int32.ofNat (6 * j))), none, none, none], [], lh_N s0 sR o n xs q)) lw_F_ok tk_law_h (by decide) rfl ⟨⟨hvI, lw_n45 hvI (by decide)⟩, w0, hg, trivial⟩ ?_
    exact lh_29_N P_29_N_N hj9 w1 w2 w3 w4 w5 hI hq KN KE
  · refine pm_Wx.path (k := 12) (ds := [0, 30]) (f' := (1697, [some (.ref 576), some (.ref 0), some (.ref 64), some (.ref 128), some (.int (Int32.ofNat (6 * j))), none, none, none], [], lh_N s0 sR o n xs q)) lw_F_ok tk_law_h (by decide) rfl ⟨⟨hvI, lw_n45 hvI (by decide)⟩, w0, hg, trivial⟩ ?_
    exact lh_30_N P_30_N_N hj9 w1 w2 w3 w4 w5 hI hq KN KE
  · refine pm_Wx.path (k := 12) (ds := [0, 31]) (f' := (1753, [some (.ref 576), some (.ref 0), some (.ref 64), some (.ref 128), some (.int (Int32.ofNat (6 * j))), none, none, none], [], lh_N s0 sR o n xs q)) lw_F_ok tk_law_h (by decide) rfl ⟨⟨hvI, lw_n45 hvI (by decide)⟩, w0, hg, trivial⟩ ?_
    exact lh_31_N P_31_N_N hj9 w1 w2 w3 w4 w5 hI hq KN KE
  · refine pm_Wx.path (k := 12) (ds := [0, 32]) (f' := (1809, [some (.ref 576), some (.ref 0), some (.ref 64), some (.ref 128), some (.int (Int32.ofNat (6 * j))), none, none, none], [], lh_N s0 sR o n xs q)) lw_F_ok tk_law_h (by decide) rfl ⟨⟨hvI, lw_n45 hvI (by decide)⟩, w0, hg, trivial⟩ ?_
    exact lh_32_N P_32_N_N hj9 w1 w2 w3 w4 w5 hI hq KN KE
  · refine pm_Wx.path (k := 12) (ds := [0, 33]) (f' := (1865, [some (.ref 576), some (.ref 0), some (.ref 64), some (.ref 128), some (.int (Int32.ofNat (6 * j))), none, none, none], [], lh_N s0 sR o n xs q)) lw_F_ok tk_law_h (by decide) rfl ⟨⟨hvI, lw_n45 hvI (by decide)⟩, w0, hg, trivial⟩ ?_
    exact lh_33_N P_33_N_N hj9 w1 w2 w3 w4 w5 hI hq KN KE
  · refine pm_Wx.path (k := 12) (ds := [0, 34]) (f' := (1921, [some (.ref 576), some (.ref 0), some (.ref 64), some (.ref 128), some (.int (Int32.ofNat (6 * j))), none, none, none], [], lh_N s0 sR o n xs q)) lw_F_ok tk_law_h (by decide) rfl ⟨⟨hvI, lw_n45 hvI (by decide)⟩, w0, hg, trivial⟩ ?_
    exact lh_34_N P_34_N_N hj9 w1 w2 w3 w4 w5 hI hq KN KE
  · refine pm_Wx.path (k := 12) (ds := [0, 35]) (f' := (1977, [some (.ref 576), some (.ref 0), some (.ref 64), some (.ref 128), some (.int (Int32.ofNat (6 * j))), none, none, none], [], lh_N s0 sR o n xs q)) lw_F_ok tk_law_h (by decide) rfl ⟨⟨hvI, lw_n45 hvI (by decide)⟩, w0, hg, trivial⟩ ?_
    exact lh_35_N P_35_N_N hj9 w1 w2 w3 w4 w5 hI hq KN KE
  · refine pm_Wx.path (k := 12) (ds := [0, 36]) (f' := (2033, [some (.ref 576), some (.ref 0), some (.ref 64), some (.ref 128), some (.int (Int32.ofNat (6 * j))), none, none, none], [], lh_N s0 sR o n xs q)) lw_F_ok tk_law_h (by decide) rfl ⟨⟨hvI, lw_n45 hvI (by decide)⟩, w0, hg, trivial⟩ ?_
    exact lh_36_N P_36_N_N hj9 w1 w2 w3 w4 w5 hI hq KN KE
  · refine pm_Wx.path (k := 12) (ds := [0, 37]) (f' := (2089, [some (.ref 576), some (.ref 0), some (.ref 64), some (.ref 128), some (.int (Int32.ofNat (6 * j))), none, none, none], [], lh_N s0 sR o n xs q)) lw_F_ok tk_law_h (by decide) rfl ⟨⟨hvI, lw_n45 hvI (by decide)⟩, w0, hg, trivial⟩ ?_
    exact lh_37_N P_37_N_N hj9 w1 w2 w3 w4 w5 hI hq KN KE
  · refine pm_Wx.path (k := 12) (ds := [0, 38]) (f' := (2164, [some (.ref 576), some (.ref 0), some (.ref 64), some (.ref 128), some (.int (Int32.ofNat (6 * j))), none, none, none], [], lh_N s0 sR o n xs q)) lw_F_ok tk_law_h (by decide) rfl ⟨⟨hvI, lw_n45 hvI (by decide)⟩, w0, hg, trivial⟩ ?_
    exact lh_38_N P_38_N_N hj9 w1 w2 w3 w4 w5 hI hq KN KE
  · refine pm_Wx.path (k := 12) (ds := [0, 39]) (f' := (2177, [some (.ref 576), some (.ref 0), some (.ref 64), some (.ref 128), some (.int (Int32.ofNat (6 * j))), none, none, none], [], lh_N s0 sR o n xs q)) lw_F_ok tk_law_h (by decide) rfl ⟨⟨hvI, lw_n45 hvI (by decide)⟩, w0, hg, trivial⟩ ?_
    exact lh_39_N P_39_N_N hj9 w1 w2 w3 w4 w5 hI hq KN KE
  · refine pm_Wx.path (k := 12) (ds := [0, 40]) (f' := (2190, [some (.ref 576), some (.ref 0), some (.ref 64), some (.ref 128), some (.int (Int32.ofNat (6 * j))), none, none, none], [], lh_N s0 sR o n xs q)) lw_F_ok tk_law_h (by decide) rfl ⟨⟨hvI, lw_n45 hvI (by decide)⟩, w0, hg, trivial⟩ ?_
    exact lh_40_N P_40_N_N hj9 w1 w2 w3 w4 w5 hI hq KN KE
  · refine pm_Wx.path (k := 12) (ds := [0, 41]) (f' := (2203, [some (.ref 576), some (.ref 0), some (.ref 64), some (.ref 128), some (.int (Int32.ofNat (6 * j))), none, none, none], [], lh_N s0 sR o n xs q)) lw_F_ok tk_law_h (by decide) rfl ⟨⟨hvI, lw_n45 hvI (by decide)⟩, w0, hg, trivial⟩ ?_
    exact lh_41_N P_41_N_N hj9 w1 w2 w3 w4 w5 hI hq KN KE
  · refine pm_Wx.path (k := 12) (ds := [0, 42]) (f' := (2216, [some (.ref 576), some (.ref 0), some (.ref 64), some (.ref 128), some (.int (Int32.ofNat (6 * j))), none, none, none], [], lh_N s0 sR o n xs q)) lw_F_ok tk_law_h (by decide) rfl ⟨⟨hvI, lw_n45 hvI (by decide)⟩, w0, hg, trivial⟩ ?_
    exact lh_42_N P_42_N_N hj9 w1 w2 w3 w4 w5 hI hq KN KE
  · refine pm_Wx.path (k := 12) (ds := [0, 43]) (f' := (2229, [some (.ref 576), some (.ref 0), some (.ref 64), some (.ref 128), some (.int (Int32.ofNat (6 * j))), none, none, none], [], lh_N s0 sR o n xs q)) lw_F_ok tk_law_h (by decide) rfl ⟨⟨hvI, lw_n45 hvI (by decide)⟩, w0, hg, trivial⟩ ?_
    exact lh_43_N P_43_N_N hj9 w1 w2 w3 w4 w5 hI hq KN KE
  · refine pm_Wx.path (k := 12) (ds := [0, 44]) (f' := (2285, [some (.ref 576), some (.ref 0), some (.ref 64), some (.ref 128), some (.int (Int32.ofNat (6 * j))), none, none, none], [], lh_N s0 sR o n xs q)) lw_F_ok tk_law_h (by decide) rfl ⟨⟨hvI, lw_n45 hvI (by decide)⟩, w0, hg, trivial⟩ ?_
    exact lh_44_N P_44_N_N hj9 w1 w2 w3 w4 w5 hI hq KN KE
  · refine pm_Wx.path (k := 12) (ds := [0, 45]) (f' := (2298, [some (.ref 576), some (.ref 0), some (.ref 64), some (.ref 128), some (.int (Int32.ofNat (6 * j))), none, none, none], [], lh_N s0 sR o n xs q)) lw_F_ok tk_law_h (by decide) rfl ⟨⟨hvI, lw_n45 hvI (by decide)⟩, w0, hg, trivial⟩ ?_
    exact lh_45_N P_45_N_N hj9 w1 w2 w3 w4 w5 hI hq KN KE
  · refine pm_Wx.path (k := 14) (ds := [0, 46]) (f' := (23, [some (.ref 576), some (.ref 0), some (.ref 64), some (.ref 128), some (.int (Int32.ofNat (6 * j) + 6)), none, none, none], [], lh_N s0 sR o n xs q)) lw_F_ok tk_law_h (by decide) rfl ⟨Or.inr (lw_d45 hvI hv46), w0, hg, trivial⟩ ?_
    exact KN _ _ _ _ (P_skip.1 _ _ _ hj9 hI) ⟨by have := hq.1; omega, by have := hq.2; omega⟩

set_option maxRecDepth 20000 in
theorem lw_endE {j n : Nat} {xs : Nat → Int32} {sR : mo_S} {o : Nat → Int64} {q : Nat × Nat × Nat} {v1 v3 : Value} {g7 g8 : List pm_E} {s0 s4 s5 s6 : cs_S} (hn : n ≤ 3072) (hj : 6 * j ≤ n) (he : n < 6 * j + 6) (h1 : q.2.1 ≤ 601024) (h2 : q.2.2 ≤ 7293034) : pm_Wx 338 13 lw_F 601024 7293034 (lf_h (Int32.ofNat (6 * j)) (lh_E v1 v3 g7 g8 s0 s4 s5 s6 sR o n xs q)) := by
  refine pm_Wx.path (k := 7) (ds := [1]) (f' := (2318, [some (.ref 576), some (.ref 0), some (.ref 64), some (.ref 128), some (.int (Int32.ofNat (6 * j))), none, none, none], [.int 1], lh_E v1 v3 g7 g8 s0 s4 s5 s6 sR o n xs q)) lw_F_ok tk_law_h (by decide) rfl ⟨(lw_gt hn hj).mpr he, trivial⟩ ?_
  exact pm_Wx.lawret (pm_dec tk_law_h rfl) h1 h2
set_option maxRecDepth 20000 in
set_option maxHeartbeats 20000000 in
theorem lw_turnE {IN : t_IN} {IE : t_IE} (PA : ps_all IN IE) {j n : Nat} {xs : Nat → Int32} {sR : mo_S} {o : Nat → Int64} {q : Nat × Nat × Nat} {u1 u3 : Nat} {v1 v3 : Value} {g7 g8 : List pm_E} {s0 s4 s5 s6 : cs_S} (hn : n ≤ 3072) (hj : 6 * j + 6 ≤ n) (hD : ok_D v1 g8 u1) (hT : ok_T v3 g7 u3) (hI : IE j s0 s4 s5 s6 sR) (hq : b_q j (21000 + u1 + u3) q) (KN : lh_KN IN (j + 1) n xs (Int32.ofNat (6 * j) + 6)) (KE : lh_KE IE (j + 1) n xs (Int32.ofNat (6 * j) + 6)) : pm_Wx 338 13 lw_F 601024 7293034 (lf_h (Int32.ofNat (6 * j)) (lh_E v1 v3 g7 g8 s0 s4 s5 s6 sR o n xs q)) := by
  obtain ⟨P_0_N_A, P_0_E_A, P_1_N_N, P_1_E_E, P_2_N_N, P_2_E_E, P_2_E_D, P_3_N_A, P_3_E_A, P_4_N_A, P_4_E_A, P_5_N_N, P_5_E_E, P_6_N_N, P_6_E_E, P_7_N_N, P_7_E_E, P_8_N_N, P_8_E_E, P_9_N_N, P_9_E_E, P_10_N_N, P_10_E_E, P_11_N_N, P_11_E_E, P_12_N_N, P_12_E_E, P_13_N_N, P_13_E_E, P_14_N_N, P_14_E_E, P_15_N_N, P_15_E_E, P_16_N_N, P_16_E_E, P_17_N_N, P_17_E_E, P_18_N_N, P_18_E_E, P_19_N_N, P_19_E_E, P_20_N_N, P_20_E_E, P_21_N_N, P_21_E_E, P_22_N_N, P_22_E_E, P_23_N_N, P_23_E_E, P_24_N_N, P_24_E_E, P_25_N_N, P_25_E_E, P_26_N_N, P_26_E_E, P_27_N_N, P_27_E_E, P_28_N_N, P_28_E_E, P_29_N_N, P_29_E_E, P_30_N_N, P_30_E_E, P_31_N_N, P_31_E_E, P_32_N_N, P_32_E_E, P_33_N_N, P_33_E_E, P_34_N_N, P_34_E_E, P_35_N_N, P_35_E_E, P_36_N_N, P_36_E_E, P_37_N_N, P_37_E_E, P_38_N_N, P_38_E_E, P_39_N_N, P_39_E_E, P_40_N_N, P_40_E_E, P_41_N_N, P_41_E_E, P_42_N_N, P_42_E_E, P_43_N_N, P_43_E_E, P_44_N_N, P_44_E_E, P_44_E_T, P_45_N_N, P_45_E_E, P_skip⟩ := PA
  have hg : ¬ Int32.ofNat n - 6 < Int32.ofNat (6 * j) := fun z => absurd ((lw_gt hn (by omega)).mp z) (by omega)
  have w0 : vp_in (Int32.ofNat (6 * j)) n := vp_in_nI (by omega) (by omega)
  have w1 : vp_in (Int32.ofNat (6 * j) + 1) n := lw_w (k := 1) hn hj (by decide)
  have w2 : vp_in (Int32.ofNat (6 * j) + 2) n := lw_w (k := 2) hn hj (by decide)
  have w3 : vp_in (Int32.ofNat (6 * j) + 3) n := lw_w (k := 3) hn hj (by decide)
  have w4 : vp_in (Int32.ofNat (6 * j) + 4) n := lw_w (k := 4) hn hj (by decide)
  have w5 : vp_in (Int32.ofNat (6 * j) + 5) n := lw_w (k := 5) hn hj (by decide)
  have hj9 : j < 512 := by omega
  obtain ⟨v, hv, ev⟩ := pk_andE (xs (Int32.toNatClampNeg (Int32.ofNat (6 * j)))) (m := 63) 6 (by decide)
  have hv64 : v < 64 := hv
  have hvI : (xs (Int32.toNatClampNeg (Int32.ofNat (6 * j))) &&& 63).toInt = (v : Int) := by rw [ev]; exact nI_toInt (by omega)
  rcases (show v = 0 ∨ v = 1 ∨ v = 2 ∨ v = 3 ∨ v = 4 ∨ v = 5 ∨ v = 6 ∨ v = 7 ∨ v = 8 ∨ v = 9 ∨ v = 10 ∨ v = 11 ∨ v = 12 ∨ v = 13 ∨ v = 14 ∨ v = 15 ∨ v = 16 ∨ v = 17 ∨ v = 18 ∨ v = 19 ∨ v = 20 ∨ v = 21 ∨ v = 22 ∨ v = 23 ∨ v = 24 ∨ v = 25 ∨ v = 26 ∨ v = 27 ∨ v = 28 ∨ v = 29 ∨ v = 30 ∨ v = 31 ∨ v = 32 ∨ v = 33 ∨ v = 34 ∨ v = 35 ∨ v = 36 ∨ v = 37 ∨ v = 38 ∨ v = 39 ∨ v = 40 ∨ v = 41 ∨ v = 42 ∨ v = 43 ∨ v = 44 ∨ v = 45 ∨ 46 ≤ v by omega) with rfl | rfl | rfl | rfl | rfl | rfl | rfl | rfl | rfl | rfl | rfl | rfl | rfl | rfl | rfl | rfl | rfl | rfl | rfl | rfl | rfl | rfl | rfl | rfl | rfl | rfl | rfl | rfl | rfl | rfl | rfl | rfl | rfl | rfl | rfl | rfl | rfl | rfl | rfl | rfl | rfl | rfl | rfl | rfl | rfl | rfl | hv46
  · refine pm_Wx.path (k := 12) (ds := [0, 0]) (f' := (240, [some (.ref 576), some (.ref 0), some (.ref 64), some (.ref 128), some (.int (Int32.ofNat (6 * j))), none, none, none], [], lh_E v1 v3 g7 g8 s0 s4 s5 s6 sR o n xs q)) lw_F_ok tk_law_h (by decide) rfl ⟨⟨hvI, lw_n45 hvI (by decide)⟩, w0, hg, trivial⟩ ?_
    exact lh_0_E P_0_E_A hj9 w1 w2 w3 w4 w5 hD hT hI hq KN KE
  · refine pm_Wx.path (k := 12) (ds := [0, 1]) (f' := (344, [some (.ref 576), some (.ref 0), some (.ref 64), some (.ref 128), some (.int (Int32.ofNat (6 * j))), none, none, none], [], lh_E v1 v3 g7 g8 s0 s4 s5 s6 sR o n xs q)) lw_F_ok tk_law_h (by decide) rfl ⟨⟨hvI, lw_n45 hvI (by decide)⟩, w0, hg, trivial⟩ ?_
    exact lh_1_E P_1_E_E hj9 w1 w2 w3 w4 w5 hD hT hI hq KN KE
  · refine pm_Wx.path (k := 12) (ds := [0, 2]) (f' := (400, [some (.ref 576), some (.ref 0), some (.ref 64), some (.ref 128), some (.int (Int32.ofNat (6 * j))), none, none, none], [], lh_E v1 v3 g7 g8 s0 s4 s5 s6 sR o n xs q)) lw_F_ok tk_law_h (by decide) rfl ⟨⟨hvI, lw_n45 hvI (by decide)⟩, w0, hg, trivial⟩ ?_
    exact lh_2_E P_2_E_E P_2_E_D hj9 w1 w2 w3 w4 w5 hD hT hI hq KN KE
  · refine pm_Wx.path (k := 12) (ds := [0, 3]) (f' := (456, [some (.ref 576), some (.ref 0), some (.ref 64), some (.ref 128), some (.int (Int32.ofNat (6 * j))), none, none, none], [], lh_E v1 v3 g7 g8 s0 s4 s5 s6 sR o n xs q)) lw_F_ok tk_law_h (by decide) rfl ⟨⟨hvI, lw_n45 hvI (by decide)⟩, w0, hg, trivial⟩ ?_
    exact lh_3_E P_3_E_A hj9 w1 w2 w3 w4 w5 hD hT hI hq KN KE
  · refine pm_Wx.path (k := 12) (ds := [0, 4]) (f' := (469, [some (.ref 576), some (.ref 0), some (.ref 64), some (.ref 128), some (.int (Int32.ofNat (6 * j))), none, none, none], [], lh_E v1 v3 g7 g8 s0 s4 s5 s6 sR o n xs q)) lw_F_ok tk_law_h (by decide) rfl ⟨⟨hvI, lw_n45 hvI (by decide)⟩, w0, hg, trivial⟩ ?_
    exact lh_4_E P_4_E_A hj9 w1 w2 w3 w4 w5 hD hT hI hq KN KE
  · refine pm_Wx.path (k := 12) (ds := [0, 5]) (f' := (482, [some (.ref 576), some (.ref 0), some (.ref 64), some (.ref 128), some (.int (Int32.ofNat (6 * j))), none, none, none], [], lh_E v1 v3 g7 g8 s0 s4 s5 s6 sR o n xs q)) lw_F_ok tk_law_h (by decide) rfl ⟨⟨hvI, lw_n45 hvI (by decide)⟩, w0, hg, trivial⟩ ?_
    exact lh_5_E P_5_E_E hj9 w1 w2 w3 w4 w5 hD hT hI hq KN KE
  · refine pm_Wx.path (k := 12) (ds := [0, 6]) (f' := (495, [some (.ref 576), some (.ref 0), some (.ref 64), some (.ref 128), some (.int (Int32.ofNat (6 * j))), none, none, none], [], lh_E v1 v3 g7 g8 s0 s4 s5 s6 sR o n xs q)) lw_F_ok tk_law_h (by decide) rfl ⟨⟨hvI, lw_n45 hvI (by decide)⟩, w0, hg, trivial⟩ ?_
    exact lh_6_E P_6_E_E hj9 w1 w2 w3 w4 w5 hD hT hI hq KN KE
  · refine pm_Wx.path (k := 12) (ds := [0, 7]) (f' := (508, [some (.ref 576), some (.ref 0), some (.ref 64), some (.ref 128), some (.int (Int32.ofNat (6 * j))), none, none, none], [], lh_E v1 v3 g7 g8 s0 s4 s5 s6 sR o n xs q)) lw_F_ok tk_law_h (by decide) rfl ⟨⟨hvI, lw_n45 hvI (by decide)⟩, w0, hg, trivial⟩ ?_
    exact lh_7_E P_7_E_E hj9 w1 w2 w3 w4 w5 hD hT hI hq KN KE
  · refine pm_Wx.path (k := 12) (ds := [0, 8]) (f' := (521, [some (.ref 576), some (.ref 0), some (.ref 64), some (.ref 128), some (.int (Int32.ofNat (6 * j))), none, none, none], [], lh_E v1 v3 g7 g8 s0 s4 s5 s6 sR o n xs q)) lw_F_ok tk_law_h (by decide) rfl ⟨⟨hvI, lw_n45 hvI (by decide)⟩, w0, hg, trivial⟩ ?_
    exact lh_8_E P_8_E_E hj9 w1 w2 w3 w4 w5 hD hT hI hq KN KE
  · refine pm_Wx.path (k := 12) (ds := [0, 9]) (f' := (577, [some (.ref 576), some (.ref 0), some (.ref 64), some (.ref 128), some (.int (Int32.ofNat (6 * j))), none, none, none], [], lh_E v1 v3 g7 g8 s0 s4 s5 s6 sR o n xs q)) lw_F_ok tk_law_h (by decide) rfl ⟨⟨hvI, lw_n45 hvI (by decide)⟩, w0, hg, trivial⟩ ?_
    exact lh_9_E P_9_E_E hj9 w1 w2 w3 w4 w5 hD hT hI hq KN KE
  · refine pm_Wx.path (k := 12) (ds := [0, 10]) (f' := (633, [some (.ref 576), some (.ref 0), some (.ref 64), some (.ref 128), some (.int (Int32.ofNat (6 * j))), none, none, none], [], lh_E v1 v3 g7 g8 s0 s4 s5 s6 sR o n xs q)) lw_F_ok tk_law_h (by decide) rfl ⟨⟨hvI, lw_n45 hvI (by decide)⟩, w0, hg, trivial⟩ ?_
    exact lh_10_E P_10_E_E hj9 w1 w2 w3 w4 w5 hD hT hI hq KN KE
  · refine pm_Wx.path (k := 12) (ds := [0, 11]) (f' := (689, [some (.ref 576), some (.ref 0), some (.ref 64), some (.ref 128), some (.int (Int32.ofNat (6 * j))), none, none, none], [], lh_E v1 v3 g7 g8 s0 s4 s5 s6 sR o n xs q)) lw_F_ok tk_law_h (by decide) rfl ⟨⟨hvI, lw_n45 hvI (by decide)⟩, w0, hg, trivial⟩ ?_
    exact lh_11_E P_11_E_E hj9 w1 w2 w3 w4 w5 hD hT hI hq KN KE
  · refine pm_Wx.path (k := 12) (ds := [0, 12]) (f' := (757, [some (.ref 576), some (.ref 0), some (.ref 64), some (.ref 128), some (.int (Int32.ofNat (6 * j))), none, none, none], [], lh_E v1 v3 g7 g8 s0 s4 s5 s6 sR o n xs q)) lw_F_ok tk_law_h (by decide) rfl ⟨⟨hvI, lw_n45 hvI (by decide)⟩, w0, hg, trivial⟩ ?_
    exact lh_12_E P_12_E_E hj9 w1 w2 w3 w4 w5 hD hT hI hq KN KE
  · refine pm_Wx.path (k := 12) (ds := [0, 13]) (f' := (865, [some (.ref 576), some (.ref 0), some (.ref 64), some (.ref 128), some (.int (Int32.ofNat (6 * j))), none, none, none], [], lh_E v1 v3 g7 g8 s0 s4 s5 s6 sR o n xs q)) lw_F_ok tk_law_h (by decide) rfl ⟨⟨hvI, lw_n45 hvI (by decide)⟩, w0, hg, trivial⟩ ?_
    exact lh_13_E P_13_E_E hj9 w1 w2 w3 w4 w5 hD hT hI hq KN KE
  · refine pm_Wx.path (k := 12) (ds := [0, 14]) (f' := (921, [some (.ref 576), some (.ref 0), some (.ref 64), some (.ref 128), some (.int (Int32.ofNat (6 * j))), none, none, none], [], lh_E v1 v3 g7 g8 s0 s4 s5 s6 sR o n xs q)) lw_F_ok tk_law_h (by decide) rfl ⟨⟨hvI, lw_n45 hvI (by decide)⟩, w0, hg, trivial⟩ ?_
    exact lh_14_E P_14_E_E hj9 w1 w2 w3 w4 w5 hD hT hI hq KN KE
  · refine pm_Wx.path (k := 12) (ds := [0, 15]) (f' := (977, [some (.ref 576), some (.ref 0), some (.ref 64), some (.ref 128), some (.int (Int32.ofNat (6 * j))), none, none, none], [], lh_E v1 v3 g7 g8 s0 s4 s5 s6 sR o n xs q)) lw_F_ok tk_law_h (by decide) rfl ⟨⟨hvI, lw_n45 hvI (by decide)⟩, w0, hg, trivial⟩ ?_
    exact lh_15_E P_15_E_E hj9 w1 w2 w3 w4 w5 hD hT hI hq KN KE
  · refine pm_Wx.path (k := 12) (ds := [0, 16]) (f' := (1033, [some (.ref 576), some (.ref 0), some (.ref 64), some (.ref 128), some (.int (Int32.ofNat (6 * j))), none, none, none], [], lh_E v1 v3 g7 g8 s0 s4 s5 s6 sR o n xs q)) lw_F_ok tk_law_h (by decide) rfl ⟨⟨hvI, lw_n45 hvI (by decide)⟩, w0, hg, trivial⟩ ?_
    exact lh_16_E P_16_E_E hj9 w1 w2 w3 w4 w5 hD hT hI hq KN KE
  · refine pm_Wx.path (k := 12) (ds := [0, 17]) (f' := (1125, [some (.ref 576), some (.ref 0), some (.ref 64), some (.ref 128), some (.int (Int32.ofNat (6 * j))), none, none, none], [], lh_E v1 v3 g7 g8 s0 s4 s5 s6 sR o n xs q)) lw_F_ok tk_law_h (by decide) rfl ⟨⟨hvI, lw_n45 hvI (by decide)⟩, w0, hg, trivial⟩ ?_
    exact lh_17_E P_17_E_E hj9 w1 w2 w3 w4 w5 hD hT hI hq KN KE
  · refine pm_Wx.path (k := 12) (ds := [0, 18]) (f' := (1138, [some (.ref 576), some (.ref 0), some (.ref 64), some (.ref 128), some (.int (Int32.ofNat (6 * j))), none, none, none], [], lh_E v1 v3 g7 g8 s0 s4 s5 s6 sR o n xs q)) lw_F_ok tk_law_h (by decide) rfl ⟨⟨hvI, lw_n45 hvI (by decide)⟩, w0, hg, trivial⟩ ?_
    exact lh_18_E P_18_E_E hj9 w1 w2 w3 w4 w5 hD hT hI hq KN KE
  · refine pm_Wx.path (k := 12) (ds := [0, 19]) (f' := (1151, [some (.ref 576), some (.ref 0), some (.ref 64), some (.ref 128), some (.int (Int32.ofNat (6 * j))), none, none, none], [], lh_E v1 v3 g7 g8 s0 s4 s5 s6 sR o n xs q)) lw_F_ok tk_law_h (by decide) rfl ⟨⟨hvI, lw_n45 hvI (by decide)⟩, w0, hg, trivial⟩ ?_
    exact lh_19_E P_19_E_E hj9 w1 w2 w3 w4 w5 hD hT hI hq KN KE
  · refine pm_Wx.path (k := 12) (ds := [0, 20]) (f' := (1219, [some (.ref 576), some (.ref 0), some (.ref 64), some (.ref 128), some (.int (Int32.ofNat (6 * j))), none, none, none], [], lh_E v1 v3 g7 g8 s0 s4 s5 s6 sR o n xs q)) lw_F_ok tk_law_h (by decide) rfl ⟨⟨hvI, lw_n45 hvI (by decide)⟩, w0, hg, trivial⟩ ?_
    exact lh_20_E P_20_E_E hj9 w1 w2 w3 w4 w5 hD hT hI hq KN KE
  · refine pm_Wx.path (k := 12) (ds := [0, 21]) (f' := (1298, [some (.ref 576), some (.ref 0), some (.ref 64), some (.ref 128), some (.int (Int32.ofNat (6 * j))), none, none, none], [], lh_E v1 v3 g7 g8 s0 s4 s5 s6 sR o n xs q)) lw_F_ok tk_law_h (by decide) rfl ⟨⟨hvI, lw_n45 hvI (by decide)⟩, w0, hg, trivial⟩ ?_
    exact lh_21_E P_21_E_E hj9 w1 w2 w3 w4 w5 hD hT hI hq KN KE
  · refine pm_Wx.path (k := 12) (ds := [0, 22]) (f' := (1354, [some (.ref 576), some (.ref 0), some (.ref 64), some (.ref 128), some (.int (Int32.ofNat (6 * j))), none, none, none], [], lh_E v1 v3 g7 g8 s0 s4 s5 s6 sR o n xs q)) lw_F_ok tk_law_h (by decide) rfl ⟨⟨hvI, lw_n45 hvI (by decide)⟩, w0, hg, trivial⟩ ?_
    exact lh_22_E P_22_E_E hj9 w1 w2 w3 w4 w5 hD hT hI hq KN KE
  · refine pm_Wx.path (k := 12) (ds := [0, 23]) (f' := (1410, [some (.ref 576), some (.ref 0), some (.ref 64), some (.ref 128), some (.int (Int32.ofNat (6 * j))), none, none, none], [], lh_E v1 v3 g7 g8 s0 s4 s5 s6 sR o n xs q)) lw_F_ok tk_law_h (by decide) rfl ⟨⟨hvI, lw_n45 hvI (by decide)⟩, w0, hg, trivial⟩ ?_
    exact lh_23_E P_23_E_E hj9 w1 w2 w3 w4 w5 hD hT hI hq KN KE
  · refine pm_Wx.path (k := 12) (ds := [0, 24]) (f' := (1466, [some (.ref 576), some (.ref 0), some (.ref 64), some (.ref 128), some (.int (Int32.ofNat (6 * j))), none, none, none], [], lh_E v1 v3 g7 g8 s0 s4 s5 s6 sR o n xs q)) lw_F_ok tk_law_h (by decide) rfl ⟨⟨hvI, lw_n45 hvI (by decide)⟩, w0, hg, trivial⟩ ?_
    exact lh_24_E P_24_E_E hj9 w1 w2 w3 w4 w5 hD hT hI hq KN KE
  · refine pm_Wx.path (k := 12) (ds := [0, 25]) (f' := (1522, [some (.ref 576), some (.ref 0), some (.ref 64), some (.ref 128), some (.int (Int32.ofNat (6 * j))), none, none, none], [], lh_E v1 v3 g7 g8 s0 s4 s5 s6 sR o n xs q)) lw_F_ok tk_law_h (by decide) rfl ⟨⟨hvI, lw_n45 hvI (by decide)⟩, w0, hg, trivial⟩ ?_
    exact lh_25_E P_25_E_E hj9 w1 w2 w3 w4 w5 hD hT hI hq KN KE
  · refine pm_Wx.path (k := 12) (ds := [0, 26]) (f' := (1590, [some (.ref 576), some (.ref 0), some (.ref 64), some (.ref 128), some (.int (Int32.ofNat (6 * j))), none, none, none], [], lh_E v1 v3 g7 g8 s0 s4 s5 s6 sR o n xs q)) lw_F_ok tk_law_h (by decide) rfl ⟨⟨hvI, lw_n45 hvI (by decide)⟩, w0, hg, trivial⟩ ?_
    exact lh_26_E P_26_E_E hj9 w1 w2 w3 w4 w5 hD hT hI hq KN KE
  · refine pm_Wx.path (k := 12) (ds := [0, 27]) (f' := (1658, [some (.ref 576), some (.ref 0), some (.ref 64), some (.ref 128), some (.int (Int32.ofNat (6 * j))), none, none, none], [], lh_E v1 v3 g7 g8 s0 s4 s5 s6 sR o n xs q)) lw_F_ok tk_law_h (by decide) rfl ⟨⟨hvI, lw_n45 hvI (by decide)⟩, w0, hg, trivial⟩ ?_
    exact lh_27_E P_27_E_E hj9 w1 w2 w3 w4 w5 hD hT hI hq KN KE
  · refine pm_Wx.path (k := 12) (ds := [0, 28]) (f' := (1671, [some (.ref 576), some (.ref 0), some (.ref 64), some (.ref 128), some (.int (Int32.ofNat (6 * j))), none, none, none], [], lh_E v1 v3 g7 g8 s0 s4 s5 s6 sR o n xs q)) lw_F_ok tk_law_h (by decide) rfl ⟨⟨hvI, lw_n45 hvI (by decide)⟩, w0, hg, trivial⟩ ?_
    exact lh_28_E P_28_E_E hj9 w1 w2 w3 w4 w5 hD hT hI hq KN KE
  · refine pm_Wx.path (k := 12) (ds := [0, 29]) (f' := (1684, [some (.ref 576), some (.ref 0), some (.ref 64), some (.ref 128), some (.int (Int32.ofNat (6 * j))), none, none, none], [], lh_E v1 v3 g7 g8 s0 s4 s5 s6 sR o n xs q)) lw_F_ok tk_law_h (by decide) rfl ⟨⟨hvI, lw_n45 hvI (by decide)⟩, w0, hg, trivial⟩ ?_
    exact lh_29_E P_29_E_E hj9 w1 w2 w3 w4 w5 hD hT hI hq KN KE
  · refine pm_Wx.path (k := 12) (ds := [0, 30]) (f' := (1697, [some (.ref 576), some (.ref 0), some (.ref 64), some (.ref 128), some (.int (Int32.ofNat (6 * j))), none, none, none], [], lh_E v1 v3 g7 g8 s0 s4 s5 s6 sR o n xs q)) lw_F_ok tk_law_h (by decide) rfl ⟨⟨hvI, lw_n45 hvI (by decide)⟩, w0, hg, trivial⟩ ?_
    exact lh_30_E P_30_E_E hj9 w1 w2 w3 w4 w5 hD hT hI hq KN KE
  · refine pm_Wx.path (k := 12) (ds := [0, 31]) (f' := (1753, [some (.ref 576), some (.ref 0), some (.ref 64), some (.ref 128), some (.int (Int32.ofNat (6 * j))), none, none, none], [], lh_E v1 v3 g7 g8 s0 s4 s5 s6 sR o n xs q)) lw_F_ok tk_law_h (by decide) rfl ⟨⟨hvI, lw_n45 hvI (by decide)⟩, w0, hg, trivial⟩ ?_
    exact lh_31_E P_31_E_E hj9 w1 w2 w3 w4 w5 hD hT hI hq KN KE
  · refine pm_Wx.path (k := 12) (ds := [0, 32]) (f' := (1809, [some (.ref 576), some (.ref 0), some (.ref 64), some (.ref 128), some (.int (Int32.ofNat (6 * j))), none, none, none], [], lh_E v1 v3 g7 g8 s0 s4 s5 s6 sR o n xs q)) lw_F_ok tk_law_h (by decide) rfl ⟨⟨hvI, lw_n45 hvI (by decide)⟩, w0, hg, trivial⟩ ?_
    exact lh_32_E P_32_E_E hj9 w1 w2 w3 w4 w5 hD hT hI hq KN KE
  · refine pm_Wx.path (k := 12) (ds := [0, 33]) (f' := (1865, [some (.ref 576), some (.ref 0), some (.ref 64), some (.ref 128), some (.int (Int32.ofNat (6 * j))), none, none, none], [], lh_E v1 v3 g7 g8 s0 s4 s5 s6 sR o n xs q)) lw_F_ok tk_law_h (by decide) rfl ⟨⟨hvI, lw_n45 hvI (by decide)⟩, w0, hg, trivial⟩ ?_
    exact lh_33_E P_33_E_E hj9 w1 w2 w3 w4 w5 hD hT hI hq KN KE
  · refine pm_Wx.path (k := 12) (ds := [0, 34]) (f' := (1921, [some (.ref 576), some (.ref 0), some (.ref 64), some (.ref 128), some (.int (Int32.ofNat (6 * j))), none, none, none], [], lh_E v1 v3 g7 g8 s0 s4 s5 s6 sR o n xs q)) lw_F_ok tk_law_h (by decide) rfl ⟨⟨hvI, lw_n45 hvI (by decide)⟩, w0, hg, trivial⟩ ?_
    exact lh_34_E P_34_E_E hj9 w1 w2 w3 w4 w5 hD hT hI hq KN KE
  · refine pm_Wx.path (k := 12) (ds := [0, 35]) (f' := (1977, [some (.ref 576), some (.ref 0), some (.ref 64), some (.ref 128), some (.int (Int32.ofNat (6 * j))), none, none, none], [], lh_E v1 v3 g7 g8 s0 s4 s5 s6 sR o n xs q)) lw_F_ok tk_law_h (by decide) rfl ⟨⟨hvI, lw_n45 hvI (by decide)⟩, w0, hg, trivial⟩ ?_
    exact lh_35_E P_35_E_E hj9 w1 w2 w3 w4 w5 hD hT hI hq KN KE
  · refine pm_Wx.path (k := 12) (ds := [0, 36]) (f' := (2033, [some (.ref 576), some (.ref 0), some (.ref 64), some (.ref 128), some (.int (Int32.ofNat (6 * j))), none, none, none], [], lh_E v1 v3 g7 g8 s0 s4 s5 s6 sR o n xs q)) lw_F_ok tk_law_h (by decide) rfl ⟨⟨hvI, lw_n45 hvI (by decide)⟩, w0, hg, trivial⟩ ?_
    exact lh_36_E P_36_E_E hj9 w1 w2 w3 w4 w5 hD hT hI hq KN KE
  · refine pm_Wx.path (k := 12) (ds := [0, 37]) (f' := (2089, [some (.ref 576), some (.ref 0), some (.ref 64), some (.ref 128), some (.int (Int32.ofNat (6 * j))), none, none, none], [], lh_E v1 v3 g7 g8 s0 s4 s5 s6 sR o n xs q)) lw_F_ok tk_law_h (by decide) rfl ⟨⟨hvI, lw_n45 hvI (by decide)⟩, w0, hg, trivial⟩ ?_
    exact lh_37_E P_37_E_E hj9 w1 w2 w3 w4 w5 hD hT hI hq KN KE
  · refine pm_Wx.path (k := 12) (ds := [0, 38]) (f' := (2164, [some (.ref 576), some (.ref 0), some (.ref 64), some (.ref 128), some (.int (Int32.ofNat (6 * j))), none, none, none], [], lh_E v1 v3 g7 g8 s0 s4 s5 s6 sR o n xs q)) lw_F_ok tk_law_h (by decide) rfl ⟨⟨hvI, lw_n45 hvI (by decide)⟩, w0, hg, trivial⟩ ?_
    exact lh_38_E P_38_E_E hj9 w1 w2 w3 w4 w5 hD hT hI hq KN KE
  · refine pm_Wx.path (k := 12) (ds := [0, 39]) (f' := (2177, [some (.ref 576), some (.ref 0), some (.ref 64), some (.ref 128), some (.int (Int32.ofNat (6 * j))), none, none, none], [], lh_E v1 v3 g7 g8 s0 s4 s5 s6 sR o n xs q)) lw_F_ok tk_law_h (by decide) rfl ⟨⟨hvI, lw_n45 hvI (by decide)⟩, w0, hg, trivial⟩ ?_
    exact lh_39_E P_39_E_E hj9 w1 w2 w3 w4 w5 hD hT hI hq KN KE
  · refine pm_Wx.path (k := 12) (ds := [0, 40]) (f' := (2190, [some (.ref 576), some (.ref 0), some (.ref 64), some (.ref 128), some (.int (Int32.ofNat (6 * j))), none, none, none], [], lh_E v1 v3 g7 g8 s0 s4 s5 s6 sR o n xs q)) lw_F_ok tk_law_h (by decide) rfl ⟨⟨hvI, lw_n45 hvI (by decide)⟩, w0, hg, trivial⟩ ?_
    exact lh_40_E P_40_E_E hj9 w1 w2 w3 w4 w5 hD hT hI hq KN KE
  · refine pm_Wx.path (k := 12) (ds := [0, 41]) (f' := (2203, [some (.ref 576), some (.ref 0), some (.ref 64), some (.ref 128), some (.int (Int32.ofNat (6 * j))), none, none, none], [], lh_E v1 v3 g7 g8 s0 s4 s5 s6 sR o n xs q)) lw_F_ok tk_law_h (by decide) rfl ⟨⟨hvI, lw_n45 hvI (by decide)⟩, w0, hg, trivial⟩ ?_
    exact lh_41_E P_41_E_E hj9 w1 w2 w3 w4 w5 hD hT hI hq KN KE
  · refine pm_Wx.path (k := 12) (ds := [0, 42]) (f' := (2216, [some (.ref 576), some (.ref 0), some (.ref 64), some (.ref 128), some (.int (Int32.ofNat (6 * j))), none, none, none], [], lh_E v1 v3 g7 g8 s0 s4 s5 s6 sR o n xs q)) lw_F_ok tk_law_h (by decide) rfl ⟨⟨hvI, lw_n45 hvI (by decide)⟩, w0, hg, trivial⟩ ?_
    exact lh_42_E P_42_E_E hj9 w1 w2 w3 w4 w5 hD hT hI hq KN KE
  · refine pm_Wx.path (k := 12) (ds := [0, 43]) (f' := (2229, [some (.ref 576), some (.ref 0), some (.ref 64), some (.ref 128), some (.int (Int32.ofNat (6 * j))), none, none, none], [], lh_E v1 v3 g7 g8 s0 s4 s5 s6 sR o n xs q)) lw_F_ok tk_law_h (by decide) rfl ⟨⟨hvI, lw_n45 hvI (by decide)⟩, w0, hg, trivial⟩ ?_
    exact lh_43_E P_43_E_E hj9 w1 w2 w3 w4 w5 hD hT hI hq KN KE
  · refine pm_Wx.path (k := 12) (ds := [0, 44]) (f' := (2285, [some (.ref 576), some (.ref 0), some (.ref 64), some (.ref 128), some (.int (Int32.ofNat (6 * j))), none, none, none], [], lh_E v1 v3 g7 g8 s0 s4 s5 s6 sR o n xs q)) lw_F_ok tk_law_h (by decide) rfl ⟨⟨hvI, lw_n45 hvI (by decide)⟩, w0, hg, trivial⟩ ?_
    exact lh_44_E P_44_E_E P_44_E_T hj9 w1 w2 w3 w4 w5 hD hT hI hq KN KE
  · refine pm_Wx.path (k := 12) (ds := [0, 45]) (f' := (2298, [some (.ref 576), some (.ref 0), some (.ref 64), some (.ref 128), some (.int (Int32.ofNat (6 * j))), none, none, none], [], lh_E v1 v3 g7 g8 s0 s4 s5 s6 sR o n xs q)) lw_F_ok tk_law_h (by decide) rfl ⟨⟨hvI, lw_n45 hvI (by decide)⟩, w0, hg, trivial⟩ ?_
    exact lh_45_E P_45_E_E hj9 w1 w2 w3 w4 w5 hD hT hI hq KN KE
  · refine pm_Wx.path (k := 14) (ds := [0, 46]) (f' := (23, [some (.ref 576), some (.ref 0), some (.ref 64), some (.ref 128), some (.int (Int32.ofNat (6 * j) + 6)), none, none, none], [], lh_E v1 v3 g7 g8 s0 s4 s5 s6 sR o n xs q)) lw_F_ok tk_law_h (by decide) rfl ⟨Or.inr (lw_d45 hvI hv46), w0, hg, trivial⟩ ?_
    exact KE _ _ _ _ _ _ _ _ _ _ _ _ _ hD hT (P_skip.2 _ _ _ _ _ _ hj9 hI) ⟨by have := hq.1; omega, by have := hq.2; omega⟩

theorem lw_loop {IN : t_IN} {IE : t_IE} (PA : ps_all IN IE) {n : Nat} {xs : Nat → Int32} (hn : n ≤ 3072) : ∀ (k j : Nat), n < 6 * j + 6 * k + 6 → 6 * j ≤ n → lh_KN IN j n xs (Int32.ofNat (6 * j)) ∧ lh_KE IE j n xs (Int32.ofNat (6 * j)) := by
  intro k
  induction k with
  | zero =>
    intro j hk hj
    refine ⟨fun s0 sR o q hI hq => lw_endN hn hj (by omega) ?_ ?_, fun v1 v3 g7 g8 w1 w3 s0 s4 s5 s6 sR o q hD hT hI hq => lw_endE hn hj (by omega) ?_ ?_⟩
    · have := hq.1; omega
    · have := hq.2; omega
    · have := hq.1; omega
    · have h9 := hq.2
      have a1 : w1 ≤ 700 := by rcases hD with ⟨_, _, z⟩ | ⟨_, z, _⟩ <;> omega
      have a3 : w3 ≤ 21000 := by rcases hT with ⟨_, _, z⟩ | ⟨_, z, _⟩ <;> omega
      omega
  | succ k ih =>
    intro j hk hj
    by_cases he : n < 6 * j + 6
    · refine ⟨fun s0 sR o q hI hq => lw_endN hn hj he ?_ ?_, fun v1 v3 g7 g8 w1 w3 s0 s4 s5 s6 sR o q hD hT hI hq => lw_endE hn hj he ?_ ?_⟩
      · have := hq.1; omega
      · have := hq.2; omega
      · have := hq.1; omega
      · have h9 := hq.2
        have a1 : w1 ≤ 700 := by rcases hD with ⟨_, _, z⟩ | ⟨_, z, _⟩ <;> omega
        have a3 : w3 ≤ 21000 := by rcases hT with ⟨_, _, z⟩ | ⟨_, z, _⟩ <;> omega
        omega
    · obtain ⟨KN, KE⟩ := ih (j + 1) (by omega) (by omega)
      rw [← lw_i6] at KN KE
      exact ⟨fun s0 sR o q hI hq => lw_turnN PA hn (by omega) hI hq KN KE, fun v1 v3 g7 g8 w1 w3 s0 s4 s5 s6 sR o q hD hT hI hq => lw_turnE PA hn (by omega) hD hT hI hq KN KE⟩
