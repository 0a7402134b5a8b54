/-! One turn of the law's loop, case by case (wip/whole/dect.py). -/
set_option maxRecDepth 20000 in
set_option maxHeartbeats 20000000 in
theorem lh_0_N {IN : t_IN} {IE : t_IE} {j n : Nat} {xs : Nat → Int32} {i : Int32} {sR : mo_S} {o : Nat → Int64} {q : Nat × Nat × Nat} {s0 : cs_S} (PA : ps_0_N_A IN IE) (hj : j < 512) (w1 : vp_in (i + 1) n) (w2 : vp_in (i + 2) n) (w3 : vp_in (i + 3) n) (w4 : vp_in (i + 4) n) (w5 : vp_in (i + 5) n) (hI : IN j s0 sR) (hq : b_q j 0 q) (KN : lh_KN IN (j + 1) n xs (i + 6)) (KE : lh_KE IE (j + 1) n xs (i + 6)) : pm_Wx 338 13 lw_F 601024 7293034 (240, [some (.ref 576), some (.ref 0), some (.ref 64), some (.ref 128), some (.int i), none, none, none], [], lh_N s0 sR o n xs q) := by
  obtain ⟨hq1, hq2⟩ := hq
  rcases PA j s0 sR (xs (Int32.toNatClampNeg (i + 1))) (xs (Int32.toNatClampNeg (i + 2))) (xs (Int32.toNatClampNeg (i + 3))) (xs (Int32.toNatClampNeg (i + 4))) (xs (Int32.toNatClampNeg (i + 5))) hj hI with ⟨r, z0, sR1, H, HM, HT, I1⟩ | ⟨b, z0, sR1, H, HM, HT, I1⟩
  · refine lc_0_A w1 w2 w3 w4 w5 H HM HT ?_
    exact KN _ _ _ _ I1 ⟨by (try dsimp only); omega, by (try dsimp only); omega⟩
  · refine lc_0_A_t0 w1 w2 w3 w4 w5 H HM HT ?_
    exact KN _ _ _ _ I1 ⟨by (try dsimp only); omega, by (try dsimp only); omega⟩

set_option maxRecDepth 20000 in
set_option maxHeartbeats 20000000 in
theorem lh_0_E {IN : t_IN} {IE : t_IE} {j n : Nat} {xs : Nat → Int32} {i : Int32} {sR : mo_S} {o : Nat → Int64} {q : Nat × Nat × Nat} {v1 v3 : Value} {g7 g8 : List pm_E} {u1 u3 : Nat} {s0 s4 s5 s6 : cs_S} (PA : ps_0_E_A IN IE) (hj : j < 512) (w1 : vp_in (i + 1) n) (w2 : vp_in (i + 2) n) (w3 : vp_in (i + 3) n) (w4 : vp_in (i + 4) n) (w5 : vp_in (i + 5) n) (hD : ok_D v1 g8 u1) (hT : ok_T v3 g7 u3) (hI : IE j s0 s4 s5 s6 sR) (hq : b_q j (21000 + u1 + u3) q) (KN : lh_KN IN (j + 1) n xs (i + 6)) (KE : lh_KE IE (j + 1) n xs (i + 6)) : pm_Wx 338 13 lw_F 601024 7293034 (240, [some (.ref 576), some (.ref 0), some (.ref 64), some (.ref 128), some (.int i), none, none, none], [], lh_E v1 v3 g7 g8 s0 s4 s5 s6 sR o n xs q) := by
  obtain ⟨hq1, hq2⟩ := hq
  rcases PA j s0 s4 s5 s6 sR (xs (Int32.toNatClampNeg (i + 1))) (xs (Int32.toNatClampNeg (i + 2))) (xs (Int32.toNatClampNeg (i + 3))) (xs (Int32.toNatClampNeg (i + 4))) (xs (Int32.toNatClampNeg (i + 5))) hj hI with ⟨r, z0, sR1, H, HM, HT, I1⟩ | ⟨b, z0, sR1, H, HM, HT, I1⟩
  · refine lc_0_A w1 w2 w3 w4 w5 H HM HT ?_
    exact KE _ _ _ _ _ _ _ _ _ _ _ _ _ hD hT I1 ⟨by (try dsimp only); omega, by (try dsimp only); omega⟩
  · refine lc_0_A_t0 w1 w2 w3 w4 w5 H HM HT ?_
    exact KE _ _ _ _ _ _ _ _ _ _ _ _ _ hD hT I1 ⟨by (try dsimp only); omega, by (try dsimp only); omega⟩

set_option maxRecDepth 20000 in
set_option maxHeartbeats 20000000 in
theorem lh_1_N {IN : t_IN} {IE : t_IE} {j n : Nat} {xs : Nat → Int32} {i : Int32} {sR : mo_S} {o : Nat → Int64} {q : Nat × Nat × Nat} {s0 : cs_S} (PN : ps_1_N_N IN IE) (hj : j < 512) (w1 : vp_in (i + 1) n) (w2 : vp_in (i + 2) n) (w3 : vp_in (i + 3) n) (w4 : vp_in (i + 4) n) (w5 : vp_in (i + 5) n) (hI : IN j s0 sR) (hq : b_q j 0 q) (KN : lh_KN IN (j + 1) n xs (i + 6)) (KE : lh_KE IE (j + 1) n xs (i + 6)) : pm_Wx 338 13 lw_F 601024 7293034 (344, [some (.ref 576), some (.ref 0), some (.ref 64), some (.ref 128), some (.int i), none, none, none], [], lh_N s0 sR o n xs q) := by
  obtain ⟨hq1, hq2⟩ := hq
  rcases PN j s0 sR (xs (Int32.toNatClampNeg (i + 1))) hj hI with ⟨r, z0, z3, z5, z6, sR1, H, HM, HT, I1⟩ | ⟨b, z0, z3, z5, z6, sR1, H, HM, HT, I1⟩ | ⟨b, z0, z3, z5, z6, sR1, H, HM, HT, I1⟩
  · refine lc_1_N w1 H HM HT ?_
    refine pm_Wx.ren (p := fun i => rn_1 (i / 64) * 64 + i % 64) (J := rn_J (.float 1) (.float 2)) (l' := (lh_E .null .null [] [] z0 z3 z5 z6 sR1 (vp_updL o (Int32.toNatClampNeg 0) (Int32.toInt64 r)) n xs (0, 0, 0)).1) lw_F_c ?_ (rn_J0 _ _) (rn_Jok (Or.inl rfl) (Or.inl rfl)) rfl (rn_loc rfl rfl rfl rfl rfl rfl rfl rfl) (KE .null .null [] [] 0 0 z0 z3 z5 z6 sR1 _ _ (Or.inl ⟨rfl, rfl, rfl⟩) (Or.inl ⟨rfl, rfl, rfl⟩) I1 ⟨by (try dsimp only [cl_h]); omega, by (try dsimp only [cl_h]); omega⟩)
    exact rn_cl (fun _ => rfl) (rn_ten (by first | exact Or.inl rfl | exact Or.inr rfl) (by first | exact Or.inl rfl | exact Or.inr rfl) (by first | exact Or.inl rfl | exact Or.inr rfl) (by first | exact Or.inl rfl | exact Or.inr rfl) (by first | exact Or.inl rfl | exact Or.inr rfl) (by first | exact Or.inl rfl | exact Or.inr rfl) (by first | exact Or.inl rfl | exact Or.inr rfl) (by first | exact Or.inl rfl | exact Or.inr rfl) (by first | exact Or.inl rfl | exact Or.inr rfl) (by first | exact Or.inl rfl | exact Or.inr rfl) (fun g hg => Or.inl (rn_far hg))) (rn_i1 rfl) (rn_ten rfl rfl rfl rfl rfl rfl rfl rfl rfl rfl (fun g hg => rn_allf hg))
  · refine lc_1_N_t0 w1 H HM HT ?_
    refine pm_Wx.ren (p := fun i => id (i / 64) * 64 + i % 64) (J := rn_J (.float 1) (.float 2)) (l' := (lh_N z0 sR1 o n xs (0, 0, 0)).1) lw_F_c ?_ (rn_J0 _ _) (rn_Jok (Or.inl rfl) (Or.inl rfl)) rfl (rn_loc rfl rfl rfl rfl rfl rfl rfl rfl) (KN z0 sR1 _ _ I1 ⟨by (try dsimp only [cl_h]); omega, by (try dsimp only [cl_h]); omega⟩)
    exact rn_cl (fun _ => rfl) (rn_ten (by first | exact Or.inl rfl | exact Or.inr rfl) (by first | exact Or.inl rfl | exact Or.inr rfl) (by first | exact Or.inl rfl | exact Or.inr rfl) (by first | exact Or.inl rfl | exact Or.inr rfl) (by first | exact Or.inl rfl | exact Or.inr rfl) (by first | exact Or.inl rfl | exact Or.inr rfl) (by first | exact Or.inl rfl | exact Or.inr rfl) (by first | exact Or.inl rfl | exact Or.inr rfl) (by first | exact Or.inl rfl | exact Or.inr rfl) (by first | exact Or.inl rfl | exact Or.inr rfl) (fun g hg => Or.inl (rn_far hg))) (fun _ _ _ _ e => e) (rn_ten rfl rfl rfl rfl rfl rfl rfl rfl rfl rfl (fun g hg => rn_allf hg))
  · refine lc_1_N_t1 w1 H HM HT ?_
    exact KN _ _ _ _ I1 ⟨by (try dsimp only); omega, by (try dsimp only); omega⟩

set_option maxRecDepth 20000 in
set_option maxHeartbeats 20000000 in
theorem lh_1_E {IN : t_IN} {IE : t_IE} {j n : Nat} {xs : Nat → Int32} {i : Int32} {sR : mo_S} {o : Nat → Int64} {q : Nat × Nat × Nat} {v1 v3 : Value} {g7 g8 : List pm_E} {u1 u3 : Nat} {s0 s4 s5 s6 : cs_S} (PE : ps_1_E_E IN IE) (hj : j < 512) (w1 : vp_in (i + 1) n) (w2 : vp_in (i + 2) n) (w3 : vp_in (i + 3) n) (w4 : vp_in (i + 4) n) (w5 : vp_in (i + 5) n) (hD : ok_D v1 g8 u1) (hT : ok_T v3 g7 u3) (hI : IE j s0 s4 s5 s6 sR) (hq : b_q j (21000 + u1 + u3) q) (KN : lh_KN IN (j + 1) n xs (i + 6)) (KE : lh_KE IE (j + 1) n xs (i + 6)) : pm_Wx 338 13 lw_F 601024 7293034 (344, [some (.ref 576), some (.ref 0), some (.ref 64), some (.ref 128), some (.int i), none, none, none], [], lh_E v1 v3 g7 g8 s0 s4 s5 s6 sR o n xs q) := by
  obtain ⟨hq1, hq2⟩ := hq
  rcases PE j s0 s4 s5 s6 sR (xs (Int32.toNatClampNeg (i + 1))) hj hI with ⟨r, z0, z3, z5, z6, sR1, H, HM, HT, I1⟩ | ⟨b, z0, z3, z5, z6, sR1, H, HM, HT, I1⟩ | ⟨b, z0, z3, z5, z6, sR1, H, HM, HT, I1⟩
  · refine lc_1_E w1 H HM HT ?_
    have hD9 := hD
    have hT9 := hT
    rcases hD with ⟨rfl, rfl, rfl⟩ | ⟨rfl, rfl, s8, rfl⟩
    · rcases hT with ⟨rfl, rfl, rfl⟩ | ⟨rfl, rfl, s7, rfl⟩
      · refine pm_Wx.ren (p := fun i => rn_1 (i / 64) * 64 + i % 64) (J := rn_J (.float 1) (.float 2)) (l' := (lh_E _ _ _ _ z0 z3 z5 z6 sR1 (vp_updL o (Int32.toNatClampNeg 0) (Int32.toInt64 r)) n xs (0, 0, 0)).1) lw_F_c ?_ (rn_J0 _ _) (rn_Jok (Or.inl rfl) (Or.inl rfl)) rfl (rn_loc rfl rfl rfl rfl rfl rfl rfl rfl) (KE _ _ _ _ _ _ z0 z3 z5 z6 sR1 _ _ hD9 hT9 I1 ⟨by (try dsimp only [cl_h]); omega, by (try dsimp only [cl_h]); omega⟩)
        exact rn_cl (fun _ => rfl) (rn_ten (by first | exact Or.inl rfl | exact Or.inr rfl) (by first | exact Or.inl rfl | exact Or.inr rfl) (by first | exact Or.inl rfl | exact Or.inr rfl) (by first | exact Or.inl rfl | exact Or.inr rfl) (by first | exact Or.inl rfl | exact Or.inr rfl) (by first | exact Or.inl rfl | exact Or.inr rfl) (by first | exact Or.inl rfl | exact Or.inr rfl) (by first | exact Or.inl rfl | exact Or.inr rfl) (by first | exact Or.inl rfl | exact Or.inr rfl) (by first | exact Or.inl rfl | exact Or.inr rfl) (fun g hg => Or.inl (rn_far hg))) (rn_i1 rfl) (rn_ten rfl rfl rfl rfl rfl rfl rfl rfl rfl rfl (fun g hg => rn_allf hg))
      · refine pm_Wx.ren (p := fun i => rn_1 (i / 64) * 64 + i % 64) (J := rn_J (.float 1) (.float 2)) (l' := (lh_E _ _ _ _ z0 z3 z5 z6 sR1 (vp_updL o (Int32.toNatClampNeg 0) (Int32.toInt64 r)) n xs (0, 0, 0)).1) lw_F_c ?_ (rn_J0 _ _) (rn_Jok (Or.inl rfl) (Or.inl rfl)) rfl (rn_loc rfl rfl rfl rfl rfl rfl rfl rfl) (KE _ _ _ _ _ _ z0 z3 z5 z6 sR1 _ _ hD9 hT9 I1 ⟨by (try dsimp only [cl_h]); omega, by (try dsimp only [cl_h]); omega⟩)
        exact rn_cl (fun _ => rfl) (rn_ten (by first | exact Or.inl rfl | exact Or.inr rfl) (by first | exact Or.inl rfl | exact Or.inr rfl) (by first | exact Or.inl rfl | exact Or.inr rfl) (by first | exact Or.inl rfl | exact Or.inr rfl) (by first | exact Or.inl rfl | exact Or.inr rfl) (by first | exact Or.inl rfl | exact Or.inr rfl) (by first | exact Or.inl rfl | exact Or.inr rfl) (by first | exact Or.inl rfl | exact Or.inr rfl) (by first | exact Or.inl rfl | exact Or.inr rfl) (by first | exact Or.inl rfl | exact Or.inr rfl) (fun g hg => Or.inl (rn_far hg))) (rn_i1 rfl) (rn_ten rfl rfl rfl rfl rfl rfl rfl rfl rfl rfl (fun g hg => rn_allf hg))
    · rcases hT with ⟨rfl, rfl, rfl⟩ | ⟨rfl, rfl, s7, rfl⟩
      · refine pm_Wx.ren (p := fun i => rn_1 (i / 64) * 64 + i % 64) (J := rn_J (.float 1) (.float 2)) (l' := (lh_E _ _ _ _ z0 z3 z5 z6 sR1 (vp_updL o (Int32.toNatClampNeg 0) (Int32.toInt64 r)) n xs (0, 0, 0)).1) lw_F_c ?_ (rn_J0 _ _) (rn_Jok (Or.inl rfl) (Or.inl rfl)) rfl (rn_loc rfl rfl rfl rfl rfl rfl rfl rfl) (KE _ _ _ _ _ _ z0 z3 z5 z6 sR1 _ _ hD9 hT9 I1 ⟨by (try dsimp only [cl_h]); omega, by (try dsimp only [cl_h]); omega⟩)
        exact rn_cl (fun _ => rfl) (rn_ten (by first | exact Or.inl rfl | exact Or.inr rfl) (by first | exact Or.inl rfl | exact Or.inr rfl) (by first | exact Or.inl rfl | exact Or.inr rfl) (by first | exact Or.inl rfl | exact Or.inr rfl) (by first | exact Or.inl rfl | exact Or.inr rfl) (by first | exact Or.inl rfl | exact Or.inr rfl) (by first | exact Or.inl rfl | exact Or.inr rfl) (by first | exact Or.inl rfl | exact Or.inr rfl) (by first | exact Or.inl rfl | exact Or.inr rfl) (by first | exact Or.inl rfl | exact Or.inr rfl) (fun g hg => Or.inl (rn_far hg))) (rn_i1 rfl) (rn_ten rfl rfl rfl rfl rfl rfl rfl rfl rfl rfl (fun g hg => rn_allf hg))
      · refine pm_Wx.ren (p := fun i => rn_1 (i / 64) * 64 + i % 64) (J := rn_J (.float 1) (.float 2)) (l' := (lh_E _ _ _ _ z0 z3 z5 z6 sR1 (vp_updL o (Int32.toNatClampNeg 0) (Int32.toInt64 r)) n xs (0, 0, 0)).1) lw_F_c ?_ (rn_J0 _ _) (rn_Jok (Or.inl rfl) (Or.inl rfl)) rfl (rn_loc rfl rfl rfl rfl rfl rfl rfl rfl) (KE _ _ _ _ _ _ z0 z3 z5 z6 sR1 _ _ hD9 hT9 I1 ⟨by (try dsimp only [cl_h]); omega, by (try dsimp only [cl_h]); omega⟩)
        exact rn_cl (fun _ => rfl) (rn_ten (by first | exact Or.inl rfl | exact Or.inr rfl) (by first | exact Or.inl rfl | exact Or.inr rfl) (by first | exact Or.inl rfl | exact Or.inr rfl) (by first | exact Or.inl rfl | exact Or.inr rfl) (by first | exact Or.inl rfl | exact Or.inr rfl) (by first | exact Or.inl rfl | exact Or.inr rfl) (by first | exact Or.inl rfl | exact Or.inr rfl) (by first | exact Or.inl rfl | exact Or.inr rfl) (by first | exact Or.inl rfl | exact Or.inr rfl) (by first | exact Or.inl rfl | exact Or.inr rfl) (fun g hg => Or.inl (rn_far hg))) (rn_i1 rfl) (rn_ten rfl rfl rfl rfl rfl rfl rfl rfl rfl rfl (fun g hg => rn_allf hg))
  · refine lc_1_E_t0 w1 H HM HT ?_
    have hD9 := hD
    have hT9 := hT
    rcases hD with ⟨rfl, rfl, rfl⟩ | ⟨rfl, rfl, s8, rfl⟩
    · rcases hT with ⟨rfl, rfl, rfl⟩ | ⟨rfl, rfl, s7, rfl⟩
      · refine pm_Wx.ren (p := fun i => id (i / 64) * 64 + i % 64) (J := rn_J (.float 1) (.float 2)) (l' := (lh_E _ _ _ _ z0 s4 z5 z6 sR1 o n xs (0, 0, 0)).1) lw_F_c ?_ (rn_J0 _ _) (rn_Jok (Or.inl rfl) (Or.inl rfl)) rfl (rn_loc rfl rfl rfl rfl rfl rfl rfl rfl) (KE _ _ _ _ _ _ z0 s4 z5 z6 sR1 _ _ hD9 hT9 I1 ⟨by (try dsimp only [cl_h]); omega, by (try dsimp only [cl_h]); omega⟩)
        exact rn_cl (fun _ => rfl) (rn_ten (by first | exact Or.inl rfl | exact Or.inr rfl) (by first | exact Or.inl rfl | exact Or.inr rfl) (by first | exact Or.inl rfl | exact Or.inr rfl) (by first | exact Or.inl rfl | exact Or.inr rfl) (by first | exact Or.inl rfl | exact Or.inr rfl) (by first | exact Or.inl rfl | exact Or.inr rfl) (by first | exact Or.inl rfl | exact Or.inr rfl) (by first | exact Or.inl rfl | exact Or.inr rfl) (by first | exact Or.inl rfl | exact Or.inr rfl) (by first | exact Or.inl rfl | exact Or.inr rfl) (fun g hg => Or.inl (rn_far hg))) (fun _ _ _ _ e => e) (rn_ten rfl rfl rfl rfl rfl rfl rfl rfl rfl rfl (fun g hg => rn_allf hg))
      · refine pm_Wx.ren (p := fun i => id (i / 64) * 64 + i % 64) (J := rn_J (.float 1) (.float 2)) (l' := (lh_E _ _ _ _ z0 s4 z5 z6 sR1 o n xs (0, 0, 0)).1) lw_F_c ?_ (rn_J0 _ _) (rn_Jok (Or.inl rfl) (Or.inl rfl)) rfl (rn_loc rfl rfl rfl rfl rfl rfl rfl rfl) (KE _ _ _ _ _ _ z0 s4 z5 z6 sR1 _ _ hD9 hT9 I1 ⟨by (try dsimp only [cl_h]); omega, by (try dsimp only [cl_h]); omega⟩)
        exact rn_cl (fun _ => rfl) (rn_ten (by first | exact Or.inl rfl | exact Or.inr rfl) (by first | exact Or.inl rfl | exact Or.inr rfl) (by first | exact Or.inl rfl | exact Or.inr rfl) (by first | exact Or.inl rfl | exact Or.inr rfl) (by first | exact Or.inl rfl | exact Or.inr rfl) (by first | exact Or.inl rfl | exact Or.inr rfl) (by first | exact Or.inl rfl | exact Or.inr rfl) (by first | exact Or.inl rfl | exact Or.inr rfl) (by first | exact Or.inl rfl | exact Or.inr rfl) (by first | exact Or.inl rfl | exact Or.inr rfl) (fun g hg => Or.inl (rn_far hg))) (fun _ _ _ _ e => e) (rn_ten rfl rfl rfl rfl rfl rfl rfl rfl rfl rfl (fun g hg => rn_allf hg))
    · rcases hT with ⟨rfl, rfl, rfl⟩ | ⟨rfl, rfl, s7, rfl⟩
      · refine pm_Wx.ren (p := fun i => id (i / 64) * 64 + i % 64) (J := rn_J (.float 1) (.float 2)) (l' := (lh_E _ _ _ _ z0 s4 z5 z6 sR1 o n xs (0, 0, 0)).1) lw_F_c ?_ (rn_J0 _ _) (rn_Jok (Or.inl rfl) (Or.inl rfl)) rfl (rn_loc rfl rfl rfl rfl rfl rfl rfl rfl) (KE _ _ _ _ _ _ z0 s4 z5 z6 sR1 _ _ hD9 hT9 I1 ⟨by (try dsimp only [cl_h]); omega, by (try dsimp only [cl_h]); omega⟩)
        exact rn_cl (fun _ => rfl) (rn_ten (by first | exact Or.inl rfl | exact Or.inr rfl) (by first | exact Or.inl rfl | exact Or.inr rfl) (by first | exact Or.inl rfl | exact Or.inr rfl) (by first | exact Or.inl rfl | exact Or.inr rfl) (by first | exact Or.inl rfl | exact Or.inr rfl) (by first | exact Or.inl rfl | exact Or.inr rfl) (by first | exact Or.inl rfl | exact Or.inr rfl) (by first | exact Or.inl rfl | exact Or.inr rfl) (by first | exact Or.inl rfl | exact Or.inr rfl) (by first | exact Or.inl rfl | exact Or.inr rfl) (fun g hg => Or.inl (rn_far hg))) (fun _ _ _ _ e => e) (rn_ten rfl rfl rfl rfl rfl rfl rfl rfl rfl rfl (fun g hg => rn_allf hg))
      · refine pm_Wx.ren (p := fun i => id (i / 64) * 64 + i % 64) (J := rn_J (.float 1) (.float 2)) (l' := (lh_E _ _ _ _ z0 s4 z5 z6 sR1 o n xs (0, 0, 0)).1) lw_F_c ?_ (rn_J0 _ _) (rn_Jok (Or.inl rfl) (Or.inl rfl)) rfl (rn_loc rfl rfl rfl rfl rfl rfl rfl rfl) (KE _ _ _ _ _ _ z0 s4 z5 z6 sR1 _ _ hD9 hT9 I1 ⟨by (try dsimp only [cl_h]); omega, by (try dsimp only [cl_h]); omega⟩)
        exact rn_cl (fun _ => rfl) (rn_ten (by first | exact Or.inl rfl | exact Or.inr rfl) (by first | exact Or.inl rfl | exact Or.inr rfl) (by first | exact Or.inl rfl | exact Or.inr rfl) (by first | exact Or.inl rfl | exact Or.inr rfl) (by first | exact Or.inl rfl | exact Or.inr rfl) (by first | exact Or.inl rfl | exact Or.inr rfl) (by first | exact Or.inl rfl | exact Or.inr rfl) (by first | exact Or.inl rfl | exact Or.inr rfl) (by first | exact Or.inl rfl | exact Or.inr rfl) (by first | exact Or.inl rfl | exact Or.inr rfl) (fun g hg => Or.inl (rn_far hg))) (fun _ _ _ _ e => e) (rn_ten rfl rfl rfl rfl rfl rfl rfl rfl rfl rfl (fun g hg => rn_allf hg))
  · refine lc_1_E_t1 w1 H HM HT ?_
    exact KE _ _ _ _ _ _ _ _ _ _ _ _ _ hD hT I1 ⟨by (try dsimp only); omega, by (try dsimp only); omega⟩

set_option maxRecDepth 20000 in
set_option maxHeartbeats 20000000 in
theorem lh_2_N {IN : t_IN} {IE : t_IE} {j n : Nat} {xs : Nat → Int32} {i : Int32} {sR : mo_S} {o : Nat → Int64} {q : Nat × Nat × Nat} {s0 : cs_S} (PN : ps_2_N_N IN IE) (hj : j < 512) (w1 : vp_in (i + 1) n) (w2 : vp_in (i + 2) n) (w3 : vp_in (i + 3) n) (w4 : vp_in (i + 4) n) (w5 : vp_in (i + 5) n) (hI : IN j s0 sR) (hq : b_q j 0 q) (KN : lh_KN IN (j + 1) n xs (i + 6)) (KE : lh_KE IE (j + 1) n xs (i + 6)) : pm_Wx 338 13 lw_F 601024 7293034 (400, [some (.ref 576), some (.ref 0), some (.ref 64), some (.ref 128), some (.int i), none, none, none], [], lh_N s0 sR o n xs q) := by
  obtain ⟨hq1, hq2⟩ := hq
  rcases PN j s0 sR (xs (Int32.toNatClampNeg (i + 1))) hj hI with ⟨b, z0, sR1, H, HM, HT, I1⟩ | ⟨b, z0, sR1, H, HM, HT, I1⟩
  · refine lc_2_N_t0 w1 H HM HT ?_
    exact KN _ _ _ _ I1 ⟨by (try dsimp only); omega, by (try dsimp only); omega⟩
  · refine lc_2_N_t1 w1 H HM HT ?_
    exact KN _ _ _ _ I1 ⟨by (try dsimp only); omega, by (try dsimp only); omega⟩

set_option maxRecDepth 20000 in
set_option maxHeartbeats 20000000 in
theorem lh_2_E {IN : t_IN} {IE : t_IE} {j n : Nat} {xs : Nat → Int32} {i : Int32} {sR : mo_S} {o : Nat → Int64} {q : Nat × Nat × Nat} {v1 v3 : Value} {g7 g8 : List pm_E} {u1 u3 : Nat} {s0 s4 s5 s6 : cs_S} (PE : ps_2_E_E IN IE) (PD : ps_2_E_D IN IE) (hj : j < 512) (w1 : vp_in (i + 1) n) (w2 : vp_in (i + 2) n) (w3 : vp_in (i + 3) n) (w4 : vp_in (i + 4) n) (w5 : vp_in (i + 5) n) (hD : ok_D v1 g8 u1) (hT : ok_T v3 g7 u3) (hI : IE j s0 s4 s5 s6 sR) (hq : b_q j (21000 + u1 + u3) q) (KN : lh_KN IN (j + 1) n xs (i + 6)) (KE : lh_KE IE (j + 1) n xs (i + 6)) : pm_Wx 338 13 lw_F 601024 7293034 (400, [some (.ref 576), some (.ref 0), some (.ref 64), some (.ref 128), some (.int i), none, none, none], [], lh_E v1 v3 g7 g8 s0 s4 s5 s6 sR o n xs q) := by
  obtain ⟨hq1, hq2⟩ := hq
  rcases hD with ⟨rfl, rfl, rfl⟩ | ⟨rfl, rfl, s8, rfl⟩
  · rcases PE j s0 s4 s5 s6 sR (xs (Int32.toNatClampNeg (i + 1))) hj hI with ⟨r, z0, z5, z8, sR1, H, HM, HT, I1⟩ | ⟨b, z0, z5, z8, sR1, H, HM, HT, I1⟩ | ⟨b, z0, z5, z8, sR1, H, HM, HT, I1⟩
    · refine lc_2_E w1 H HM HT ?_
      have hT9 := hT
      rcases hT with ⟨rfl, rfl, rfl⟩ | ⟨rfl, rfl, s7, rfl⟩
      · refine pm_Wx.ren (p := fun i => rn_2 (i / 64) * 64 + i % 64) (J := rn_J (.float 1) (.float 2)) (l' := (lh_E (.ref 512) _ _ (ct_t8 s6) z0 s4 z5 z8 sR1 (vp_updL o (Int32.toNatClampNeg 0) (Int32.toInt64 r)) n xs (0, 0, 0)).1) lw_F_c ?_ (rn_J0 _ _) (rn_Jok (Or.inl rfl) (Or.inl rfl)) rfl (rn_loc rfl rfl rfl rfl rfl rfl rfl rfl) (KE (.ref 512) _ _ (ct_t8 s6) 700 _ z0 s4 z5 z8 sR1 _ _ (Or.inr ⟨rfl, rfl, s6, rfl⟩) hT9 I1 ⟨by (try dsimp only [cl_h]); omega, by (try dsimp only [cl_h]); omega⟩)
        exact rn_cl (fun _ => rfl) (rn_ten (by first | exact Or.inl rfl | exact Or.inr rfl) (by first | exact Or.inl rfl | exact Or.inr rfl) (by first | exact Or.inl rfl | exact Or.inr rfl) (by first | exact Or.inl rfl | exact Or.inr rfl) (by first | exact Or.inl rfl | exact Or.inr rfl) (by first | exact Or.inl rfl | exact Or.inr rfl) (by first | exact Or.inl rfl | exact Or.inr rfl) (by first | exact Or.inl rfl | exact Or.inr rfl) (by first | exact Or.inl rfl | exact Or.inr rfl) (by first | exact Or.inl rfl | exact Or.inr rfl) (fun g hg => Or.inl (rn_far hg))) rn_i2 (rn_ten rfl rfl rfl rfl rfl rfl rfl rfl rfl rfl (fun g hg => rn_allf hg))
      · refine pm_Wx.ren (p := fun i => rn_2 (i / 64) * 64 + i % 64) (J := rn_J (.float 1) (.float 2)) (l' := (lh_E (.ref 512) _ _ (ct_t8 s6) z0 s4 z5 z8 sR1 (vp_updL o (Int32.toNatClampNeg 0) (Int32.toInt64 r)) n xs (0, 0, 0)).1) lw_F_c ?_ (rn_J0 _ _) (rn_Jok (Or.inl rfl) (Or.inl rfl)) rfl (rn_loc rfl rfl rfl rfl rfl rfl rfl rfl) (KE (.ref 512) _ _ (ct_t8 s6) 700 _ z0 s4 z5 z8 sR1 _ _ (Or.inr ⟨rfl, rfl, s6, rfl⟩) hT9 I1 ⟨by (try dsimp only [cl_h]); omega, by (try dsimp only [cl_h]); omega⟩)
        exact rn_cl (fun _ => rfl) (rn_ten (by first | exact Or.inl rfl | exact Or.inr rfl) (by first | exact Or.inl rfl | exact Or.inr rfl) (by first | exact Or.inl rfl | exact Or.inr rfl) (by first | exact Or.inl rfl | exact Or.inr rfl) (by first | exact Or.inl rfl | exact Or.inr rfl) (by first | exact Or.inl rfl | exact Or.inr rfl) (by first | exact Or.inl rfl | exact Or.inr rfl) (by first | exact Or.inl rfl | exact Or.inr rfl) (by first | exact Or.inl rfl | exact Or.inr rfl) (by first | exact Or.inl rfl | exact Or.inr rfl) (fun g hg => Or.inl (rn_far hg))) rn_i2 (rn_ten rfl rfl rfl rfl rfl rfl rfl rfl rfl rfl (fun g hg => rn_allf hg))
    · refine lc_2_E_t0 w1 H HM HT ?_
      exact KE (.ref 512) _ _ (ct_t8 z8) 700 _ z0 s4 z5 s6 sR1 _ _ (Or.inr ⟨rfl, rfl, z8, rfl⟩) hT I1 ⟨by (try dsimp only); omega, by (try dsimp only); omega⟩
    · refine lc_2_E_t1 w1 H HM HT ?_
      exact KE .null _ _ [] 0 _ z0 s4 z5 s6 sR1 _ _ (Or.inl ⟨rfl, rfl, rfl⟩) hT I1 ⟨by (try dsimp only); omega, by (try dsimp only); omega⟩
  · rcases PD j s0 s4 s5 s6 s8 sR (xs (Int32.toNatClampNeg (i + 1))) hj hI with ⟨r, z0, z5, z8, sR1, H, HM, HT, I1⟩ | ⟨b, z0, z5, z8, sR1, H, HM, HT, I1⟩ | ⟨b, z0, z5, z8, sR1, H, HM, HT, I1⟩
    · refine lc_2_D w1 H HM HT ?_
      have hT9 := hT
      rcases hT with ⟨rfl, rfl, rfl⟩ | ⟨rfl, rfl, s7, rfl⟩
      · refine pm_Wx.ren (p := fun i => rn_2 (i / 64) * 64 + i % 64) (J := rn_J (.float 1) (.float 2)) (l' := (lh_E (.ref 512) _ _ (ct_t8 s6) z0 s4 z5 z8 sR1 (vp_updL o (Int32.toNatClampNeg 0) (Int32.toInt64 r)) n xs (0, 0, 0)).1) lw_F_c ?_ (rn_J0 _ _) (rn_Jok (Or.inl rfl) (Or.inl rfl)) rfl (rn_loc rfl rfl rfl rfl rfl rfl rfl rfl) (KE (.ref 512) _ _ (ct_t8 s6) 700 _ z0 s4 z5 z8 sR1 _ _ (Or.inr ⟨rfl, rfl, s6, rfl⟩) hT9 I1 ⟨by (try dsimp only [cl_h]); omega, by (try dsimp only [cl_h]); omega⟩)
        exact rn_cl (fun _ => rfl) (rn_ten (by first | exact Or.inl rfl | exact Or.inr rfl) (by first | exact Or.inl rfl | exact Or.inr rfl) (by first | exact Or.inl rfl | exact Or.inr rfl) (by first | exact Or.inl rfl | exact Or.inr rfl) (by first | exact Or.inl rfl | exact Or.inr rfl) (by first | exact Or.inl rfl | exact Or.inr rfl) (by first | exact Or.inl rfl | exact Or.inr rfl) (by first | exact Or.inl rfl | exact Or.inr rfl) (by first | exact Or.inl rfl | exact Or.inr rfl) (by first | exact Or.inl rfl | exact Or.inr rfl) (fun g hg => Or.inl (rn_far hg))) rn_i2 (rn_ten rfl rfl rfl rfl rfl rfl rfl rfl rfl rfl (fun g hg => rn_allf hg))
      · refine pm_Wx.ren (p := fun i => rn_2 (i / 64) * 64 + i % 64) (J := rn_J (.float 1) (.float 2)) (l' := (lh_E (.ref 512) _ _ (ct_t8 s6) z0 s4 z5 z8 sR1 (vp_updL o (Int32.toNatClampNeg 0) (Int32.toInt64 r)) n xs (0, 0, 0)).1) lw_F_c ?_ (rn_J0 _ _) (rn_Jok (Or.inl rfl) (Or.inl rfl)) rfl (rn_loc rfl rfl rfl rfl rfl rfl rfl rfl) (KE (.ref 512) _ _ (ct_t8 s6) 700 _ z0 s4 z5 z8 sR1 _ _ (Or.inr ⟨rfl, rfl, s6, rfl⟩) hT9 I1 ⟨by (try dsimp only [cl_h]); omega, by (try dsimp only [cl_h]); omega⟩)
        exact rn_cl (fun _ => rfl) (rn_ten (by first | exact Or.inl rfl | exact Or.inr rfl) (by first | exact Or.inl rfl | exact Or.inr rfl) (by first | exact Or.inl rfl | exact Or.inr rfl) (by first | exact Or.inl rfl | exact Or.inr rfl) (by first | exact Or.inl rfl | exact Or.inr rfl) (by first | exact Or.inl rfl | exact Or.inr rfl) (by first | exact Or.inl rfl | exact Or.inr rfl) (by first | exact Or.inl rfl | exact Or.inr rfl) (by first | exact Or.inl rfl | exact Or.inr rfl) (by first | exact Or.inl rfl | exact Or.inr rfl) (fun g hg => Or.inl (rn_far hg))) rn_i2 (rn_ten rfl rfl rfl rfl rfl rfl rfl rfl rfl rfl (fun g hg => rn_allf hg))
    · refine lc_2_D_t0 w1 H HM HT ?_
      exact KE (.ref 512) _ _ (ct_t8 z8) 700 _ z0 s4 z5 s6 sR1 _ _ (Or.inr ⟨rfl, rfl, z8, rfl⟩) hT I1 ⟨by (try dsimp only); omega, by (try dsimp only); omega⟩
    · refine lc_2_D_t1 w1 H HM HT ?_
      exact KE (.ref 512) _ _ (ct_t8 z8) 700 _ z0 s4 z5 s6 sR1 _ _ (Or.inr ⟨rfl, rfl, z8, rfl⟩) hT I1 ⟨by (try dsimp only); omega, by (try dsimp only); omega⟩

set_option maxRecDepth 20000 in
set_option maxHeartbeats 20000000 in
theorem lh_3_N {IN : t_IN} {IE : t_IE} {j n : Nat} {xs : Nat → Int32} {i : Int32} {sR : mo_S} {o : Nat → Int64} {q : Nat × Nat × Nat} {s0 : cs_S} (PA : ps_3_N_A IN IE) (hj : j < 512) (w1 : vp_in (i + 1) n) (w2 : vp_in (i + 2) n) (w3 : vp_in (i + 3) n) (w4 : vp_in (i + 4) n) (w5 : vp_in (i + 5) n) (hI : IN j s0 sR) (hq : b_q j 0 q) (KN : lh_KN IN (j + 1) n xs (i + 6)) (KE : lh_KE IE (j + 1) n xs (i + 6)) : pm_Wx 338 13 lw_F 601024 7293034 (456, [some (.ref 576), some (.ref 0), some (.ref 64), some (.ref 128), some (.int i), none, none, none], [], lh_N s0 sR o n xs q) := by
  obtain ⟨hq1, hq2⟩ := hq
  obtain ⟨r, sR1, H, HM, I1⟩ := PA j s0 sR hj hI
  refine lc_3_A H HM ?_
  exact KN _ _ _ _ I1 ⟨by (try dsimp only); omega, by (try dsimp only); omega⟩

set_option maxRecDepth 20000 in
set_option maxHeartbeats 20000000 in
theorem lh_3_E {IN : t_IN} {IE : t_IE} {j n : Nat} {xs : Nat → Int32} {i : Int32} {sR : mo_S} {o : Nat → Int64} {q : Nat × Nat × Nat} {v1 v3 : Value} {g7 g8 : List pm_E} {u1 u3 : Nat} {s0 s4 s5 s6 : cs_S} (PA : ps_3_E_A IN IE) (hj : j < 512) (w1 : vp_in (i + 1) n) (w2 : vp_in (i + 2) n) (w3 : vp_in (i + 3) n) (w4 : vp_in (i + 4) n) (w5 : vp_in (i + 5) n) (hD : ok_D v1 g8 u1) (hT : ok_T v3 g7 u3) (hI : IE j s0 s4 s5 s6 sR) (hq : b_q j (21000 + u1 + u3) q) (KN : lh_KN IN (j + 1) n xs (i + 6)) (KE : lh_KE IE (j + 1) n xs (i + 6)) : pm_Wx 338 13 lw_F 601024 7293034 (456, [some (.ref 576), some (.ref 0), some (.ref 64), some (.ref 128), some (.int i), none, none, none], [], lh_E v1 v3 g7 g8 s0 s4 s5 s6 sR o n xs q) := by
  obtain ⟨hq1, hq2⟩ := hq
  obtain ⟨r, sR1, H, HM, I1⟩ := PA j s0 s4 s5 s6 sR hj hI
  refine lc_3_A H HM ?_
  exact KE _ _ _ _ _ _ _ _ _ _ _ _ _ hD hT I1 ⟨by (try dsimp only); omega, by (try dsimp only); omega⟩

set_option maxRecDepth 20000 in
set_option maxHeartbeats 20000000 in
theorem lh_4_N {IN : t_IN} {IE : t_IE} {j n : Nat} {xs : Nat → Int32} {i : Int32} {sR : mo_S} {o : Nat → Int64} {q : Nat × Nat × Nat} {s0 : cs_S} (PA : ps_4_N_A IN IE) (hj : j < 512) (w1 : vp_in (i + 1) n) (w2 : vp_in (i + 2) n) (w3 : vp_in (i + 3) n) (w4 : vp_in (i + 4) n) (w5 : vp_in (i + 5) n) (hI : IN j s0 sR) (hq : b_q j 0 q) (KN : lh_KN IN (j + 1) n xs (i + 6)) (KE : lh_KE IE (j + 1) n xs (i + 6)) : pm_Wx 338 13 lw_F 601024 7293034 (469, [some (.ref 576), some (.ref 0), some (.ref 64), some (.ref 128), some (.int i), none, none, none], [], lh_N s0 sR o n xs q) := by
  obtain ⟨hq1, hq2⟩ := hq
  obtain ⟨r, sR1, H, HM, I1⟩ := PA j s0 sR hj hI
  refine lc_4_A H HM ?_
  exact KN _ _ _ _ I1 ⟨by (try dsimp only); omega, by (try dsimp only); omega⟩

set_option maxRecDepth 20000 in
set_option maxHeartbeats 20000000 in
theorem lh_4_E {IN : t_IN} {IE : t_IE} {j n : Nat} {xs : Nat → Int32} {i : Int32} {sR : mo_S} {o : Nat → Int64} {q : Nat × Nat × Nat} {v1 v3 : Value} {g7 g8 : List pm_E} {u1 u3 : Nat} {s0 s4 s5 s6 : cs_S} (PA : ps_4_E_A IN IE) (hj : j < 512) (w1 : vp_in (i + 1) n) (w2 : vp_in (i + 2) n) (w3 : vp_in (i + 3) n) (w4 : vp_in (i + 4) n) (w5 : vp_in (i + 5) n) (hD : ok_D v1 g8 u1) (hT : ok_T v3 g7 u3) (hI : IE j s0 s4 s5 s6 sR) (hq : b_q j (21000 + u1 + u3) q) (KN : lh_KN IN (j + 1) n xs (i + 6)) (KE : lh_KE IE (j + 1) n xs (i + 6)) : pm_Wx 338 13 lw_F 601024 7293034 (469, [some (.ref 576), some (.ref 0), some (.ref 64), some (.ref 128), some (.int i), none, none, none], [], lh_E v1 v3 g7 g8 s0 s4 s5 s6 sR o n xs q) := by
  obtain ⟨hq1, hq2⟩ := hq
  obtain ⟨r, sR1, H, HM, I1⟩ := PA j s0 s4 s5 s6 sR hj hI
  refine lc_4_A H HM ?_
  exact KE _ _ _ _ _ _ _ _ _ _ _ _ _ hD hT I1 ⟨by (try dsimp only); omega, by (try dsimp only); omega⟩

set_option maxRecDepth 20000 in
set_option maxHeartbeats 20000000 in
theorem lh_5_N {IN : t_IN} {IE : t_IE} {j n : Nat} {xs : Nat → Int32} {i : Int32} {sR : mo_S} {o : Nat → Int64} {q : Nat × Nat × Nat} {s0 : cs_S} (PN : ps_5_N_N IN IE) (hj : j < 512) (w1 : vp_in (i + 1) n) (w2 : vp_in (i + 2) n) (w3 : vp_in (i + 3) n) (w4 : vp_in (i + 4) n) (w5 : vp_in (i + 5) n) (hI : IN j s0 sR) (hq : b_q j 0 q) (KN : lh_KN IN (j + 1) n xs (i + 6)) (KE : lh_KE IE (j + 1) n xs (i + 6)) : pm_Wx 338 13 lw_F 601024 7293034 (482, [some (.ref 576), some (.ref 0), some (.ref 64), some (.ref 128), some (.int i), none, none, none], [], lh_N s0 sR o n xs q) := by
  obtain ⟨hq1, hq2⟩ := hq
  obtain ⟨r, sR1, H, HM, I1⟩ := PN j s0 sR hj hI
  refine lc_5_N H HM ?_
  exact KN _ _ _ _ I1 ⟨by (try dsimp only); omega, by (try dsimp only); omega⟩

set_option maxRecDepth 20000 in
set_option maxHeartbeats 20000000 in
theorem lh_5_E {IN : t_IN} {IE : t_IE} {j n : Nat} {xs : Nat → Int32} {i : Int32} {sR : mo_S} {o : Nat → Int64} {q : Nat × Nat × Nat} {v1 v3 : Value} {g7 g8 : List pm_E} {u1 u3 : Nat} {s0 s4 s5 s6 : cs_S} (PE : ps_5_E_E IN IE) (hj : j < 512) (w1 : vp_in (i + 1) n) (w2 : vp_in (i + 2) n) (w3 : vp_in (i + 3) n) (w4 : vp_in (i + 4) n) (w5 : vp_in (i + 5) n) (hD : ok_D v1 g8 u1) (hT : ok_T v3 g7 u3) (hI : IE j s0 s4 s5 s6 sR) (hq : b_q j (21000 + u1 + u3) q) (KN : lh_KN IN (j + 1) n xs (i + 6)) (KE : lh_KE IE (j + 1) n xs (i + 6)) : pm_Wx 338 13 lw_F 601024 7293034 (482, [some (.ref 576), some (.ref 0), some (.ref 64), some (.ref 128), some (.int i), none, none, none], [], lh_E v1 v3 g7 g8 s0 s4 s5 s6 sR o n xs q) := by
  obtain ⟨hq1, hq2⟩ := hq
  obtain ⟨r, sR1, H, HM, I1⟩ := PE j s0 s4 s5 s6 sR hj hI
  refine lc_5_E H HM ?_
  exact KE _ _ _ _ _ _ _ _ _ _ _ _ _ hD hT I1 ⟨by (try dsimp only); omega, by (try dsimp only); omega⟩

set_option maxRecDepth 20000 in
set_option maxHeartbeats 20000000 in
theorem lh_6_N {IN : t_IN} {IE : t_IE} {j n : Nat} {xs : Nat → Int32} {i : Int32} {sR : mo_S} {o : Nat → Int64} {q : Nat × Nat × Nat} {s0 : cs_S} (PN : ps_6_N_N IN IE) (hj : j < 512) (w1 : vp_in (i + 1) n) (w2 : vp_in (i + 2) n) (w3 : vp_in (i + 3) n) (w4 : vp_in (i + 4) n) (w5 : vp_in (i + 5) n) (hI : IN j s0 sR) (hq : b_q j 0 q) (KN : lh_KN IN (j + 1) n xs (i + 6)) (KE : lh_KE IE (j + 1) n xs (i + 6)) : pm_Wx 338 13 lw_F 601024 7293034 (495, [some (.ref 576), some (.ref 0), some (.ref 64), some (.ref 128), some (.int i), none, none, none], [], lh_N s0 sR o n xs q) := by
  obtain ⟨hq1, hq2⟩ := hq
  obtain ⟨r, sR1, H, HM, I1⟩ := PN j s0 sR hj hI
  refine lc_6_N H HM ?_
  exact KN _ _ _ _ I1 ⟨by (try dsimp only); omega, by (try dsimp only); omega⟩

set_option maxRecDepth 20000 in
set_option maxHeartbeats 20000000 in
theorem lh_6_E {IN : t_IN} {IE : t_IE} {j n : Nat} {xs : Nat → Int32} {i : Int32} {sR : mo_S} {o : Nat → Int64} {q : Nat × Nat × Nat} {v1 v3 : Value} {g7 g8 : List pm_E} {u1 u3 : Nat} {s0 s4 s5 s6 : cs_S} (PE : ps_6_E_E IN IE) (hj : j < 512) (w1 : vp_in (i + 1) n) (w2 : vp_in (i + 2) n) (w3 : vp_in (i + 3) n) (w4 : vp_in (i + 4) n) (w5 : vp_in (i + 5) n) (hD : ok_D v1 g8 u1) (hT : ok_T v3 g7 u3) (hI : IE j s0 s4 s5 s6 sR) (hq : b_q j (21000 + u1 + u3) q) (KN : lh_KN IN (j + 1) n xs (i + 6)) (KE : lh_KE IE (j + 1) n xs (i + 6)) : pm_Wx 338 13 lw_F 601024 7293034 (495, [some (.ref 576), some (.ref 0), some (.ref 64), some (.ref 128), some (.int i), none, none, none], [], lh_E v1 v3 g7 g8 s0 s4 s5 s6 sR o n xs q) := by
  obtain ⟨hq1, hq2⟩ := hq
  obtain ⟨r, sR1, H, HM, I1⟩ := PE j s0 s4 s5 s6 sR hj hI
  refine lc_6_E H HM ?_
  exact KE _ _ _ _ _ _ _ _ _ _ _ _ _ hD hT I1 ⟨by (try dsimp only); omega, by (try dsimp only); omega⟩

set_option maxRecDepth 20000 in
set_option maxHeartbeats 20000000 in
theorem lh_7_N {IN : t_IN} {IE : t_IE} {j n : Nat} {xs : Nat → Int32} {i : Int32} {sR : mo_S} {o : Nat → Int64} {q : Nat × Nat × Nat} {s0 : cs_S} (PN : ps_7_N_N IN IE) (hj : j < 512) (w1 : vp_in (i + 1) n) (w2 : vp_in (i + 2) n) (w3 : vp_in (i + 3) n) (w4 : vp_in (i + 4) n) (w5 : vp_in (i + 5) n) (hI : IN j s0 sR) (hq : b_q j 0 q) (KN : lh_KN IN (j + 1) n xs (i + 6)) (KE : lh_KE IE (j + 1) n xs (i + 6)) : pm_Wx 338 13 lw_F 601024 7293034 (508, [some (.ref 576), some (.ref 0), some (.ref 64), some (.ref 128), some (.int i), none, none, none], [], lh_N s0 sR o n xs q) := by
  obtain ⟨hq1, hq2⟩ := hq
  obtain ⟨r, sR1, H, HM, I1⟩ := PN j s0 sR hj hI
  refine lc_7_N H HM ?_
  exact KN _ _ _ _ I1 ⟨by (try dsimp only); omega, by (try dsimp only); omega⟩

set_option maxRecDepth 20000 in
set_option maxHeartbeats 20000000 in
theorem lh_7_E {IN : t_IN} {IE : t_IE} {j n : Nat} {xs : Nat → Int32} {i : Int32} {sR : mo_S} {o : Nat → Int64} {q : Nat × Nat × Nat} {v1 v3 : Value} {g7 g8 : List pm_E} {u1 u3 : Nat} {s0 s4 s5 s6 : cs_S} (PE : ps_7_E_E IN IE) (hj : j < 512) (w1 : vp_in (i + 1) n) (w2 : vp_in (i + 2) n) (w3 : vp_in (i + 3) n) (w4 : vp_in (i + 4) n) (w5 : vp_in (i + 5) n) (hD : ok_D v1 g8 u1) (hT : ok_T v3 g7 u3) (hI : IE j s0 s4 s5 s6 sR) (hq : b_q j (21000 + u1 + u3) q) (KN : lh_KN IN (j + 1) n xs (i + 6)) (KE : lh_KE IE (j + 1) n xs (i + 6)) : pm_Wx 338 13 lw_F 601024 7293034 (508, [some (.ref 576), some (.ref 0), some (.ref 64), some (.ref 128), some (.int i), none, none, none], [], lh_E v1 v3 g7 g8 s0 s4 s5 s6 sR o n xs q) := by
  obtain ⟨hq1, hq2⟩ := hq
  obtain ⟨r, sR1, H, HM, I1⟩ := PE j s0 s4 s5 s6 sR hj hI
  refine lc_7_E H HM ?_
  exact KE _ _ _ _ _ _ _ _ _ _ _ _ _ hD hT I1 ⟨by (try dsimp only); omega, by (try dsimp only); omega⟩

set_option maxRecDepth 20000 in
set_option maxHeartbeats 20000000 in
theorem lh_8_N {IN : t_IN} {IE : t_IE} {j n : Nat} {xs : Nat → Int32} {i : Int32} {sR : mo_S} {o : Nat → Int64} {q : Nat × Nat × Nat} {s0 : cs_S} (PN : ps_8_N_N IN IE) (hj : j < 512) (w1 : vp_in (i + 1) n) (w2 : vp_in (i + 2) n) (w3 : vp_in (i + 3) n) (w4 : vp_in (i + 4) n) (w5 : vp_in (i + 5) n) (hI : IN j s0 sR) (hq : b_q j 0 q) (KN : lh_KN IN (j + 1) n xs (i + 6)) (KE : lh_KE IE (j + 1) n xs (i + 6)) : pm_Wx 338 13 lw_F 601024 7293034 (521, [some (.ref 576), some (.ref 0), some (.ref 64), some (.ref 128), some (.int i), none, none, none], [], lh_N s0 sR o n xs q) := by
  obtain ⟨hq1, hq2⟩ := hq
  obtain ⟨b, sR1, H, HM, HT, I1⟩ := PN j s0 sR (xs (Int32.toNatClampNeg (i + 1))) hj hI
  refine lc_8_N_t2 w1 H HM HT ?_
  exact KN _ _ _ _ I1 ⟨by (try dsimp only); omega, by (try dsimp only); omega⟩

set_option maxRecDepth 20000 in
set_option maxHeartbeats 20000000 in
theorem lh_8_E {IN : t_IN} {IE : t_IE} {j n : Nat} {xs : Nat → Int32} {i : Int32} {sR : mo_S} {o : Nat → Int64} {q : Nat × Nat × Nat} {v1 v3 : Value} {g7 g8 : List pm_E} {u1 u3 : Nat} {s0 s4 s5 s6 : cs_S} (PE : ps_8_E_E IN IE) (hj : j < 512) (w1 : vp_in (i + 1) n) (w2 : vp_in (i + 2) n) (w3 : vp_in (i + 3) n) (w4 : vp_in (i + 4) n) (w5 : vp_in (i + 5) n) (hD : ok_D v1 g8 u1) (hT : ok_T v3 g7 u3) (hI : IE j s0 s4 s5 s6 sR) (hq : b_q j (21000 + u1 + u3) q) (KN : lh_KN IN (j + 1) n xs (i + 6)) (KE : lh_KE IE (j + 1) n xs (i + 6)) : pm_Wx 338 13 lw_F 601024 7293034 (521, [some (.ref 576), some (.ref 0), some (.ref 64), some (.ref 128), some (.int i), none, none, none], [], lh_E v1 v3 g7 g8 s0 s4 s5 s6 sR o n xs q) := by
  obtain ⟨hq1, hq2⟩ := hq
  rcases PE j s0 s4 s5 s6 sR (xs (Int32.toNatClampNeg (i + 1))) hj hI with ⟨r, sR1, H, HM, HT, I1⟩ | ⟨b, sR1, H, HM, HT, I1⟩
  · refine lc_8_E w1 H HM HT ?_
    exact KE _ _ _ _ _ _ _ _ _ _ _ _ _ hD hT I1 ⟨by (try dsimp only); omega, by (try dsimp only); omega⟩
  · refine lc_8_E_t2 w1 H HM HT ?_
    exact KE _ _ _ _ _ _ _ _ _ _ _ _ _ hD hT I1 ⟨by (try dsimp only); omega, by (try dsimp only); omega⟩

set_option maxRecDepth 20000 in
set_option maxHeartbeats 20000000 in
theorem lh_9_N {IN : t_IN} {IE : t_IE} {j n : Nat} {xs : Nat → Int32} {i : Int32} {sR : mo_S} {o : Nat → Int64} {q : Nat × Nat × Nat} {s0 : cs_S} (PN : ps_9_N_N IN IE) (hj : j < 512) (w1 : vp_in (i + 1) n) (w2 : vp_in (i + 2) n) (w3 : vp_in (i + 3) n) (w4 : vp_in (i + 4) n) (w5 : vp_in (i + 5) n) (hI : IN j s0 sR) (hq : b_q j 0 q) (KN : lh_KN IN (j + 1) n xs (i + 6)) (KE : lh_KE IE (j + 1) n xs (i + 6)) : pm_Wx 338 13 lw_F 601024 7293034 (577, [some (.ref 576), some (.ref 0), some (.ref 64), some (.ref 128), some (.int i), none, none, none], [], lh_N s0 sR o n xs q) := by
  obtain ⟨hq1, hq2⟩ := hq
  obtain ⟨b, sR1, H, HM, HT, I1⟩ := PN j s0 sR (xs (Int32.toNatClampNeg (i + 1))) hj hI
  refine lc_9_N_t2 w1 H HM HT ?_
  exact KN _ _ _ _ I1 ⟨by (try dsimp only); omega, by (try dsimp only); omega⟩

set_option maxRecDepth 20000 in
set_option maxHeartbeats 20000000 in
theorem lh_9_E {IN : t_IN} {IE : t_IE} {j n : Nat} {xs : Nat → Int32} {i : Int32} {sR : mo_S} {o : Nat → Int64} {q : Nat × Nat × Nat} {v1 v3 : Value} {g7 g8 : List pm_E} {u1 u3 : Nat} {s0 s4 s5 s6 : cs_S} (PE : ps_9_E_E IN IE) (hj : j < 512) (w1 : vp_in (i + 1) n) (w2 : vp_in (i + 2) n) (w3 : vp_in (i + 3) n) (w4 : vp_in (i + 4) n) (w5 : vp_in (i + 5) n) (hD : ok_D v1 g8 u1) (hT : ok_T v3 g7 u3) (hI : IE j s0 s4 s5 s6 sR) (hq : b_q j (21000 + u1 + u3) q) (KN : lh_KN IN (j + 1) n xs (i + 6)) (KE : lh_KE IE (j + 1) n xs (i + 6)) : pm_Wx 338 13 lw_F 601024 7293034 (577, [some (.ref 576), some (.ref 0), some (.ref 64), some (.ref 128), some (.int i), none, none, none], [], lh_E v1 v3 g7 g8 s0 s4 s5 s6 sR o n xs q) := by
  obtain ⟨hq1, hq2⟩ := hq
  rcases PE j s0 s4 s5 s6 sR (xs (Int32.toNatClampNeg (i + 1))) hj hI with ⟨r, sR1, H, HM, HT, I1⟩ | ⟨b, sR1, H, HM, HT, I1⟩
  · refine lc_9_E w1 H HM HT ?_
    exact KE _ _ _ _ _ _ _ _ _ _ _ _ _ hD hT I1 ⟨by (try dsimp only); omega, by (try dsimp only); omega⟩
  · refine lc_9_E_t2 w1 H HM HT ?_
    exact KE _ _ _ _ _ _ _ _ _ _ _ _ _ hD hT I1 ⟨by (try dsimp only); omega, by (try dsimp only); omega⟩

set_option maxRecDepth 20000 in
set_option maxHeartbeats 20000000 in
theorem lh_10_N {IN : t_IN} {IE : t_IE} {j n : Nat} {xs : Nat → Int32} {i : Int32} {sR : mo_S} {o : Nat → Int64} {q : Nat × Nat × Nat} {s0 : cs_S} (PN : ps_10_N_N IN IE) (hj : j < 512) (w1 : vp_in (i + 1) n) (w2 : vp_in (i + 2) n) (w3 : vp_in (i + 3) n) (w4 : vp_in (i + 4) n) (w5 : vp_in (i + 5) n) (hI : IN j s0 sR) (hq : b_q j 0 q) (KN : lh_KN IN (j + 1) n xs (i + 6)) (KE : lh_KE IE (j + 1) n xs (i + 6)) : pm_Wx 338 13 lw_F 601024 7293034 (633, [some (.ref 576), some (.ref 0), some (.ref 64), some (.ref 128), some (.int i), none, none, none], [], lh_N s0 sR o n xs q) := by
  obtain ⟨hq1, hq2⟩ := hq
  obtain ⟨b, sR1, H, HM, HT, I1⟩ := PN j s0 sR (xs (Int32.toNatClampNeg (i + 1))) hj hI
  refine lc_10_N_t2 w1 H HM HT ?_
  exact KN _ _ _ _ I1 ⟨by (try dsimp only); omega, by (try dsimp only); omega⟩

set_option maxRecDepth 20000 in
set_option maxHeartbeats 20000000 in
theorem lh_10_E {IN : t_IN} {IE : t_IE} {j n : Nat} {xs : Nat → Int32} {i : Int32} {sR : mo_S} {o : Nat → Int64} {q : Nat × Nat × Nat} {v1 v3 : Value} {g7 g8 : List pm_E} {u1 u3 : Nat} {s0 s4 s5 s6 : cs_S} (PE : ps_10_E_E IN IE) (hj : j < 512) (w1 : vp_in (i + 1) n) (w2 : vp_in (i + 2) n) (w3 : vp_in (i + 3) n) (w4 : vp_in (i + 4) n) (w5 : vp_in (i + 5) n) (hD : ok_D v1 g8 u1) (hT : ok_T v3 g7 u3) (hI : IE j s0 s4 s5 s6 sR) (hq : b_q j (21000 + u1 + u3) q) (KN : lh_KN IN (j + 1) n xs (i + 6)) (KE : lh_KE IE (j + 1) n xs (i + 6)) : pm_Wx 338 13 lw_F 601024 7293034 (633, [some (.ref 576), some (.ref 0), some (.ref 64), some (.ref 128), some (.int i), none, none, none], [], lh_E v1 v3 g7 g8 s0 s4 s5 s6 sR o n xs q) := by
  obtain ⟨hq1, hq2⟩ := hq
  rcases PE j s0 s4 s5 s6 sR (xs (Int32.toNatClampNeg (i + 1))) hj hI with ⟨r, sR1, H, HM, HT, I1⟩ | ⟨b, sR1, H, HM, HT, I1⟩
  · refine lc_10_E w1 H HM HT ?_
    exact KE _ _ _ _ _ _ _ _ _ _ _ _ _ hD hT I1 ⟨by (try dsimp only); omega, by (try dsimp only); omega⟩
  · refine lc_10_E_t2 w1 H HM HT ?_
    exact KE _ _ _ _ _ _ _ _ _ _ _ _ _ hD hT I1 ⟨by (try dsimp only); omega, by (try dsimp only); omega⟩

set_option maxRecDepth 20000 in
set_option maxHeartbeats 20000000 in
theorem lh_11_N {IN : t_IN} {IE : t_IE} {j n : Nat} {xs : Nat → Int32} {i : Int32} {sR : mo_S} {o : Nat → Int64} {q : Nat × Nat × Nat} {s0 : cs_S} (PN : ps_11_N_N IN IE) (hj : j < 512) (w1 : vp_in (i + 1) n) (w2 : vp_in (i + 2) n) (w3 : vp_in (i + 3) n) (w4 : vp_in (i + 4) n) (w5 : vp_in (i + 5) n) (hI : IN j s0 sR) (hq : b_q j 0 q) (KN : lh_KN IN (j + 1) n xs (i + 6)) (KE : lh_KE IE (j + 1) n xs (i + 6)) : pm_Wx 338 13 lw_F 601024 7293034 (689, [some (.ref 576), some (.ref 0), some (.ref 64), some (.ref 128), some (.int i), none, none, none], [], lh_N s0 sR o n xs q) := by
  obtain ⟨hq1, hq2⟩ := hq
  obtain ⟨b, sR1, H, HM, HT, I1⟩ := PN j s0 sR (xs (Int32.toNatClampNeg (i + 1))) (xs (Int32.toNatClampNeg (i + 2))) hj hI
  refine lc_11_N_t2 w1 w2 H HM HT ?_
  exact KN _ _ _ _ I1 ⟨by (try dsimp only); omega, by (try dsimp only); omega⟩

set_option maxRecDepth 20000 in
set_option maxHeartbeats 20000000 in
theorem lh_11_E {IN : t_IN} {IE : t_IE} {j n : Nat} {xs : Nat → Int32} {i : Int32} {sR : mo_S} {o : Nat → Int64} {q : Nat × Nat × Nat} {v1 v3 : Value} {g7 g8 : List pm_E} {u1 u3 : Nat} {s0 s4 s5 s6 : cs_S} (PE : ps_11_E_E IN IE) (hj : j < 512) (w1 : vp_in (i + 1) n) (w2 : vp_in (i + 2) n) (w3 : vp_in (i + 3) n) (w4 : vp_in (i + 4) n) (w5 : vp_in (i + 5) n) (hD : ok_D v1 g8 u1) (hT : ok_T v3 g7 u3) (hI : IE j s0 s4 s5 s6 sR) (hq : b_q j (21000 + u1 + u3) q) (KN : lh_KN IN (j + 1) n xs (i + 6)) (KE : lh_KE IE (j + 1) n xs (i + 6)) : pm_Wx 338 13 lw_F 601024 7293034 (689, [some (.ref 576), some (.ref 0), some (.ref 64), some (.ref 128), some (.int i), none, none, none], [], lh_E v1 v3 g7 g8 s0 s4 s5 s6 sR o n xs q) := by
  obtain ⟨hq1, hq2⟩ := hq
  rcases PE j s0 s4 s5 s6 sR (xs (Int32.toNatClampNeg (i + 1))) (xs (Int32.toNatClampNeg (i + 2))) hj hI with ⟨r, sR1, H, HM, HT, I1⟩ | ⟨b, sR1, H, HM, HT, I1⟩ | ⟨b, sR1, H, HM, HT, I1⟩
  · refine lc_11_E w1 w2 H HM HT ?_
    exact KE _ _ _ _ _ _ _ _ _ _ _ _ _ hD hT I1 ⟨by (try dsimp only); omega, by (try dsimp only); omega⟩
  · refine lc_11_E_t1 w1 w2 H HM HT ?_
    exact KE _ _ _ _ _ _ _ _ _ _ _ _ _ hD hT I1 ⟨by (try dsimp only); omega, by (try dsimp only); omega⟩
  · refine lc_11_E_t2 w1 w2 H HM HT ?_
    exact KE _ _ _ _ _ _ _ _ _ _ _ _ _ hD hT I1 ⟨by (try dsimp only); omega, by (try dsimp only); omega⟩

set_option maxRecDepth 20000 in
set_option maxHeartbeats 20000000 in
theorem lh_12_N {IN : t_IN} {IE : t_IE} {j n : Nat} {xs : Nat → Int32} {i : Int32} {sR : mo_S} {o : Nat → Int64} {q : Nat × Nat × Nat} {s0 : cs_S} (PN : ps_12_N_N IN IE) (hj : j < 512) (w1 : vp_in (i + 1) n) (w2 : vp_in (i + 2) n) (w3 : vp_in (i + 3) n) (w4 : vp_in (i + 4) n) (w5 : vp_in (i + 5) n) (hI : IN j s0 sR) (hq : b_q j 0 q) (KN : lh_KN IN (j + 1) n xs (i + 6)) (KE : lh_KE IE (j + 1) n xs (i + 6)) : pm_Wx 338 13 lw_F 601024 7293034 (757, [some (.ref 576), some (.ref 0), some (.ref 64), some (.ref 128), some (.int i), none, none, none], [], lh_N s0 sR o n xs q) := by
  obtain ⟨hq1, hq2⟩ := hq
  obtain ⟨b, sR1, H, HM, HT, I1⟩ := PN j s0 sR (xs (Int32.toNatClampNeg (i + 1))) (xs (Int32.toNatClampNeg (i + 2))) (xs (Int32.toNatClampNeg (i + 3))) (xs (Int32.toNatClampNeg (i + 4))) hj hI
  refine lc_12_N_t2 w1 w2 w3 w4 H HM HT ?_
  exact KN _ _ _ _ I1 ⟨by (try dsimp only); omega, by (try dsimp only); omega⟩

set_option maxRecDepth 20000 in
set_option maxHeartbeats 20000000 in
theorem lh_12_E {IN : t_IN} {IE : t_IE} {j n : Nat} {xs : Nat → Int32} {i : Int32} {sR : mo_S} {o : Nat → Int64} {q : Nat × Nat × Nat} {v1 v3 : Value} {g7 g8 : List pm_E} {u1 u3 : Nat} {s0 s4 s5 s6 : cs_S} (PE : ps_12_E_E IN IE) (hj : j < 512) (w1 : vp_in (i + 1) n) (w2 : vp_in (i + 2) n) (w3 : vp_in (i + 3) n) (w4 : vp_in (i + 4) n) (w5 : vp_in (i + 5) n) (hD : ok_D v1 g8 u1) (hT : ok_T v3 g7 u3) (hI : IE j s0 s4 s5 s6 sR) (hq : b_q j (21000 + u1 + u3) q) (KN : lh_KN IN (j + 1) n xs (i + 6)) (KE : lh_KE IE (j + 1) n xs (i + 6)) : pm_Wx 338 13 lw_F 601024 7293034 (757, [some (.ref 576), some (.ref 0), some (.ref 64), some (.ref 128), some (.int i), none, none, none], [], lh_E v1 v3 g7 g8 s0 s4 s5 s6 sR o n xs q) := by
  obtain ⟨hq1, hq2⟩ := hq
  rcases PE j s0 s4 s5 s6 sR (xs (Int32.toNatClampNeg (i + 1))) (xs (Int32.toNatClampNeg (i + 2))) (xs (Int32.toNatClampNeg (i + 3))) (xs (Int32.toNatClampNeg (i + 4))) hj hI with ⟨r, z5, sR1, H, HM, HT, I1⟩ | ⟨b, z5, sR1, H, HM, HT, I1⟩ | ⟨b, z5, sR1, H, HM, HT, I1⟩ | ⟨b, z5, sR1, H, HM, HT, I1⟩
  · refine lc_12_E w1 w2 w3 w4 H HM HT ?_
    exact KE _ _ _ _ _ _ _ _ _ _ _ _ _ hD hT I1 ⟨by (try dsimp only); omega, by (try dsimp only); omega⟩
  · refine lc_12_E_t0 w1 w2 w3 w4 H HM HT ?_
    exact KE _ _ _ _ _ _ _ _ _ _ _ _ _ hD hT I1 ⟨by (try dsimp only); omega, by (try dsimp only); omega⟩
  · refine lc_12_E_t1 w1 w2 w3 w4 H HM HT ?_
    exact KE _ _ _ _ _ _ _ _ _ _ _ _ _ hD hT I1 ⟨by (try dsimp only); omega, by (try dsimp only); omega⟩
  · refine lc_12_E_t2 w1 w2 w3 w4 H HM HT ?_
    exact KE _ _ _ _ _ _ _ _ _ _ _ _ _ hD hT I1 ⟨by (try dsimp only); omega, by (try dsimp only); omega⟩

set_option maxRecDepth 20000 in
set_option maxHeartbeats 20000000 in
theorem lh_13_N {IN : t_IN} {IE : t_IE} {j n : Nat} {xs : Nat → Int32} {i : Int32} {sR : mo_S} {o : Nat → Int64} {q : Nat × Nat × Nat} {s0 : cs_S} (PN : ps_13_N_N IN IE) (hj : j < 512) (w1 : vp_in (i + 1) n) (w2 : vp_in (i + 2) n) (w3 : vp_in (i + 3) n) (w4 : vp_in (i + 4) n) (w5 : vp_in (i + 5) n) (hI : IN j s0 sR) (hq : b_q j 0 q) (KN : lh_KN IN (j + 1) n xs (i + 6)) (KE : lh_KE IE (j + 1) n xs (i + 6)) : pm_Wx 338 13 lw_F 601024 7293034 (865, [some (.ref 576), some (.ref 0), some (.ref 64), some (.ref 128), some (.int i), none, none, none], [], lh_N s0 sR o n xs q) := by
  obtain ⟨hq1, hq2⟩ := hq
  obtain ⟨b, sR1, H, HM, HT, I1⟩ := PN j s0 sR (xs (Int32.toNatClampNeg (i + 1))) hj hI
  refine lc_13_N_t2 w1 H HM HT ?_
  exact KN _ _ _ _ I1 ⟨by (try dsimp only); omega, by (try dsimp only); omega⟩

set_option maxRecDepth 20000 in
set_option maxHeartbeats 20000000 in
theorem lh_13_E {IN : t_IN} {IE : t_IE} {j n : Nat} {xs : Nat → Int32} {i : Int32} {sR : mo_S} {o : Nat → Int64} {q : Nat × Nat × Nat} {v1 v3 : Value} {g7 g8 : List pm_E} {u1 u3 : Nat} {s0 s4 s5 s6 : cs_S} (PE : ps_13_E_E IN IE) (hj : j < 512) (w1 : vp_in (i + 1) n) (w2 : vp_in (i + 2) n) (w3 : vp_in (i + 3) n) (w4 : vp_in (i + 4) n) (w5 : vp_in (i + 5) n) (hD : ok_D v1 g8 u1) (hT : ok_T v3 g7 u3) (hI : IE j s0 s4 s5 s6 sR) (hq : b_q j (21000 + u1 + u3) q) (KN : lh_KN IN (j + 1) n xs (i + 6)) (KE : lh_KE IE (j + 1) n xs (i + 6)) : pm_Wx 338 13 lw_F 601024 7293034 (865, [some (.ref 576), some (.ref 0), some (.ref 64), some (.ref 128), some (.int i), none, none, none], [], lh_E v1 v3 g7 g8 s0 s4 s5 s6 sR o n xs q) := by
  obtain ⟨hq1, hq2⟩ := hq
  rcases PE j s0 s4 s5 s6 sR (xs (Int32.toNatClampNeg (i + 1))) hj hI with ⟨r, z5, sR1, H, HM, HT, I1⟩ | ⟨b, z5, sR1, H, HM, HT, I1⟩ | ⟨b, z5, sR1, H, HM, HT, I1⟩
  · refine lc_13_E w1 H HM HT ?_
    exact KE _ _ _ _ _ _ _ _ _ _ _ _ _ hD hT I1 ⟨by (try dsimp only); omega, by (try dsimp only); omega⟩
  · refine lc_13_E_t0 w1 H HM HT ?_
    exact KE _ _ _ _ _ _ _ _ _ _ _ _ _ hD hT I1 ⟨by (try dsimp only); omega, by (try dsimp only); omega⟩
  · refine lc_13_E_t2 w1 H HM HT ?_
    exact KE _ _ _ _ _ _ _ _ _ _ _ _ _ hD hT I1 ⟨by (try dsimp only); omega, by (try dsimp only); omega⟩

set_option maxRecDepth 20000 in
set_option maxHeartbeats 20000000 in
theorem lh_14_N {IN : t_IN} {IE : t_IE} {j n : Nat} {xs : Nat → Int32} {i : Int32} {sR : mo_S} {o : Nat → Int64} {q : Nat × Nat × Nat} {s0 : cs_S} (PN : ps_14_N_N IN IE) (hj : j < 512) (w1 : vp_in (i + 1) n) (w2 : vp_in (i + 2) n) (w3 : vp_in (i + 3) n) (w4 : vp_in (i + 4) n) (w5 : vp_in (i + 5) n) (hI : IN j s0 sR) (hq : b_q j 0 q) (KN : lh_KN IN (j + 1) n xs (i + 6)) (KE : lh_KE IE (j + 1) n xs (i + 6)) : pm_Wx 338 13 lw_F 601024 7293034 (921, [some (.ref 576), some (.ref 0), some (.ref 64), some (.ref 128), some (.int i), none, none, none], [], lh_N s0 sR o n xs q) := by
  obtain ⟨hq1, hq2⟩ := hq
  rcases PN j s0 sR (xs (Int32.toNatClampNeg (i + 1))) hj hI with ⟨b, sR1, H, HM, HT, I1⟩ | ⟨b, sR1, H, HM, HT, I1⟩
  · refine lc_14_N_t0 w1 H HM HT ?_
    exact KN _ _ _ _ I1 ⟨by (try dsimp only); omega, by (try dsimp only); omega⟩
  · refine lc_14_N_t1 w1 H HM HT ?_
    exact KN _ _ _ _ I1 ⟨by (try dsimp only); omega, by (try dsimp only); omega⟩

set_option maxRecDepth 20000 in
set_option maxHeartbeats 20000000 in
theorem lh_14_E {IN : t_IN} {IE : t_IE} {j n : Nat} {xs : Nat → Int32} {i : Int32} {sR : mo_S} {o : Nat → Int64} {q : Nat × Nat × Nat} {v1 v3 : Value} {g7 g8 : List pm_E} {u1 u3 : Nat} {s0 s4 s5 s6 : cs_S} (PE : ps_14_E_E IN IE) (hj : j < 512) (w1 : vp_in (i + 1) n) (w2 : vp_in (i + 2) n) (w3 : vp_in (i + 3) n) (w4 : vp_in (i + 4) n) (w5 : vp_in (i + 5) n) (hD : ok_D v1 g8 u1) (hT : ok_T v3 g7 u3) (hI : IE j s0 s4 s5 s6 sR) (hq : b_q j (21000 + u1 + u3) q) (KN : lh_KN IN (j + 1) n xs (i + 6)) (KE : lh_KE IE (j + 1) n xs (i + 6)) : pm_Wx 338 13 lw_F 601024 7293034 (921, [some (.ref 576), some (.ref 0), some (.ref 64), some (.ref 128), some (.int i), none, none, none], [], lh_E v1 v3 g7 g8 s0 s4 s5 s6 sR o n xs q) := by
  obtain ⟨hq1, hq2⟩ := hq
  rcases PE j s0 s4 s5 s6 sR (xs (Int32.toNatClampNeg (i + 1))) hj hI with ⟨r, z5, sR1, H, HM, HT, I1⟩ | ⟨b, z5, sR1, H, HM, HT, I1⟩
  · refine lc_14_E w1 H HM HT ?_
    exact KE _ _ _ _ _ _ _ _ _ _ _ _ _ hD hT I1 ⟨by (try dsimp only); omega, by (try dsimp only); omega⟩
  · refine lc_14_E_t1 w1 H HM HT ?_
    exact KE _ _ _ _ _ _ _ _ _ _ _ _ _ hD hT I1 ⟨by (try dsimp only); omega, by (try dsimp only); omega⟩

set_option maxRecDepth 20000 in
set_option maxHeartbeats 20000000 in
theorem lh_15_N {IN : t_IN} {IE : t_IE} {j n : Nat} {xs : Nat → Int32} {i : Int32} {sR : mo_S} {o : Nat → Int64} {q : Nat × Nat × Nat} {s0 : cs_S} (PN : ps_15_N_N IN IE) (hj : j < 512) (w1 : vp_in (i + 1) n) (w2 : vp_in (i + 2) n) (w3 : vp_in (i + 3) n) (w4 : vp_in (i + 4) n) (w5 : vp_in (i + 5) n) (hI : IN j s0 sR) (hq : b_q j 0 q) (KN : lh_KN IN (j + 1) n xs (i + 6)) (KE : lh_KE IE (j + 1) n xs (i + 6)) : pm_Wx 338 13 lw_F 601024 7293034 (977, [some (.ref 576), some (.ref 0), some (.ref 64), some (.ref 128), some (.int i), none, none, none], [], lh_N s0 sR o n xs q) := by
  obtain ⟨hq1, hq2⟩ := hq
  rcases PN j s0 sR (xs (Int32.toNatClampNeg (i + 1))) hj hI with ⟨b, sR1, H, HM, HT, I1⟩ | ⟨b, sR1, H, HM, HT, I1⟩
  · refine lc_15_N_t0 w1 H HM HT ?_
    exact KN _ _ _ _ I1 ⟨by (try dsimp only); omega, by (try dsimp only); omega⟩
  · refine lc_15_N_t1 w1 H HM HT ?_
    exact KN _ _ _ _ I1 ⟨by (try dsimp only); omega, by (try dsimp only); omega⟩

set_option maxRecDepth 20000 in
set_option maxHeartbeats 20000000 in
theorem lh_15_E {IN : t_IN} {IE : t_IE} {j n : Nat} {xs : Nat → Int32} {i : Int32} {sR : mo_S} {o : Nat → Int64} {q : Nat × Nat × Nat} {v1 v3 : Value} {g7 g8 : List pm_E} {u1 u3 : Nat} {s0 s4 s5 s6 : cs_S} (PE : ps_15_E_E IN IE) (hj : j < 512) (w1 : vp_in (i + 1) n) (w2 : vp_in (i + 2) n) (w3 : vp_in (i + 3) n) (w4 : vp_in (i + 4) n) (w5 : vp_in (i + 5) n) (hD : ok_D v1 g8 u1) (hT : ok_T v3 g7 u3) (hI : IE j s0 s4 s5 s6 sR) (hq : b_q j (21000 + u1 + u3) q) (KN : lh_KN IN (j + 1) n xs (i + 6)) (KE : lh_KE IE (j + 1) n xs (i + 6)) : pm_Wx 338 13 lw_F 601024 7293034 (977, [some (.ref 576), some (.ref 0), some (.ref 64), some (.ref 128), some (.int i), none, none, none], [], lh_E v1 v3 g7 g8 s0 s4 s5 s6 sR o n xs q) := by
  obtain ⟨hq1, hq2⟩ := hq
  rcases PE j s0 s4 s5 s6 sR (xs (Int32.toNatClampNeg (i + 1))) hj hI with ⟨r, z5, sR1, H, HM, HT, I1⟩ | ⟨b, z5, sR1, H, HM, HT, I1⟩
  · refine lc_15_E w1 H HM HT ?_
    exact KE _ _ _ _ _ _ _ _ _ _ _ _ _ hD hT I1 ⟨by (try dsimp only); omega, by (try dsimp only); omega⟩
  · refine lc_15_E_t1 w1 H HM HT ?_
    exact KE _ _ _ _ _ _ _ _ _ _ _ _ _ hD hT I1 ⟨by (try dsimp only); omega, by (try dsimp only); omega⟩

set_option maxRecDepth 20000 in
set_option maxHeartbeats 20000000 in
theorem lh_16_N {IN : t_IN} {IE : t_IE} {j n : Nat} {xs : Nat → Int32} {i : Int32} {sR : mo_S} {o : Nat → Int64} {q : Nat × Nat × Nat} {s0 : cs_S} (PN : ps_16_N_N IN IE) (hj : j < 512) (w1 : vp_in (i + 1) n) (w2 : vp_in (i + 2) n) (w3 : vp_in (i + 3) n) (w4 : vp_in (i + 4) n) (w5 : vp_in (i + 5) n) (hI : IN j s0 sR) (hq : b_q j 0 q) (KN : lh_KN IN (j + 1) n xs (i + 6)) (KE : lh_KE IE (j + 1) n xs (i + 6)) : pm_Wx 338 13 lw_F 601024 7293034 (1033, [some (.ref 576), some (.ref 0), some (.ref 64), some (.ref 128), some (.int i), none, none, none], [], lh_N s0 sR o n xs q) := by
  obtain ⟨hq1, hq2⟩ := hq
  obtain ⟨b, sR1, H, HM, HT, I1⟩ := PN j s0 sR (xs (Int32.toNatClampNeg (i + 1))) (xs (Int32.toNatClampNeg (i + 2))) (xs (Int32.toNatClampNeg (i + 3))) (xs (Int32.toNatClampNeg (i + 4))) hj hI
  refine lc_16_N_t2 w1 w2 w3 w4 H HM HT ?_
  exact KN _ _ _ _ I1 ⟨by (try dsimp only); omega, by (try dsimp only); omega⟩

set_option maxRecDepth 20000 in
set_option maxHeartbeats 20000000 in
theorem lh_16_E {IN : t_IN} {IE : t_IE} {j n : Nat} {xs : Nat → Int32} {i : Int32} {sR : mo_S} {o : Nat → Int64} {q : Nat × Nat × Nat} {v1 v3 : Value} {g7 g8 : List pm_E} {u1 u3 : Nat} {s0 s4 s5 s6 : cs_S} (PE : ps_16_E_E IN IE) (hj : j < 512) (w1 : vp_in (i + 1) n) (w2 : vp_in (i + 2) n) (w3 : vp_in (i + 3) n) (w4 : vp_in (i + 4) n) (w5 : vp_in (i + 5) n) (hD : ok_D v1 g8 u1) (hT : ok_T v3 g7 u3) (hI : IE j s0 s4 s5 s6 sR) (hq : b_q j (21000 + u1 + u3) q) (KN : lh_KN IN (j + 1) n xs (i + 6)) (KE : lh_KE IE (j + 1) n xs (i + 6)) : pm_Wx 338 13 lw_F 601024 7293034 (1033, [some (.ref 576), some (.ref 0), some (.ref 64), some (.ref 128), some (.int i), none, none, none], [], lh_E v1 v3 g7 g8 s0 s4 s5 s6 sR o n xs q) := by
  obtain ⟨hq1, hq2⟩ := hq
  rcases PE j s0 s4 s5 s6 sR (xs (Int32.toNatClampNeg (i + 1))) (xs (Int32.toNatClampNeg (i + 2))) (xs (Int32.toNatClampNeg (i + 3))) (xs (Int32.toNatClampNeg (i + 4))) hj hI with ⟨r, z4, sR1, H, HM, HT, I1⟩ | ⟨b, z4, sR1, H, HM, HT, I1⟩ | ⟨b, z4, sR1, H, HM, HT, I1⟩
  · refine lc_16_E w1 w2 w3 w4 H HM HT ?_
    exact KE _ _ _ _ _ _ _ _ _ _ _ _ _ hD hT I1 ⟨by (try dsimp only); omega, by (try dsimp only); omega⟩
  · refine lc_16_E_t1 w1 w2 w3 w4 H HM HT ?_
    exact KE _ _ _ _ _ _ _ _ _ _ _ _ _ hD hT I1 ⟨by (try dsimp only); omega, by (try dsimp only); omega⟩
  · refine lc_16_E_t2 w1 w2 w3 w4 H HM HT ?_
    exact KE _ _ _ _ _ _ _ _ _ _ _ _ _ hD hT I1 ⟨by (try dsimp only); omega, by (try dsimp only); omega⟩

set_option maxRecDepth 20000 in
set_option maxHeartbeats 20000000 in
theorem lh_17_N {IN : t_IN} {IE : t_IE} {j n : Nat} {xs : Nat → Int32} {i : Int32} {sR : mo_S} {o : Nat → Int64} {q : Nat × Nat × Nat} {s0 : cs_S} (PN : ps_17_N_N IN IE) (hj : j < 512) (w1 : vp_in (i + 1) n) (w2 : vp_in (i + 2) n) (w3 : vp_in (i + 3) n) (w4 : vp_in (i + 4) n) (w5 : vp_in (i + 5) n) (hI : IN j s0 sR) (hq : b_q j 0 q) (KN : lh_KN IN (j + 1) n xs (i + 6)) (KE : lh_KE IE (j + 1) n xs (i + 6)) : pm_Wx 338 13 lw_F 601024 7293034 (1125, [some (.ref 576), some (.ref 0), some (.ref 64), some (.ref 128), some (.int i), none, none, none], [], lh_N s0 sR o n xs q) := by
  obtain ⟨hq1, hq2⟩ := hq
  obtain ⟨r, sR1, H, HM, I1⟩ := PN j s0 sR hj hI
  refine lc_17_N H HM ?_
  exact KN _ _ _ _ I1 ⟨by (try dsimp only); omega, by (try dsimp only); omega⟩

set_option maxRecDepth 20000 in
set_option maxHeartbeats 20000000 in
theorem lh_17_E {IN : t_IN} {IE : t_IE} {j n : Nat} {xs : Nat → Int32} {i : Int32} {sR : mo_S} {o : Nat → Int64} {q : Nat × Nat × Nat} {v1 v3 : Value} {g7 g8 : List pm_E} {u1 u3 : Nat} {s0 s4 s5 s6 : cs_S} (PE : ps_17_E_E IN IE) (hj : j < 512) (w1 : vp_in (i + 1) n) (w2 : vp_in (i + 2) n) (w3 : vp_in (i + 3) n) (w4 : vp_in (i + 4) n) (w5 : vp_in (i + 5) n) (hD : ok_D v1 g8 u1) (hT : ok_T v3 g7 u3) (hI : IE j s0 s4 s5 s6 sR) (hq : b_q j (21000 + u1 + u3) q) (KN : lh_KN IN (j + 1) n xs (i + 6)) (KE : lh_KE IE (j + 1) n xs (i + 6)) : pm_Wx 338 13 lw_F 601024 7293034 (1125, [some (.ref 576), some (.ref 0), some (.ref 64), some (.ref 128), some (.int i), none, none, none], [], lh_E v1 v3 g7 g8 s0 s4 s5 s6 sR o n xs q) := by
  obtain ⟨hq1, hq2⟩ := hq
  obtain ⟨r, sR1, H, HM, I1⟩ := PE j s0 s4 s5 s6 sR hj hI
  refine lc_17_E H HM ?_
  exact KE _ _ _ _ _ _ _ _ _ _ _ _ _ hD hT I1 ⟨by (try dsimp only); omega, by (try dsimp only); omega⟩

set_option maxRecDepth 20000 in
set_option maxHeartbeats 20000000 in
theorem lh_18_N {IN : t_IN} {IE : t_IE} {j n : Nat} {xs : Nat → Int32} {i : Int32} {sR : mo_S} {o : Nat → Int64} {q : Nat × Nat × Nat} {s0 : cs_S} (PN : ps_18_N_N IN IE) (hj : j < 512) (w1 : vp_in (i + 1) n) (w2 : vp_in (i + 2) n) (w3 : vp_in (i + 3) n) (w4 : vp_in (i + 4) n) (w5 : vp_in (i + 5) n) (hI : IN j s0 sR) (hq : b_q j 0 q) (KN : lh_KN IN (j + 1) n xs (i + 6)) (KE : lh_KE IE (j + 1) n xs (i + 6)) : pm_Wx 338 13 lw_F 601024 7293034 (1138, [some (.ref 576), some (.ref 0), some (.ref 64), some (.ref 128), some (.int i), none, none, none], [], lh_N s0 sR o n xs q) := by
  obtain ⟨hq1, hq2⟩ := hq
  obtain ⟨r, sR1, H, HM, I1⟩ := PN j s0 sR hj hI
  refine lc_18_N H HM ?_
  exact KN _ _ _ _ I1 ⟨by (try dsimp only); omega, by (try dsimp only); omega⟩

set_option maxRecDepth 20000 in
set_option maxHeartbeats 20000000 in
theorem lh_18_E {IN : t_IN} {IE : t_IE} {j n : Nat} {xs : Nat → Int32} {i : Int32} {sR : mo_S} {o : Nat → Int64} {q : Nat × Nat × Nat} {v1 v3 : Value} {g7 g8 : List pm_E} {u1 u3 : Nat} {s0 s4 s5 s6 : cs_S} (PE : ps_18_E_E IN IE) (hj : j < 512) (w1 : vp_in (i + 1) n) (w2 : vp_in (i + 2) n) (w3 : vp_in (i + 3) n) (w4 : vp_in (i + 4) n) (w5 : vp_in (i + 5) n) (hD : ok_D v1 g8 u1) (hT : ok_T v3 g7 u3) (hI : IE j s0 s4 s5 s6 sR) (hq : b_q j (21000 + u1 + u3) q) (KN : lh_KN IN (j + 1) n xs (i + 6)) (KE : lh_KE IE (j + 1) n xs (i + 6)) : pm_Wx 338 13 lw_F 601024 7293034 (1138, [some (.ref 576), some (.ref 0), some (.ref 64), some (.ref 128), some (.int i), none, none, none], [], lh_E v1 v3 g7 g8 s0 s4 s5 s6 sR o n xs q) := by
  obtain ⟨hq1, hq2⟩ := hq
  obtain ⟨r, sR1, H, HM, I1⟩ := PE j s0 s4 s5 s6 sR hj hI
  refine lc_18_E H HM ?_
  exact KE _ _ _ _ _ _ _ _ _ _ _ _ _ hD hT I1 ⟨by (try dsimp only); omega, by (try dsimp only); omega⟩

set_option maxRecDepth 20000 in
set_option maxHeartbeats 20000000 in
theorem lh_19_N {IN : t_IN} {IE : t_IE} {j n : Nat} {xs : Nat → Int32} {i : Int32} {sR : mo_S} {o : Nat → Int64} {q : Nat × Nat × Nat} {s0 : cs_S} (PN : ps_19_N_N IN IE) (hj : j < 512) (w1 : vp_in (i + 1) n) (w2 : vp_in (i + 2) n) (w3 : vp_in (i + 3) n) (w4 : vp_in (i + 4) n) (w5 : vp_in (i + 5) n) (hI : IN j s0 sR) (hq : b_q j 0 q) (KN : lh_KN IN (j + 1) n xs (i + 6)) (KE : lh_KE IE (j + 1) n xs (i + 6)) : pm_Wx 338 13 lw_F 601024 7293034 (1151, [some (.ref 576), some (.ref 0), some (.ref 64), some (.ref 128), some (.int i), none, none, none], [], lh_N s0 sR o n xs q) := by
  obtain ⟨hq1, hq2⟩ := hq
  obtain ⟨b, sR1, H, HM, HT, I1⟩ := PN j s0 sR (xs (Int32.toNatClampNeg (i + 1))) (xs (Int32.toNatClampNeg (i + 2))) hj hI
  refine lc_19_N_t2 w1 w2 H HM HT ?_
  exact KN _ _ _ _ I1 ⟨by (try dsimp only); omega, by (try dsimp only); omega⟩

set_option maxRecDepth 20000 in
set_option maxHeartbeats 20000000 in
theorem lh_19_E {IN : t_IN} {IE : t_IE} {j n : Nat} {xs : Nat → Int32} {i : Int32} {sR : mo_S} {o : Nat → Int64} {q : Nat × Nat × Nat} {v1 v3 : Value} {g7 g8 : List pm_E} {u1 u3 : Nat} {s0 s4 s5 s6 : cs_S} (PE : ps_19_E_E IN IE) (hj : j < 512) (w1 : vp_in (i + 1) n) (w2 : vp_in (i + 2) n) (w3 : vp_in (i + 3) n) (w4 : vp_in (i + 4) n) (w5 : vp_in (i + 5) n) (hD : ok_D v1 g8 u1) (hT : ok_T v3 g7 u3) (hI : IE j s0 s4 s5 s6 sR) (hq : b_q j (21000 + u1 + u3) q) (KN : lh_KN IN (j + 1) n xs (i + 6)) (KE : lh_KE IE (j + 1) n xs (i + 6)) : pm_Wx 338 13 lw_F 601024 7293034 (1151, [some (.ref 576), some (.ref 0), some (.ref 64), some (.ref 128), some (.int i), none, none, none], [], lh_E v1 v3 g7 g8 s0 s4 s5 s6 sR o n xs q) := by
  obtain ⟨hq1, hq2⟩ := hq
  rcases PE j s0 s4 s5 s6 sR (xs (Int32.toNatClampNeg (i + 1))) (xs (Int32.toNatClampNeg (i + 2))) hj hI with ⟨r, sR1, H, HM, HT, I1⟩ | ⟨b, sR1, H, HM, HT, I1⟩
  · refine lc_19_E w1 w2 H HM HT ?_
    exact KE _ _ _ _ _ _ _ _ _ _ _ _ _ hD hT I1 ⟨by (try dsimp only); omega, by (try dsimp only); omega⟩
  · refine lc_19_E_t2 w1 w2 H HM HT ?_
    exact KE _ _ _ _ _ _ _ _ _ _ _ _ _ hD hT I1 ⟨by (try dsimp only); omega, by (try dsimp only); omega⟩

set_option maxRecDepth 20000 in
set_option maxHeartbeats 20000000 in
theorem lh_20_N {IN : t_IN} {IE : t_IE} {j n : Nat} {xs : Nat → Int32} {i : Int32} {sR : mo_S} {o : Nat → Int64} {q : Nat × Nat × Nat} {s0 : cs_S} (PN : ps_20_N_N IN IE) (hj : j < 512) (w1 : vp_in (i + 1) n) (w2 : vp_in (i + 2) n) (w3 : vp_in (i + 3) n) (w4 : vp_in (i + 4) n) (w5 : vp_in (i + 5) n) (hI : IN j s0 sR) (hq : b_q j 0 q) (KN : lh_KN IN (j + 1) n xs (i + 6)) (KE : lh_KE IE (j + 1) n xs (i + 6)) : pm_Wx 338 13 lw_F 601024 7293034 (1219, [some (.ref 576), some (.ref 0), some (.ref 64), some (.ref 128), some (.int i), none, none, none], [], lh_N s0 sR o n xs q) := by
  obtain ⟨hq1, hq2⟩ := hq
  obtain ⟨b, sR1, H, HM, HT, I1⟩ := PN j s0 sR (xs (Int32.toNatClampNeg (i + 1))) (xs (Int32.toNatClampNeg (i + 2))) (xs (Int32.toNatClampNeg (i + 3))) hj hI
  refine lc_20_N_t2 w1 w2 w3 H HM HT ?_
  exact KN _ _ _ _ I1 ⟨by (try dsimp only); omega, by (try dsimp only); omega⟩

set_option maxRecDepth 20000 in
set_option maxHeartbeats 20000000 in
theorem lh_20_E {IN : t_IN} {IE : t_IE} {j n : Nat} {xs : Nat → Int32} {i : Int32} {sR : mo_S} {o : Nat → Int64} {q : Nat × Nat × Nat} {v1 v3 : Value} {g7 g8 : List pm_E} {u1 u3 : Nat} {s0 s4 s5 s6 : cs_S} (PE : ps_20_E_E IN IE) (hj : j < 512) (w1 : vp_in (i + 1) n) (w2 : vp_in (i + 2) n) (w3 : vp_in (i + 3) n) (w4 : vp_in (i + 4) n) (w5 : vp_in (i + 5) n) (hD : ok_D v1 g8 u1) (hT : ok_T v3 g7 u3) (hI : IE j s0 s4 s5 s6 sR) (hq : b_q j (21000 + u1 + u3) q) (KN : lh_KN IN (j + 1) n xs (i + 6)) (KE : lh_KE IE (j + 1) n xs (i + 6)) : pm_Wx 338 13 lw_F 601024 7293034 (1219, [some (.ref 576), some (.ref 0), some (.ref 64), some (.ref 128), some (.int i), none, none, none], [], lh_E v1 v3 g7 g8 s0 s4 s5 s6 sR o n xs q) := by
  obtain ⟨hq1, hq2⟩ := hq
  rcases PE j s0 s4 s5 s6 sR (xs (Int32.toNatClampNeg (i + 1))) (xs (Int32.toNatClampNeg (i + 2))) (xs (Int32.toNatClampNeg (i + 3))) hj hI with ⟨r, sR1, H, HM, HT, I1⟩ | ⟨b, sR1, H, HM, HT, I1⟩ | ⟨b, sR1, H, HM, HT, I1⟩
  · refine lc_20_E w1 w2 w3 H HM HT ?_
    exact KE _ _ _ _ _ _ _ _ _ _ _ _ _ hD hT I1 ⟨by (try dsimp only); omega, by (try dsimp only); omega⟩
  · refine lc_20_E_t1 w1 w2 w3 H HM HT ?_
    exact KE _ _ _ _ _ _ _ _ _ _ _ _ _ hD hT I1 ⟨by (try dsimp only); omega, by (try dsimp only); omega⟩
  · refine lc_20_E_t2 w1 w2 w3 H HM HT ?_
    exact KE _ _ _ _ _ _ _ _ _ _ _ _ _ hD hT I1 ⟨by (try dsimp only); omega, by (try dsimp only); omega⟩

set_option maxRecDepth 20000 in
set_option maxHeartbeats 20000000 in
theorem lh_21_N {IN : t_IN} {IE : t_IE} {j n : Nat} {xs : Nat → Int32} {i : Int32} {sR : mo_S} {o : Nat → Int64} {q : Nat × Nat × Nat} {s0 : cs_S} (PN : ps_21_N_N IN IE) (hj : j < 512) (w1 : vp_in (i + 1) n) (w2 : vp_in (i + 2) n) (w3 : vp_in (i + 3) n) (w4 : vp_in (i + 4) n) (w5 : vp_in (i + 5) n) (hI : IN j s0 sR) (hq : b_q j 0 q) (KN : lh_KN IN (j + 1) n xs (i + 6)) (KE : lh_KE IE (j + 1) n xs (i + 6)) : pm_Wx 338 13 lw_F 601024 7293034 (1298, [some (.ref 576), some (.ref 0), some (.ref 64), some (.ref 128), some (.int i), none, none, none], [], lh_N s0 sR o n xs q) := by
  obtain ⟨hq1, hq2⟩ := hq
  obtain ⟨b, sR1, H, HM, HT, I1⟩ := PN j s0 sR (xs (Int32.toNatClampNeg (i + 1))) hj hI
  refine lc_21_N_t2 w1 H HM HT ?_
  exact KN _ _ _ _ I1 ⟨by (try dsimp only); omega, by (try dsimp only); omega⟩

set_option maxRecDepth 20000 in
set_option maxHeartbeats 20000000 in
theorem lh_21_E {IN : t_IN} {IE : t_IE} {j n : Nat} {xs : Nat → Int32} {i : Int32} {sR : mo_S} {o : Nat → Int64} {q : Nat × Nat × Nat} {v1 v3 : Value} {g7 g8 : List pm_E} {u1 u3 : Nat} {s0 s4 s5 s6 : cs_S} (PE : ps_21_E_E IN IE) (hj : j < 512) (w1 : vp_in (i + 1) n) (w2 : vp_in (i + 2) n) (w3 : vp_in (i + 3) n) (w4 : vp_in (i + 4) n) (w5 : vp_in (i + 5) n) (hD : ok_D v1 g8 u1) (hT : ok_T v3 g7 u3) (hI : IE j s0 s4 s5 s6 sR) (hq : b_q j (21000 + u1 + u3) q) (KN : lh_KN IN (j + 1) n xs (i + 6)) (KE : lh_KE IE (j + 1) n xs (i + 6)) : pm_Wx 338 13 lw_F 601024 7293034 (1298, [some (.ref 576), some (.ref 0), some (.ref 64), some (.ref 128), some (.int i), none, none, none], [], lh_E v1 v3 g7 g8 s0 s4 s5 s6 sR o n xs q) := by
  obtain ⟨hq1, hq2⟩ := hq
  rcases PE j s0 s4 s5 s6 sR (xs (Int32.toNatClampNeg (i + 1))) hj hI with ⟨r, sR1, H, HM, HT, I1⟩ | ⟨b, sR1, H, HM, HT, I1⟩
  · refine lc_21_E w1 H HM HT ?_
    exact KE _ _ _ _ _ _ _ _ _ _ _ _ _ hD hT I1 ⟨by (try dsimp only); omega, by (try dsimp only); omega⟩
  · refine lc_21_E_t2 w1 H HM HT ?_
    exact KE _ _ _ _ _ _ _ _ _ _ _ _ _ hD hT I1 ⟨by (try dsimp only); omega, by (try dsimp only); omega⟩

set_option maxRecDepth 20000 in
set_option maxHeartbeats 20000000 in
theorem lh_22_N {IN : t_IN} {IE : t_IE} {j n : Nat} {xs : Nat → Int32} {i : Int32} {sR : mo_S} {o : Nat → Int64} {q : Nat × Nat × Nat} {s0 : cs_S} (PN : ps_22_N_N IN IE) (hj : j < 512) (w1 : vp_in (i + 1) n) (w2 : vp_in (i + 2) n) (w3 : vp_in (i + 3) n) (w4 : vp_in (i + 4) n) (w5 : vp_in (i + 5) n) (hI : IN j s0 sR) (hq : b_q j 0 q) (KN : lh_KN IN (j + 1) n xs (i + 6)) (KE : lh_KE IE (j + 1) n xs (i + 6)) : pm_Wx 338 13 lw_F 601024 7293034 (1354, [some (.ref 576), some (.ref 0), some (.ref 64), some (.ref 128), some (.int i), none, none, none], [], lh_N s0 sR o n xs q) := by
  obtain ⟨hq1, hq2⟩ := hq
  obtain ⟨b, sR1, H, HM, HT, I1⟩ := PN j s0 sR (xs (Int32.toNatClampNeg (i + 1))) hj hI
  refine lc_22_N_t2 w1 H HM HT ?_
  exact KN _ _ _ _ I1 ⟨by (try dsimp only); omega, by (try dsimp only); omega⟩

set_option maxRecDepth 20000 in
set_option maxHeartbeats 20000000 in
theorem lh_22_E {IN : t_IN} {IE : t_IE} {j n : Nat} {xs : Nat → Int32} {i : Int32} {sR : mo_S} {o : Nat → Int64} {q : Nat × Nat × Nat} {v1 v3 : Value} {g7 g8 : List pm_E} {u1 u3 : Nat} {s0 s4 s5 s6 : cs_S} (PE : ps_22_E_E IN IE) (hj : j < 512) (w1 : vp_in (i + 1) n) (w2 : vp_in (i + 2) n) (w3 : vp_in (i + 3) n) (w4 : vp_in (i + 4) n) (w5 : vp_in (i + 5) n) (hD : ok_D v1 g8 u1) (hT : ok_T v3 g7 u3) (hI : IE j s0 s4 s5 s6 sR) (hq : b_q j (21000 + u1 + u3) q) (KN : lh_KN IN (j + 1) n xs (i + 6)) (KE : lh_KE IE (j + 1) n xs (i + 6)) : pm_Wx 338 13 lw_F 601024 7293034 (1354, [some (.ref 576), some (.ref 0), some (.ref 64), some (.ref 128), some (.int i), none, none, none], [], lh_E v1 v3 g7 g8 s0 s4 s5 s6 sR o n xs q) := by
  obtain ⟨hq1, hq2⟩ := hq
  rcases PE j s0 s4 s5 s6 sR (xs (Int32.toNatClampNeg (i + 1))) hj hI with ⟨r, sR1, H, HM, HT, I1⟩ | ⟨b, sR1, H, HM, HT, I1⟩
  · refine lc_22_E w1 H HM HT ?_
    exact KE _ _ _ _ _ _ _ _ _ _ _ _ _ hD hT I1 ⟨by (try dsimp only); omega, by (try dsimp only); omega⟩
  · refine lc_22_E_t2 w1 H HM HT ?_
    exact KE _ _ _ _ _ _ _ _ _ _ _ _ _ hD hT I1 ⟨by (try dsimp only); omega, by (try dsimp only); omega⟩

set_option maxRecDepth 20000 in
set_option maxHeartbeats 20000000 in
theorem lh_23_N {IN : t_IN} {IE : t_IE} {j n : Nat} {xs : Nat → Int32} {i : Int32} {sR : mo_S} {o : Nat → Int64} {q : Nat × Nat × Nat} {s0 : cs_S} (PN : ps_23_N_N IN IE) (hj : j < 512) (w1 : vp_in (i + 1) n) (w2 : vp_in (i + 2) n) (w3 : vp_in (i + 3) n) (w4 : vp_in (i + 4) n) (w5 : vp_in (i + 5) n) (hI : IN j s0 sR) (hq : b_q j 0 q) (KN : lh_KN IN (j + 1) n xs (i + 6)) (KE : lh_KE IE (j + 1) n xs (i + 6)) : pm_Wx 338 13 lw_F 601024 7293034 (1410, [some (.ref 576), some (.ref 0), some (.ref 64), some (.ref 128), some (.int i), none, none, none], [], lh_N s0 sR o n xs q) := by
  obtain ⟨hq1, hq2⟩ := hq
  obtain ⟨b, sR1, H, HM, HT, I1⟩ := PN j s0 sR (xs (Int32.toNatClampNeg (i + 1))) hj hI
  refine lc_23_N_t2 w1 H HM HT ?_
  exact KN _ _ _ _ I1 ⟨by (try dsimp only); omega, by (try dsimp only); omega⟩

set_option maxRecDepth 20000 in
set_option maxHeartbeats 20000000 in
theorem lh_23_E {IN : t_IN} {IE : t_IE} {j n : Nat} {xs : Nat → Int32} {i : Int32} {sR : mo_S} {o : Nat → Int64} {q : Nat × Nat × Nat} {v1 v3 : Value} {g7 g8 : List pm_E} {u1 u3 : Nat} {s0 s4 s5 s6 : cs_S} (PE : ps_23_E_E IN IE) (hj : j < 512) (w1 : vp_in (i + 1) n) (w2 : vp_in (i + 2) n) (w3 : vp_in (i + 3) n) (w4 : vp_in (i + 4) n) (w5 : vp_in (i + 5) n) (hD : ok_D v1 g8 u1) (hT : ok_T v3 g7 u3) (hI : IE j s0 s4 s5 s6 sR) (hq : b_q j (21000 + u1 + u3) q) (KN : lh_KN IN (j + 1) n xs (i + 6)) (KE : lh_KE IE (j + 1) n xs (i + 6)) : pm_Wx 338 13 lw_F 601024 7293034 (1410, [some (.ref 576), some (.ref 0), some (.ref 64), some (.ref 128), some (.int i), none, none, none], [], lh_E v1 v3 g7 g8 s0 s4 s5 s6 sR o n xs q) := by
  obtain ⟨hq1, hq2⟩ := hq
  rcases PE j s0 s4 s5 s6 sR (xs (Int32.toNatClampNeg (i + 1))) hj hI with ⟨r, sR1, H, HM, HT, I1⟩ | ⟨b, sR1, H, HM, HT, I1⟩
  · refine lc_23_E w1 H HM HT ?_
    exact KE _ _ _ _ _ _ _ _ _ _ _ _ _ hD hT I1 ⟨by (try dsimp only); omega, by (try dsimp only); omega⟩
  · refine lc_23_E_t2 w1 H HM HT ?_
    exact KE _ _ _ _ _ _ _ _ _ _ _ _ _ hD hT I1 ⟨by (try dsimp only); omega, by (try dsimp only); omega⟩

set_option maxRecDepth 20000 in
set_option maxHeartbeats 20000000 in
theorem lh_24_N {IN : t_IN} {IE : t_IE} {j n : Nat} {xs : Nat → Int32} {i : Int32} {sR : mo_S} {o : Nat → Int64} {q : Nat × Nat × Nat} {s0 : cs_S} (PN : ps_24_N_N IN IE) (hj : j < 512) (w1 : vp_in (i + 1) n) (w2 : vp_in (i + 2) n) (w3 : vp_in (i + 3) n) (w4 : vp_in (i + 4) n) (w5 : vp_in (i + 5) n) (hI : IN j s0 sR) (hq : b_q j 0 q) (KN : lh_KN IN (j + 1) n xs (i + 6)) (KE : lh_KE IE (j + 1) n xs (i + 6)) : pm_Wx 338 13 lw_F 601024 7293034 (1466, [some (.ref 576), some (.ref 0), some (.ref 64), some (.ref 128), some (.int i), none, none, none], [], lh_N s0 sR o n xs q) := by
  obtain ⟨hq1, hq2⟩ := hq
  obtain ⟨b, sR1, H, HM, HT, I1⟩ := PN j s0 sR (xs (Int32.toNatClampNeg (i + 1))) hj hI
  refine lc_24_N_t2 w1 H HM HT ?_
  exact KN _ _ _ _ I1 ⟨by (try dsimp only); omega, by (try dsimp only); omega⟩

set_option maxRecDepth 20000 in
set_option maxHeartbeats 20000000 in
theorem lh_24_E {IN : t_IN} {IE : t_IE} {j n : Nat} {xs : Nat → Int32} {i : Int32} {sR : mo_S} {o : Nat → Int64} {q : Nat × Nat × Nat} {v1 v3 : Value} {g7 g8 : List pm_E} {u1 u3 : Nat} {s0 s4 s5 s6 : cs_S} (PE : ps_24_E_E IN IE) (hj : j < 512) (w1 : vp_in (i + 1) n) (w2 : vp_in (i + 2) n) (w3 : vp_in (i + 3) n) (w4 : vp_in (i + 4) n) (w5 : vp_in (i + 5) n) (hD : ok_D v1 g8 u1) (hT : ok_T v3 g7 u3) (hI : IE j s0 s4 s5 s6 sR) (hq : b_q j (21000 + u1 + u3) q) (KN : lh_KN IN (j + 1) n xs (i + 6)) (KE : lh_KE IE (j + 1) n xs (i + 6)) : pm_Wx 338 13 lw_F 601024 7293034 (1466, [some (.ref 576), some (.ref 0), some (.ref 64), some (.ref 128), some (.int i), none, none, none], [], lh_E v1 v3 g7 g8 s0 s4 s5 s6 sR o n xs q) := by
  obtain ⟨hq1, hq2⟩ := hq
  rcases PE j s0 s4 s5 s6 sR (xs (Int32.toNatClampNeg (i + 1))) hj hI with ⟨r, sR1, H, HM, HT, I1⟩ | ⟨b, sR1, H, HM, HT, I1⟩
  · refine lc_24_E w1 H HM HT ?_
    exact KE _ _ _ _ _ _ _ _ _ _ _ _ _ hD hT I1 ⟨by (try dsimp only); omega, by (try dsimp only); omega⟩
  · refine lc_24_E_t2 w1 H HM HT ?_
    exact KE _ _ _ _ _ _ _ _ _ _ _ _ _ hD hT I1 ⟨by (try dsimp only); omega, by (try dsimp only); omega⟩

set_option maxRecDepth 20000 in
set_option maxHeartbeats 20000000 in
theorem lh_25_N {IN : t_IN} {IE : t_IE} {j n : Nat} {xs : Nat → Int32} {i : Int32} {sR : mo_S} {o : Nat → Int64} {q : Nat × Nat × Nat} {s0 : cs_S} (PN : ps_25_N_N IN IE) (hj : j < 512) (w1 : vp_in (i + 1) n) (w2 : vp_in (i + 2) n) (w3 : vp_in (i + 3) n) (w4 : vp_in (i + 4) n) (w5 : vp_in (i + 5) n) (hI : IN j s0 sR) (hq : b_q j 0 q) (KN : lh_KN IN (j + 1) n xs (i + 6)) (KE : lh_KE IE (j + 1) n xs (i + 6)) : pm_Wx 338 13 lw_F 601024 7293034 (1522, [some (.ref 576), some (.ref 0), some (.ref 64), some (.ref 128), some (.int i), none, none, none], [], lh_N s0 sR o n xs q) := by
  obtain ⟨hq1, hq2⟩ := hq
  obtain ⟨b, sR1, H, HM, HT, I1⟩ := PN j s0 sR (xs (Int32.toNatClampNeg (i + 1))) (xs (Int32.toNatClampNeg (i + 2))) hj hI
  refine lc_25_N_t2 w1 w2 H HM HT ?_
  exact KN _ _ _ _ I1 ⟨by (try dsimp only); omega, by (try dsimp only); omega⟩

set_option maxRecDepth 20000 in
set_option maxHeartbeats 20000000 in
theorem lh_25_E {IN : t_IN} {IE : t_IE} {j n : Nat} {xs : Nat → Int32} {i : Int32} {sR : mo_S} {o : Nat → Int64} {q : Nat × Nat × Nat} {v1 v3 : Value} {g7 g8 : List pm_E} {u1 u3 : Nat} {s0 s4 s5 s6 : cs_S} (PE : ps_25_E_E IN IE) (hj : j < 512) (w1 : vp_in (i + 1) n) (w2 : vp_in (i + 2) n) (w3 : vp_in (i + 3) n) (w4 : vp_in (i + 4) n) (w5 : vp_in (i + 5) n) (hD : ok_D v1 g8 u1) (hT : ok_T v3 g7 u3) (hI : IE j s0 s4 s5 s6 sR) (hq : b_q j (21000 + u1 + u3) q) (KN : lh_KN IN (j + 1) n xs (i + 6)) (KE : lh_KE IE (j + 1) n xs (i + 6)) : pm_Wx 338 13 lw_F 601024 7293034 (1522, [some (.ref 576), some (.ref 0), some (.ref 64), some (.ref 128), some (.int i), none, none, none], [], lh_E v1 v3 g7 g8 s0 s4 s5 s6 sR o n xs q) := by
  obtain ⟨hq1, hq2⟩ := hq
  rcases PE j s0 s4 s5 s6 sR (xs (Int32.toNatClampNeg (i + 1))) (xs (Int32.toNatClampNeg (i + 2))) hj hI with ⟨r, sR1, H, HM, HT, I1⟩ | ⟨b, sR1, H, HM, HT, I1⟩
  · refine lc_25_E w1 w2 H HM HT ?_
    exact KE _ _ _ _ _ _ _ _ _ _ _ _ _ hD hT I1 ⟨by (try dsimp only); omega, by (try dsimp only); omega⟩
  · refine lc_25_E_t2 w1 w2 H HM HT ?_
    exact KE _ _ _ _ _ _ _ _ _ _ _ _ _ hD hT I1 ⟨by (try dsimp only); omega, by (try dsimp only); omega⟩

set_option maxRecDepth 20000 in
set_option maxHeartbeats 20000000 in
theorem lh_26_N {IN : t_IN} {IE : t_IE} {j n : Nat} {xs : Nat → Int32} {i : Int32} {sR : mo_S} {o : Nat → Int64} {q : Nat × Nat × Nat} {s0 : cs_S} (PN : ps_26_N_N IN IE) (hj : j < 512) (w1 : vp_in (i + 1) n) (w2 : vp_in (i + 2) n) (w3 : vp_in (i + 3) n) (w4 : vp_in (i + 4) n) (w5 : vp_in (i + 5) n) (hI : IN j s0 sR) (hq : b_q j 0 q) (KN : lh_KN IN (j + 1) n xs (i + 6)) (KE : lh_KE IE (j + 1) n xs (i + 6)) : pm_Wx 338 13 lw_F 601024 7293034 (1590, [some (.ref 576), some (.ref 0), some (.ref 64), some (.ref 128), some (.int i), none, none, none], [], lh_N s0 sR o n xs q) := by
  obtain ⟨hq1, hq2⟩ := hq
  obtain ⟨b, sR1, H, HM, HT, I1⟩ := PN j s0 sR (xs (Int32.toNatClampNeg (i + 1))) (xs (Int32.toNatClampNeg (i + 2))) hj hI
  refine lc_26_N_t2 w1 w2 H HM HT ?_
  exact KN _ _ _ _ I1 ⟨by (try dsimp only); omega, by (try dsimp only); omega⟩

set_option maxRecDepth 20000 in
set_option maxHeartbeats 20000000 in
theorem lh_26_E {IN : t_IN} {IE : t_IE} {j n : Nat} {xs : Nat → Int32} {i : Int32} {sR : mo_S} {o : Nat → Int64} {q : Nat × Nat × Nat} {v1 v3 : Value} {g7 g8 : List pm_E} {u1 u3 : Nat} {s0 s4 s5 s6 : cs_S} (PE : ps_26_E_E IN IE) (hj : j < 512) (w1 : vp_in (i + 1) n) (w2 : vp_in (i + 2) n) (w3 : vp_in (i + 3) n) (w4 : vp_in (i + 4) n) (w5 : vp_in (i + 5) n) (hD : ok_D v1 g8 u1) (hT : ok_T v3 g7 u3) (hI : IE j s0 s4 s5 s6 sR) (hq : b_q j (21000 + u1 + u3) q) (KN : lh_KN IN (j + 1) n xs (i + 6)) (KE : lh_KE IE (j + 1) n xs (i + 6)) : pm_Wx 338 13 lw_F 601024 7293034 (1590, [some (.ref 576), some (.ref 0), some (.ref 64), some (.ref 128), some (.int i), none, none, none], [], lh_E v1 v3 g7 g8 s0 s4 s5 s6 sR o n xs q) := by
  obtain ⟨hq1, hq2⟩ := hq
  rcases PE j s0 s4 s5 s6 sR (xs (Int32.toNatClampNeg (i + 1))) (xs (Int32.toNatClampNeg (i + 2))) hj hI with ⟨r, sR1, H, HM, HT, I1⟩ | ⟨b, sR1, H, HM, HT, I1⟩ | ⟨b, sR1, H, HM, HT, I1⟩
  · refine lc_26_E w1 w2 H HM HT ?_
    exact KE _ _ _ _ _ _ _ _ _ _ _ _ _ hD hT I1 ⟨by (try dsimp only); omega, by (try dsimp only); omega⟩
  · refine lc_26_E_t1 w1 w2 H HM HT ?_
    exact KE _ _ _ _ _ _ _ _ _ _ _ _ _ hD hT I1 ⟨by (try dsimp only); omega, by (try dsimp only); omega⟩
  · refine lc_26_E_t2 w1 w2 H HM HT ?_
    exact KE _ _ _ _ _ _ _ _ _ _ _ _ _ hD hT I1 ⟨by (try dsimp only); omega, by (try dsimp only); omega⟩

set_option maxRecDepth 20000 in
set_option maxHeartbeats 20000000 in
theorem lh_27_N {IN : t_IN} {IE : t_IE} {j n : Nat} {xs : Nat → Int32} {i : Int32} {sR : mo_S} {o : Nat → Int64} {q : Nat × Nat × Nat} {s0 : cs_S} (PN : ps_27_N_N IN IE) (hj : j < 512) (w1 : vp_in (i + 1) n) (w2 : vp_in (i + 2) n) (w3 : vp_in (i + 3) n) (w4 : vp_in (i + 4) n) (w5 : vp_in (i + 5) n) (hI : IN j s0 sR) (hq : b_q j 0 q) (KN : lh_KN IN (j + 1) n xs (i + 6)) (KE : lh_KE IE (j + 1) n xs (i + 6)) : pm_Wx 338 13 lw_F 601024 7293034 (1658, [some (.ref 576), some (.ref 0), some (.ref 64), some (.ref 128), some (.int i), none, none, none], [], lh_N s0 sR o n xs q) := by
  obtain ⟨hq1, hq2⟩ := hq
  obtain ⟨r, sR1, H, HM, I1⟩ := PN j s0 sR hj hI
  refine lc_27_N H HM ?_
  exact KN _ _ _ _ I1 ⟨by (try dsimp only); omega, by (try dsimp only); omega⟩

set_option maxRecDepth 20000 in
set_option maxHeartbeats 20000000 in
theorem lh_27_E {IN : t_IN} {IE : t_IE} {j n : Nat} {xs : Nat → Int32} {i : Int32} {sR : mo_S} {o : Nat → Int64} {q : Nat × Nat × Nat} {v1 v3 : Value} {g7 g8 : List pm_E} {u1 u3 : Nat} {s0 s4 s5 s6 : cs_S} (PE : ps_27_E_E IN IE) (hj : j < 512) (w1 : vp_in (i + 1) n) (w2 : vp_in (i + 2) n) (w3 : vp_in (i + 3) n) (w4 : vp_in (i + 4) n) (w5 : vp_in (i + 5) n) (hD : ok_D v1 g8 u1) (hT : ok_T v3 g7 u3) (hI : IE j s0 s4 s5 s6 sR) (hq : b_q j (21000 + u1 + u3) q) (KN : lh_KN IN (j + 1) n xs (i + 6)) (KE : lh_KE IE (j + 1) n xs (i + 6)) : pm_Wx 338 13 lw_F 601024 7293034 (1658, [some (.ref 576), some (.ref 0), some (.ref 64), some (.ref 128), some (.int i), none, none, none], [], lh_E v1 v3 g7 g8 s0 s4 s5 s6 sR o n xs q) := by
  obtain ⟨hq1, hq2⟩ := hq
  obtain ⟨r, sR1, H, HM, I1⟩ := PE j s0 s4 s5 s6 sR hj hI
  refine lc_27_E H HM ?_
  exact KE _ _ _ _ _ _ _ _ _ _ _ _ _ hD hT I1 ⟨by (try dsimp only); omega, by (try dsimp only); omega⟩

set_option maxRecDepth 20000 in
set_option maxHeartbeats 20000000 in
theorem lh_28_N {IN : t_IN} {IE : t_IE} {j n : Nat} {xs : Nat → Int32} {i : Int32} {sR : mo_S} {o : Nat → Int64} {q : Nat × Nat × Nat} {s0 : cs_S} (PN : ps_28_N_N IN IE) (hj : j < 512) (w1 : vp_in (i + 1) n) (w2 : vp_in (i + 2) n) (w3 : vp_in (i + 3) n) (w4 : vp_in (i + 4) n) (w5 : vp_in (i + 5) n) (hI : IN j s0 sR) (hq : b_q j 0 q) (KN : lh_KN IN (j + 1) n xs (i + 6)) (KE : lh_KE IE (j + 1) n xs (i + 6)) : pm_Wx 338 13 lw_F 601024 7293034 (1671, [some (.ref 576), some (.ref 0), some (.ref 64), some (.ref 128), some (.int i), none, none, none], [], lh_N s0 sR o n xs q) := by
  obtain ⟨hq1, hq2⟩ := hq
  obtain ⟨r, sR1, H, HM, I1⟩ := PN j s0 sR hj hI
  refine lc_28_N H HM ?_
  exact KN _ _ _ _ I1 ⟨by (try dsimp only); omega, by (try dsimp only); omega⟩

set_option maxRecDepth 20000 in
set_option maxHeartbeats 20000000 in
theorem lh_28_E {IN : t_IN} {IE : t_IE} {j n : Nat} {xs : Nat → Int32} {i : Int32} {sR : mo_S} {o : Nat → Int64} {q : Nat × Nat × Nat} {v1 v3 : Value} {g7 g8 : List pm_E} {u1 u3 : Nat} {s0 s4 s5 s6 : cs_S} (PE : ps_28_E_E IN IE) (hj : j < 512) (w1 : vp_in (i + 1) n) (w2 : vp_in (i + 2) n) (w3 : vp_in (i + 3) n) (w4 : vp_in (i + 4) n) (w5 : vp_in (i + 5) n) (hD : ok_D v1 g8 u1) (hT : ok_T v3 g7 u3) (hI : IE j s0 s4 s5 s6 sR) (hq : b_q j (21000 + u1 + u3) q) (KN : lh_KN IN (j + 1) n xs (i + 6)) (KE : lh_KE IE (j + 1) n xs (i + 6)) : pm_Wx 338 13 lw_F 601024 7293034 (1671, [some (.ref 576), some (.ref 0), some (.ref 64), some (.ref 128), some (.int i), none, none, none], [], lh_E v1 v3 g7 g8 s0 s4 s5 s6 sR o n xs q) := by
  obtain ⟨hq1, hq2⟩ := hq
  obtain ⟨r, sR1, H, HM, I1⟩ := PE j s0 s4 s5 s6 sR hj hI
  refine lc_28_E H HM ?_
  exact KE _ _ _ _ _ _ _ _ _ _ _ _ _ hD hT I1 ⟨by (try dsimp only); omega, by (try dsimp only); omega⟩

set_option maxRecDepth 20000 in
set_option maxHeartbeats 20000000 in
theorem lh_29_N {IN : t_IN} {IE : t_IE} {j n : Nat} {xs : Nat → Int32} {i : Int32} {sR : mo_S} {o : Nat → Int64} {q : Nat × Nat × Nat} {s0 : cs_S} (PN : ps_29_N_N IN IE) (hj : j < 512) (w1 : vp_in (i + 1) n) (w2 : vp_in (i + 2) n) (w3 : vp_in (i + 3) n) (w4 : vp_in (i + 4) n) (w5 : vp_in (i + 5) n) (hI : IN j s0 sR) (hq : b_q j 0 q) (KN : lh_KN IN (j + 1) n xs (i + 6)) (KE : lh_KE IE (j + 1) n xs (i + 6)) : pm_Wx 338 13 lw_F 601024 7293034 (1684, [some (.ref 576), some (.ref 0), some (.ref 64), some (.ref 128), some (.int i), none, none, none], [], lh_N s0 sR o n xs q) := by
  obtain ⟨hq1, hq2⟩ := hq
  obtain ⟨r, sR1, H, HM, I1⟩ := PN j s0 sR hj hI
  refine lc_29_N H HM ?_
  exact KN _ _ _ _ I1 ⟨by (try dsimp only); omega, by (try dsimp only); omega⟩

set_option maxRecDepth 20000 in
set_option maxHeartbeats 20000000 in
theorem lh_29_E {IN : t_IN} {IE : t_IE} {j n : Nat} {xs : Nat → Int32} {i : Int32} {sR : mo_S} {o : Nat → Int64} {q : Nat × Nat × Nat} {v1 v3 : Value} {g7 g8 : List pm_E} {u1 u3 : Nat} {s0 s4 s5 s6 : cs_S} (PE : ps_29_E_E IN IE) (hj : j < 512) (w1 : vp_in (i + 1) n) (w2 : vp_in (i + 2) n) (w3 : vp_in (i + 3) n) (w4 : vp_in (i + 4) n) (w5 : vp_in (i + 5) n) (hD : ok_D v1 g8 u1) (hT : ok_T v3 g7 u3) (hI : IE j s0 s4 s5 s6 sR) (hq : b_q j (21000 + u1 + u3) q) (KN : lh_KN IN (j + 1) n xs (i + 6)) (KE : lh_KE IE (j + 1) n xs (i + 6)) : pm_Wx 338 13 lw_F 601024 7293034 (1684, [some (.ref 576), some (.ref 0), some (.ref 64), some (.ref 128), some (.int i), none, none, none], [], lh_E v1 v3 g7 g8 s0 s4 s5 s6 sR o n xs q) := by
  obtain ⟨hq1, hq2⟩ := hq
  obtain ⟨r, sR1, H, HM, I1⟩ := PE j s0 s4 s5 s6 sR hj hI
  refine lc_29_E H HM ?_
  exact KE _ _ _ _ _ _ _ _ _ _ _ _ _ hD hT I1 ⟨by (try dsimp only); omega, by (try dsimp only); omega⟩

set_option maxRecDepth 20000 in
set_option maxHeartbeats 20000000 in
theorem lh_30_N {IN : t_IN} {IE : t_IE} {j n : Nat} {xs : Nat → Int32} {i : Int32} {sR : mo_S} {o : Nat → Int64} {q : Nat × Nat × Nat} {s0 : cs_S} (PN : ps_30_N_N IN IE) (hj : j < 512) (w1 : vp_in (i + 1) n) (w2 : vp_in (i + 2) n) (w3 : vp_in (i + 3) n) (w4 : vp_in (i + 4) n) (w5 : vp_in (i + 5) n) (hI : IN j s0 sR) (hq : b_q j 0 q) (KN : lh_KN IN (j + 1) n xs (i + 6)) (KE : lh_KE IE (j + 1) n xs (i + 6)) : pm_Wx 338 13 lw_F 601024 7293034 (1697, [some (.ref 576), some (.ref 0), some (.ref 64), some (.ref 128), some (.int i), none, none, none], [], lh_N s0 sR o n xs q) := by
  obtain ⟨hq1, hq2⟩ := hq
  obtain ⟨b, sR1, H, HM, HT, I1⟩ := PN j s0 sR (xs (Int32.toNatClampNeg (i + 1))) hj hI
  refine lc_30_N_t2 w1 H HM HT ?_
  exact KN _ _ _ _ I1 ⟨by (try dsimp only); omega, by (try dsimp only); omega⟩

set_option maxRecDepth 20000 in
set_option maxHeartbeats 20000000 in
theorem lh_30_E {IN : t_IN} {IE : t_IE} {j n : Nat} {xs : Nat → Int32} {i : Int32} {sR : mo_S} {o : Nat → Int64} {q : Nat × Nat × Nat} {v1 v3 : Value} {g7 g8 : List pm_E} {u1 u3 : Nat} {s0 s4 s5 s6 : cs_S} (PE : ps_30_E_E IN IE) (hj : j < 512) (w1 : vp_in (i + 1) n) (w2 : vp_in (i + 2) n) (w3 : vp_in (i + 3) n) (w4 : vp_in (i + 4) n) (w5 : vp_in (i + 5) n) (hD : ok_D v1 g8 u1) (hT : ok_T v3 g7 u3) (hI : IE j s0 s4 s5 s6 sR) (hq : b_q j (21000 + u1 + u3) q) (KN : lh_KN IN (j + 1) n xs (i + 6)) (KE : lh_KE IE (j + 1) n xs (i + 6)) : pm_Wx 338 13 lw_F 601024 7293034 (1697, [some (.ref 576), some (.ref 0), some (.ref 64), some (.ref 128), some (.int i), none, none, none], [], lh_E v1 v3 g7 g8 s0 s4 s5 s6 sR o n xs q) := by
  obtain ⟨hq1, hq2⟩ := hq
  rcases PE j s0 s4 s5 s6 sR (xs (Int32.toNatClampNeg (i + 1))) hj hI with ⟨r, sR1, H, HM, HT, I1⟩ | ⟨b, sR1, H, HM, HT, I1⟩
  · refine lc_30_E w1 H HM HT ?_
    exact KE _ _ _ _ _ _ _ _ _ _ _ _ _ hD hT I1 ⟨by (try dsimp only); omega, by (try dsimp only); omega⟩
  · refine lc_30_E_t2 w1 H HM HT ?_
    exact KE _ _ _ _ _ _ _ _ _ _ _ _ _ hD hT I1 ⟨by (try dsimp only); omega, by (try dsimp only); omega⟩

set_option maxRecDepth 20000 in
set_option maxHeartbeats 20000000 in
theorem lh_31_N {IN : t_IN} {IE : t_IE} {j n : Nat} {xs : Nat → Int32} {i : Int32} {sR : mo_S} {o : Nat → Int64} {q : Nat × Nat × Nat} {s0 : cs_S} (PN : ps_31_N_N IN IE) (hj : j < 512) (w1 : vp_in (i + 1) n) (w2 : vp_in (i + 2) n) (w3 : vp_in (i + 3) n) (w4 : vp_in (i + 4) n) (w5 : vp_in (i + 5) n) (hI : IN j s0 sR) (hq : b_q j 0 q) (KN : lh_KN IN (j + 1) n xs (i + 6)) (KE : lh_KE IE (j + 1) n xs (i + 6)) : pm_Wx 338 13 lw_F 601024 7293034 (1753, [some (.ref 576), some (.ref 0), some (.ref 64), some (.ref 128), some (.int i), none, none, none], [], lh_N s0 sR o n xs q) := by
  obtain ⟨hq1, hq2⟩ := hq
  obtain ⟨b, sR1, H, HM, HT, I1⟩ := PN j s0 sR (xs (Int32.toNatClampNeg (i + 1))) hj hI
  refine lc_31_N_t2 w1 H HM HT ?_
  exact KN _ _ _ _ I1 ⟨by (try dsimp only); omega, by (try dsimp only); omega⟩

set_option maxRecDepth 20000 in
set_option maxHeartbeats 20000000 in
theorem lh_31_E {IN : t_IN} {IE : t_IE} {j n : Nat} {xs : Nat → Int32} {i : Int32} {sR : mo_S} {o : Nat → Int64} {q : Nat × Nat × Nat} {v1 v3 : Value} {g7 g8 : List pm_E} {u1 u3 : Nat} {s0 s4 s5 s6 : cs_S} (PE : ps_31_E_E IN IE) (hj : j < 512) (w1 : vp_in (i + 1) n) (w2 : vp_in (i + 2) n) (w3 : vp_in (i + 3) n) (w4 : vp_in (i + 4) n) (w5 : vp_in (i + 5) n) (hD : ok_D v1 g8 u1) (hT : ok_T v3 g7 u3) (hI : IE j s0 s4 s5 s6 sR) (hq : b_q j (21000 + u1 + u3) q) (KN : lh_KN IN (j + 1) n xs (i + 6)) (KE : lh_KE IE (j + 1) n xs (i + 6)) : pm_Wx 338 13 lw_F 601024 7293034 (1753, [some (.ref 576), some (.ref 0), some (.ref 64), some (.ref 128), some (.int i), none, none, none], [], lh_E v1 v3 g7 g8 s0 s4 s5 s6 sR o n xs q) := by
  obtain ⟨hq1, hq2⟩ := hq
  rcases PE j s0 s4 s5 s6 sR (xs (Int32.toNatClampNeg (i + 1))) hj hI with ⟨r, sR1, H, HM, HT, I1⟩ | ⟨b, sR1, H, HM, HT, I1⟩
  · refine lc_31_E w1 H HM HT ?_
    exact KE _ _ _ _ _ _ _ _ _ _ _ _ _ hD hT I1 ⟨by (try dsimp only); omega, by (try dsimp only); omega⟩
  · refine lc_31_E_t2 w1 H HM HT ?_
    exact KE _ _ _ _ _ _ _ _ _ _ _ _ _ hD hT I1 ⟨by (try dsimp only); omega, by (try dsimp only); omega⟩

set_option maxRecDepth 20000 in
set_option maxHeartbeats 20000000 in
theorem lh_32_N {IN : t_IN} {IE : t_IE} {j n : Nat} {xs : Nat → Int32} {i : Int32} {sR : mo_S} {o : Nat → Int64} {q : Nat × Nat × Nat} {s0 : cs_S} (PN : ps_32_N_N IN IE) (hj : j < 512) (w1 : vp_in (i + 1) n) (w2 : vp_in (i + 2) n) (w3 : vp_in (i + 3) n) (w4 : vp_in (i + 4) n) (w5 : vp_in (i + 5) n) (hI : IN j s0 sR) (hq : b_q j 0 q) (KN : lh_KN IN (j + 1) n xs (i + 6)) (KE : lh_KE IE (j + 1) n xs (i + 6)) : pm_Wx 338 13 lw_F 601024 7293034 (1809, [some (.ref 576), some (.ref 0), some (.ref 64), some (.ref 128), some (.int i), none, none, none], [], lh_N s0 sR o n xs q) := by
  obtain ⟨hq1, hq2⟩ := hq
  obtain ⟨b, sR1, H, HM, HT, I1⟩ := PN j s0 sR (xs (Int32.toNatClampNeg (i + 1))) hj hI
  refine lc_32_N_t2 w1 H HM HT ?_
  exact KN _ _ _ _ I1 ⟨by (try dsimp only); omega, by (try dsimp only); omega⟩

set_option maxRecDepth 20000 in
set_option maxHeartbeats 20000000 in
theorem lh_32_E {IN : t_IN} {IE : t_IE} {j n : Nat} {xs : Nat → Int32} {i : Int32} {sR : mo_S} {o : Nat → Int64} {q : Nat × Nat × Nat} {v1 v3 : Value} {g7 g8 : List pm_E} {u1 u3 : Nat} {s0 s4 s5 s6 : cs_S} (PE : ps_32_E_E IN IE) (hj : j < 512) (w1 : vp_in (i + 1) n) (w2 : vp_in (i + 2) n) (w3 : vp_in (i + 3) n) (w4 : vp_in (i + 4) n) (w5 : vp_in (i + 5) n) (hD : ok_D v1 g8 u1) (hT : ok_T v3 g7 u3) (hI : IE j s0 s4 s5 s6 sR) (hq : b_q j (21000 + u1 + u3) q) (KN : lh_KN IN (j + 1) n xs (i + 6)) (KE : lh_KE IE (j + 1) n xs (i + 6)) : pm_Wx 338 13 lw_F 601024 7293034 (1809, [some (.ref 576), some (.ref 0), some (.ref 64), some (.ref 128), some (.int i), none, none, none], [], lh_E v1 v3 g7 g8 s0 s4 s5 s6 sR o n xs q) := by
  obtain ⟨hq1, hq2⟩ := hq
  rcases PE j s0 s4 s5 s6 sR (xs (Int32.toNatClampNeg (i + 1))) hj hI with ⟨r, sR1, H, HM, HT, I1⟩ | ⟨b, sR1, H, HM, HT, I1⟩
  · refine lc_32_E w1 H HM HT ?_
    exact KE _ _ _ _ _ _ _ _ _ _ _ _ _ hD hT I1 ⟨by (try dsimp only); omega, by (try dsimp only); omega⟩
  · refine lc_32_E_t2 w1 H HM HT ?_
    exact KE _ _ _ _ _ _ _ _ _ _ _ _ _ hD hT I1 ⟨by (try dsimp only); omega, by (try dsimp only); omega⟩

set_option maxRecDepth 20000 in
set_option maxHeartbeats 20000000 in
theorem lh_33_N {IN : t_IN} {IE : t_IE} {j n : Nat} {xs : Nat → Int32} {i : Int32} {sR : mo_S} {o : Nat → Int64} {q : Nat × Nat × Nat} {s0 : cs_S} (PN : ps_33_N_N IN IE) (hj : j < 512) (w1 : vp_in (i + 1) n) (w2 : vp_in (i + 2) n) (w3 : vp_in (i + 3) n) (w4 : vp_in (i + 4) n) (w5 : vp_in (i + 5) n) (hI : IN j s0 sR) (hq : b_q j 0 q) (KN : lh_KN IN (j + 1) n xs (i + 6)) (KE : lh_KE IE (j + 1) n xs (i + 6)) : pm_Wx 338 13 lw_F 601024 7293034 (1865, [some (.ref 576), some (.ref 0), some (.ref 64), some (.ref 128), some (.int i), none, none, none], [], lh_N s0 sR o n xs q) := by
  obtain ⟨hq1, hq2⟩ := hq
  obtain ⟨b, sR1, H, HM, HT, I1⟩ := PN j s0 sR (xs (Int32.toNatClampNeg (i + 1))) hj hI
  refine lc_33_N_t2 w1 H HM HT ?_
  exact KN _ _ _ _ I1 ⟨by (try dsimp only); omega, by (try dsimp only); omega⟩

set_option maxRecDepth 20000 in
set_option maxHeartbeats 20000000 in
theorem lh_33_E {IN : t_IN} {IE : t_IE} {j n : Nat} {xs : Nat → Int32} {i : Int32} {sR : mo_S} {o : Nat → Int64} {q : Nat × Nat × Nat} {v1 v3 : Value} {g7 g8 : List pm_E} {u1 u3 : Nat} {s0 s4 s5 s6 : cs_S} (PE : ps_33_E_E IN IE) (hj : j < 512) (w1 : vp_in (i + 1) n) (w2 : vp_in (i + 2) n) (w3 : vp_in (i + 3) n) (w4 : vp_in (i + 4) n) (w5 : vp_in (i + 5) n) (hD : ok_D v1 g8 u1) (hT : ok_T v3 g7 u3) (hI : IE j s0 s4 s5 s6 sR) (hq : b_q j (21000 + u1 + u3) q) (KN : lh_KN IN (j + 1) n xs (i + 6)) (KE : lh_KE IE (j + 1) n xs (i + 6)) : pm_Wx 338 13 lw_F 601024 7293034 (1865, [some (.ref 576), some (.ref 0), some (.ref 64), some (.ref 128), some (.int i), none, none, none], [], lh_E v1 v3 g7 g8 s0 s4 s5 s6 sR o n xs q) := by
  obtain ⟨hq1, hq2⟩ := hq
  rcases PE j s0 s4 s5 s6 sR (xs (Int32.toNatClampNeg (i + 1))) hj hI with ⟨r, sR1, H, HM, HT, I1⟩ | ⟨b, sR1, H, HM, HT, I1⟩
  · refine lc_33_E w1 H HM HT ?_
    exact KE _ _ _ _ _ _ _ _ _ _ _ _ _ hD hT I1 ⟨by (try dsimp only); omega, by (try dsimp only); omega⟩
  · refine lc_33_E_t2 w1 H HM HT ?_
    exact KE _ _ _ _ _ _ _ _ _ _ _ _ _ hD hT I1 ⟨by (try dsimp only); omega, by (try dsimp only); omega⟩

set_option maxRecDepth 20000 in
set_option maxHeartbeats 20000000 in
theorem lh_34_N {IN : t_IN} {IE : t_IE} {j n : Nat} {xs : Nat → Int32} {i : Int32} {sR : mo_S} {o : Nat → Int64} {q : Nat × Nat × Nat} {s0 : cs_S} (PN : ps_34_N_N IN IE) (hj : j < 512) (w1 : vp_in (i + 1) n) (w2 : vp_in (i + 2) n) (w3 : vp_in (i + 3) n) (w4 : vp_in (i + 4) n) (w5 : vp_in (i + 5) n) (hI : IN j s0 sR) (hq : b_q j 0 q) (KN : lh_KN IN (j + 1) n xs (i + 6)) (KE : lh_KE IE (j + 1) n xs (i + 6)) : pm_Wx 338 13 lw_F 601024 7293034 (1921, [some (.ref 576), some (.ref 0), some (.ref 64), some (.ref 128), some (.int i), none, none, none], [], lh_N s0 sR o n xs q) := by
  obtain ⟨hq1, hq2⟩ := hq
  obtain ⟨b, sR1, H, HM, HT, I1⟩ := PN j s0 sR (xs (Int32.toNatClampNeg (i + 1))) hj hI
  refine lc_34_N_t2 w1 H HM HT ?_
  exact KN _ _ _ _ I1 ⟨by (try dsimp only); omega, by (try dsimp only); omega⟩

set_option maxRecDepth 20000 in
set_option maxHeartbeats 20000000 in
theorem lh_34_E {IN : t_IN} {IE : t_IE} {j n : Nat} {xs : Nat → Int32} {i : Int32} {sR : mo_S} {o : Nat → Int64} {q : Nat × Nat × Nat} {v1 v3 : Value} {g7 g8 : List pm_E} {u1 u3 : Nat} {s0 s4 s5 s6 : cs_S} (PE : ps_34_E_E IN IE) (hj : j < 512) (w1 : vp_in (i + 1) n) (w2 : vp_in (i + 2) n) (w3 : vp_in (i + 3) n) (w4 : vp_in (i + 4) n) (w5 : vp_in (i + 5) n) (hD : ok_D v1 g8 u1) (hT : ok_T v3 g7 u3) (hI : IE j s0 s4 s5 s6 sR) (hq : b_q j (21000 + u1 + u3) q) (KN : lh_KN IN (j + 1) n xs (i + 6)) (KE : lh_KE IE (j + 1) n xs (i + 6)) : pm_Wx 338 13 lw_F 601024 7293034 (1921, [some (.ref 576), some (.ref 0), some (.ref 64), some (.ref 128), some (.int i), none, none, none], [], lh_E v1 v3 g7 g8 s0 s4 s5 s6 sR o n xs q) := by
  obtain ⟨hq1, hq2⟩ := hq
  rcases PE j s0 s4 s5 s6 sR (xs (Int32.toNatClampNeg (i + 1))) hj hI with ⟨r, sR1, H, HM, HT, I1⟩ | ⟨b, sR1, H, HM, HT, I1⟩
  · refine lc_34_E w1 H HM HT ?_
    exact KE _ _ _ _ _ _ _ _ _ _ _ _ _ hD hT I1 ⟨by (try dsimp only); omega, by (try dsimp only); omega⟩
  · refine lc_34_E_t2 w1 H HM HT ?_
    exact KE _ _ _ _ _ _ _ _ _ _ _ _ _ hD hT I1 ⟨by (try dsimp only); omega, by (try dsimp only); omega⟩

set_option maxRecDepth 20000 in
set_option maxHeartbeats 20000000 in
theorem lh_35_N {IN : t_IN} {IE : t_IE} {j n : Nat} {xs : Nat → Int32} {i : Int32} {sR : mo_S} {o : Nat → Int64} {q : Nat × Nat × Nat} {s0 : cs_S} (PN : ps_35_N_N IN IE) (hj : j < 512) (w1 : vp_in (i + 1) n) (w2 : vp_in (i + 2) n) (w3 : vp_in (i + 3) n) (w4 : vp_in (i + 4) n) (w5 : vp_in (i + 5) n) (hI : IN j s0 sR) (hq : b_q j 0 q) (KN : lh_KN IN (j + 1) n xs (i + 6)) (KE : lh_KE IE (j + 1) n xs (i + 6)) : pm_Wx 338 13 lw_F 601024 7293034 (1977, [some (.ref 576), some (.ref 0), some (.ref 64), some (.ref 128), some (.int i), none, none, none], [], lh_N s0 sR o n xs q) := by
  obtain ⟨hq1, hq2⟩ := hq
  obtain ⟨b, sR1, H, HM, HT, I1⟩ := PN j s0 sR (xs (Int32.toNatClampNeg (i + 1))) hj hI
  refine lc_35_N_t2 w1 H HM HT ?_
  exact KN _ _ _ _ I1 ⟨by (try dsimp only); omega, by (try dsimp only); omega⟩

set_option maxRecDepth 20000 in
set_option maxHeartbeats 20000000 in
theorem lh_35_E {IN : t_IN} {IE : t_IE} {j n : Nat} {xs : Nat → Int32} {i : Int32} {sR : mo_S} {o : Nat → Int64} {q : Nat × Nat × Nat} {v1 v3 : Value} {g7 g8 : List pm_E} {u1 u3 : Nat} {s0 s4 s5 s6 : cs_S} (PE : ps_35_E_E IN IE) (hj : j < 512) (w1 : vp_in (i + 1) n) (w2 : vp_in (i + 2) n) (w3 : vp_in (i + 3) n) (w4 : vp_in (i + 4) n) (w5 : vp_in (i + 5) n) (hD : ok_D v1 g8 u1) (hT : ok_T v3 g7 u3) (hI : IE j s0 s4 s5 s6 sR) (hq : b_q j (21000 + u1 + u3) q) (KN : lh_KN IN (j + 1) n xs (i + 6)) (KE : lh_KE IE (j + 1) n xs (i + 6)) : pm_Wx 338 13 lw_F 601024 7293034 (1977, [some (.ref 576), some (.ref 0), some (.ref 64), some (.ref 128), some (.int i), none, none, none], [], lh_E v1 v3 g7 g8 s0 s4 s5 s6 sR o n xs q) := by
  obtain ⟨hq1, hq2⟩ := hq
  rcases PE j s0 s4 s5 s6 sR (xs (Int32.toNatClampNeg (i + 1))) hj hI with ⟨r, sR1, H, HM, HT, I1⟩ | ⟨b, sR1, H, HM, HT, I1⟩
  · refine lc_35_E w1 H HM HT ?_
    exact KE _ _ _ _ _ _ _ _ _ _ _ _ _ hD hT I1 ⟨by (try dsimp only); omega, by (try dsimp only); omega⟩
  · refine lc_35_E_t2 w1 H HM HT ?_
    exact KE _ _ _ _ _ _ _ _ _ _ _ _ _ hD hT I1 ⟨by (try dsimp only); omega, by (try dsimp only); omega⟩

set_option maxRecDepth 20000 in
set_option maxHeartbeats 20000000 in
theorem lh_36_N {IN : t_IN} {IE : t_IE} {j n : Nat} {xs : Nat → Int32} {i : Int32} {sR : mo_S} {o : Nat → Int64} {q : Nat × Nat × Nat} {s0 : cs_S} (PN : ps_36_N_N IN IE) (hj : j < 512) (w1 : vp_in (i + 1) n) (w2 : vp_in (i + 2) n) (w3 : vp_in (i + 3) n) (w4 : vp_in (i + 4) n) (w5 : vp_in (i + 5) n) (hI : IN j s0 sR) (hq : b_q j 0 q) (KN : lh_KN IN (j + 1) n xs (i + 6)) (KE : lh_KE IE (j + 1) n xs (i + 6)) : pm_Wx 338 13 lw_F 601024 7293034 (2033, [some (.ref 576), some (.ref 0), some (.ref 64), some (.ref 128), some (.int i), none, none, none], [], lh_N s0 sR o n xs q) := by
  obtain ⟨hq1, hq2⟩ := hq
  obtain ⟨b, sR1, H, HM, HT, I1⟩ := PN j s0 sR (xs (Int32.toNatClampNeg (i + 1))) hj hI
  refine lc_36_N_t2 w1 H HM HT ?_
  exact KN _ _ _ _ I1 ⟨by (try dsimp only); omega, by (try dsimp only); omega⟩

set_option maxRecDepth 20000 in
set_option maxHeartbeats 20000000 in
theorem lh_36_E {IN : t_IN} {IE : t_IE} {j n : Nat} {xs : Nat → Int32} {i : Int32} {sR : mo_S} {o : Nat → Int64} {q : Nat × Nat × Nat} {v1 v3 : Value} {g7 g8 : List pm_E} {u1 u3 : Nat} {s0 s4 s5 s6 : cs_S} (PE : ps_36_E_E IN IE) (hj : j < 512) (w1 : vp_in (i + 1) n) (w2 : vp_in (i + 2) n) (w3 : vp_in (i + 3) n) (w4 : vp_in (i + 4) n) (w5 : vp_in (i + 5) n) (hD : ok_D v1 g8 u1) (hT : ok_T v3 g7 u3) (hI : IE j s0 s4 s5 s6 sR) (hq : b_q j (21000 + u1 + u3) q) (KN : lh_KN IN (j + 1) n xs (i + 6)) (KE : lh_KE IE (j + 1) n xs (i + 6)) : pm_Wx 338 13 lw_F 601024 7293034 (2033, [some (.ref 576), some (.ref 0), some (.ref 64), some (.ref 128), some (.int i), none, none, none], [], lh_E v1 v3 g7 g8 s0 s4 s5 s6 sR o n xs q) := by
  obtain ⟨hq1, hq2⟩ := hq
  rcases PE j s0 s4 s5 s6 sR (xs (Int32.toNatClampNeg (i + 1))) hj hI with ⟨r, sR1, H, HM, HT, I1⟩ | ⟨b, sR1, H, HM, HT, I1⟩
  · refine lc_36_E w1 H HM HT ?_
    exact KE _ _ _ _ _ _ _ _ _ _ _ _ _ hD hT I1 ⟨by (try dsimp only); omega, by (try dsimp only); omega⟩
  · refine lc_36_E_t2 w1 H HM HT ?_
    exact KE _ _ _ _ _ _ _ _ _ _ _ _ _ hD hT I1 ⟨by (try dsimp only); omega, by (try dsimp only); omega⟩

set_option maxRecDepth 20000 in
set_option maxHeartbeats 20000000 in
theorem lh_37_N {IN : t_IN} {IE : t_IE} {j n : Nat} {xs : Nat → Int32} {i : Int32} {sR : mo_S} {o : Nat → Int64} {q : Nat × Nat × Nat} {s0 : cs_S} (PN : ps_37_N_N IN IE) (hj : j < 512) (w1 : vp_in (i + 1) n) (w2 : vp_in (i + 2) n) (w3 : vp_in (i + 3) n) (w4 : vp_in (i + 4) n) (w5 : vp_in (i + 5) n) (hI : IN j s0 sR) (hq : b_q j 0 q) (KN : lh_KN IN (j + 1) n xs (i + 6)) (KE : lh_KE IE (j + 1) n xs (i + 6)) : pm_Wx 338 13 lw_F 601024 7293034 (2089, [some (.ref 576), some (.ref 0), some (.ref 64), some (.ref 128), some (.int i), none, none, none], [], lh_N s0 sR o n xs q) := by
  obtain ⟨hq1, hq2⟩ := hq
  obtain ⟨b, sR1, H, HM, HT, I1⟩ := PN j s0 sR (xs (Int32.toNatClampNeg (i + 1))) (xs (Int32.toNatClampNeg (i + 2))) hj hI
  refine lc_37_N_t2 w1 w2 H HM HT ?_
  exact KN _ _ _ _ I1 ⟨by (try dsimp only); omega, by (try dsimp only); omega⟩

set_option maxRecDepth 20000 in
set_option maxHeartbeats 20000000 in
theorem lh_37_E {IN : t_IN} {IE : t_IE} {j n : Nat} {xs : Nat → Int32} {i : Int32} {sR : mo_S} {o : Nat → Int64} {q : Nat × Nat × Nat} {v1 v3 : Value} {g7 g8 : List pm_E} {u1 u3 : Nat} {s0 s4 s5 s6 : cs_S} (PE : ps_37_E_E IN IE) (hj : j < 512) (w1 : vp_in (i + 1) n) (w2 : vp_in (i + 2) n) (w3 : vp_in (i + 3) n) (w4 : vp_in (i + 4) n) (w5 : vp_in (i + 5) n) (hD : ok_D v1 g8 u1) (hT : ok_T v3 g7 u3) (hI : IE j s0 s4 s5 s6 sR) (hq : b_q j (21000 + u1 + u3) q) (KN : lh_KN IN (j + 1) n xs (i + 6)) (KE : lh_KE IE (j + 1) n xs (i + 6)) : pm_Wx 338 13 lw_F 601024 7293034 (2089, [some (.ref 576), some (.ref 0), some (.ref 64), some (.ref 128), some (.int i), none, none, none], [], lh_E v1 v3 g7 g8 s0 s4 s5 s6 sR o n xs q) := by
  obtain ⟨hq1, hq2⟩ := hq
  rcases PE j s0 s4 s5 s6 sR (xs (Int32.toNatClampNeg (i + 1))) (xs (Int32.toNatClampNeg (i + 2))) hj hI with ⟨r, sR1, H, HM, HT, I1⟩ | ⟨b, sR1, H, HM, HT, I1⟩
  · refine lc_37_E w1 w2 H HM HT ?_
    exact KE _ _ _ _ _ _ _ _ _ _ _ _ _ hD hT I1 ⟨by (try dsimp only); omega, by (try dsimp only); omega⟩
  · refine lc_37_E_t2 w1 w2 H HM HT ?_
    exact KE _ _ _ _ _ _ _ _ _ _ _ _ _ hD hT I1 ⟨by (try dsimp only); omega, by (try dsimp only); omega⟩

set_option maxRecDepth 20000 in
set_option maxHeartbeats 20000000 in
theorem lh_38_N {IN : t_IN} {IE : t_IE} {j n : Nat} {xs : Nat → Int32} {i : Int32} {sR : mo_S} {o : Nat → Int64} {q : Nat × Nat × Nat} {s0 : cs_S} (PN : ps_38_N_N IN IE) (hj : j < 512) (w1 : vp_in (i + 1) n) (w2 : vp_in (i + 2) n) (w3 : vp_in (i + 3) n) (w4 : vp_in (i + 4) n) (w5 : vp_in (i + 5) n) (hI : IN j s0 sR) (hq : b_q j 0 q) (KN : lh_KN IN (j + 1) n xs (i + 6)) (KE : lh_KE IE (j + 1) n xs (i + 6)) : pm_Wx 338 13 lw_F 601024 7293034 (2164, [some (.ref 576), some (.ref 0), some (.ref 64), some (.ref 128), some (.int i), none, none, none], [], lh_N s0 sR o n xs q) := by
  obtain ⟨hq1, hq2⟩ := hq
  obtain ⟨r, sR1, H, HM, I1⟩ := PN j s0 sR hj hI
  refine lc_38_N H HM ?_
  exact KN _ _ _ _ I1 ⟨by (try dsimp only); omega, by (try dsimp only); omega⟩

set_option maxRecDepth 20000 in
set_option maxHeartbeats 20000000 in
theorem lh_38_E {IN : t_IN} {IE : t_IE} {j n : Nat} {xs : Nat → Int32} {i : Int32} {sR : mo_S} {o : Nat → Int64} {q : Nat × Nat × Nat} {v1 v3 : Value} {g7 g8 : List pm_E} {u1 u3 : Nat} {s0 s4 s5 s6 : cs_S} (PE : ps_38_E_E IN IE) (hj : j < 512) (w1 : vp_in (i + 1) n) (w2 : vp_in (i + 2) n) (w3 : vp_in (i + 3) n) (w4 : vp_in (i + 4) n) (w5 : vp_in (i + 5) n) (hD : ok_D v1 g8 u1) (hT : ok_T v3 g7 u3) (hI : IE j s0 s4 s5 s6 sR) (hq : b_q j (21000 + u1 + u3) q) (KN : lh_KN IN (j + 1) n xs (i + 6)) (KE : lh_KE IE (j + 1) n xs (i + 6)) : pm_Wx 338 13 lw_F 601024 7293034 (2164, [some (.ref 576), some (.ref 0), some (.ref 64), some (.ref 128), some (.int i), none, none, none], [], lh_E v1 v3 g7 g8 s0 s4 s5 s6 sR o n xs q) := by
  obtain ⟨hq1, hq2⟩ := hq
  obtain ⟨r, sR1, H, HM, I1⟩ := PE j s0 s4 s5 s6 sR hj hI
  refine lc_38_E H HM ?_
  exact KE _ _ _ _ _ _ _ _ _ _ _ _ _ hD hT I1 ⟨by (try dsimp only); omega, by (try dsimp only); omega⟩

set_option maxRecDepth 20000 in
set_option maxHeartbeats 20000000 in
theorem lh_39_N {IN : t_IN} {IE : t_IE} {j n : Nat} {xs : Nat → Int32} {i : Int32} {sR : mo_S} {o : Nat → Int64} {q : Nat × Nat × Nat} {s0 : cs_S} (PN : ps_39_N_N IN IE) (hj : j < 512) (w1 : vp_in (i + 1) n) (w2 : vp_in (i + 2) n) (w3 : vp_in (i + 3) n) (w4 : vp_in (i + 4) n) (w5 : vp_in (i + 5) n) (hI : IN j s0 sR) (hq : b_q j 0 q) (KN : lh_KN IN (j + 1) n xs (i + 6)) (KE : lh_KE IE (j + 1) n xs (i + 6)) : pm_Wx 338 13 lw_F 601024 7293034 (2177, [some (.ref 576), some (.ref 0), some (.ref 64), some (.ref 128), some (.int i), none, none, none], [], lh_N s0 sR o n xs q) := by
  obtain ⟨hq1, hq2⟩ := hq
  obtain ⟨r, sR1, H, HM, I1⟩ := PN j s0 sR hj hI
  refine lc_39_N H HM ?_
  exact KN _ _ _ _ I1 ⟨by (try dsimp only); omega, by (try dsimp only); omega⟩

set_option maxRecDepth 20000 in
set_option maxHeartbeats 20000000 in
theorem lh_39_E {IN : t_IN} {IE : t_IE} {j n : Nat} {xs : Nat → Int32} {i : Int32} {sR : mo_S} {o : Nat → Int64} {q : Nat × Nat × Nat} {v1 v3 : Value} {g7 g8 : List pm_E} {u1 u3 : Nat} {s0 s4 s5 s6 : cs_S} (PE : ps_39_E_E IN IE) (hj : j < 512) (w1 : vp_in (i + 1) n) (w2 : vp_in (i + 2) n) (w3 : vp_in (i + 3) n) (w4 : vp_in (i + 4) n) (w5 : vp_in (i + 5) n) (hD : ok_D v1 g8 u1) (hT : ok_T v3 g7 u3) (hI : IE j s0 s4 s5 s6 sR) (hq : b_q j (21000 + u1 + u3) q) (KN : lh_KN IN (j + 1) n xs (i + 6)) (KE : lh_KE IE (j + 1) n xs (i + 6)) : pm_Wx 338 13 lw_F 601024 7293034 (2177, [some (.ref 576), some (.ref 0), some (.ref 64), some (.ref 128), some (.int i), none, none, none], [], lh_E v1 v3 g7 g8 s0 s4 s5 s6 sR o n xs q) := by
  obtain ⟨hq1, hq2⟩ := hq
  obtain ⟨r, sR1, H, HM, I1⟩ := PE j s0 s4 s5 s6 sR hj hI
  refine lc_39_E H HM ?_
  exact KE _ _ _ _ _ _ _ _ _ _ _ _ _ hD hT I1 ⟨by (try dsimp only); omega, by (try dsimp only); omega⟩

set_option maxRecDepth 20000 in
set_option maxHeartbeats 20000000 in
theorem lh_40_N {IN : t_IN} {IE : t_IE} {j n : Nat} {xs : Nat → Int32} {i : Int32} {sR : mo_S} {o : Nat → Int64} {q : Nat × Nat × Nat} {s0 : cs_S} (PN : ps_40_N_N IN IE) (hj : j < 512) (w1 : vp_in (i + 1) n) (w2 : vp_in (i + 2) n) (w3 : vp_in (i + 3) n) (w4 : vp_in (i + 4) n) (w5 : vp_in (i + 5) n) (hI : IN j s0 sR) (hq : b_q j 0 q) (KN : lh_KN IN (j + 1) n xs (i + 6)) (KE : lh_KE IE (j + 1) n xs (i + 6)) : pm_Wx 338 13 lw_F 601024 7293034 (2190, [some (.ref 576), some (.ref 0), some (.ref 64), some (.ref 128), some (.int i), none, none, none], [], lh_N s0 sR o n xs q) := by
  obtain ⟨hq1, hq2⟩ := hq
  obtain ⟨r, sR1, H, HM, I1⟩ := PN j s0 sR hj hI
  refine lc_40_N H HM ?_
  exact KN _ _ _ _ I1 ⟨by (try dsimp only); omega, by (try dsimp only); omega⟩

set_option maxRecDepth 20000 in
set_option maxHeartbeats 20000000 in
theorem lh_40_E {IN : t_IN} {IE : t_IE} {j n : Nat} {xs : Nat → Int32} {i : Int32} {sR : mo_S} {o : Nat → Int64} {q : Nat × Nat × Nat} {v1 v3 : Value} {g7 g8 : List pm_E} {u1 u3 : Nat} {s0 s4 s5 s6 : cs_S} (PE : ps_40_E_E IN IE) (hj : j < 512) (w1 : vp_in (i + 1) n) (w2 : vp_in (i + 2) n) (w3 : vp_in (i + 3) n) (w4 : vp_in (i + 4) n) (w5 : vp_in (i + 5) n) (hD : ok_D v1 g8 u1) (hT : ok_T v3 g7 u3) (hI : IE j s0 s4 s5 s6 sR) (hq : b_q j (21000 + u1 + u3) q) (KN : lh_KN IN (j + 1) n xs (i + 6)) (KE : lh_KE IE (j + 1) n xs (i + 6)) : pm_Wx 338 13 lw_F 601024 7293034 (2190, [some (.ref 576), some (.ref 0), some (.ref 64), some (.ref 128), some (.int i), none, none, none], [], lh_E v1 v3 g7 g8 s0 s4 s5 s6 sR o n xs q) := by
  obtain ⟨hq1, hq2⟩ := hq
  obtain ⟨r, sR1, H, HM, I1⟩ := PE j s0 s4 s5 s6 sR hj hI
  refine lc_40_E H HM ?_
  exact KE _ _ _ _ _ _ _ _ _ _ _ _ _ hD hT I1 ⟨by (try dsimp only); omega, by (try dsimp only); omega⟩

set_option maxRecDepth 20000 in
set_option maxHeartbeats 20000000 in
theorem lh_41_N {IN : t_IN} {IE : t_IE} {j n : Nat} {xs : Nat → Int32} {i : Int32} {sR : mo_S} {o : Nat → Int64} {q : Nat × Nat × Nat} {s0 : cs_S} (PN : ps_41_N_N IN IE) (hj : j < 512) (w1 : vp_in (i + 1) n) (w2 : vp_in (i + 2) n) (w3 : vp_in (i + 3) n) (w4 : vp_in (i + 4) n) (w5 : vp_in (i + 5) n) (hI : IN j s0 sR) (hq : b_q j 0 q) (KN : lh_KN IN (j + 1) n xs (i + 6)) (KE : lh_KE IE (j + 1) n xs (i + 6)) : pm_Wx 338 13 lw_F 601024 7293034 (2203, [some (.ref 576), some (.ref 0), some (.ref 64), some (.ref 128), some (.int i), none, none, none], [], lh_N s0 sR o n xs q) := by
  obtain ⟨hq1, hq2⟩ := hq
  obtain ⟨r, sR1, H, HM, I1⟩ := PN j s0 sR hj hI
  refine lc_41_N H HM ?_
  exact KN _ _ _ _ I1 ⟨by (try dsimp only); omega, by (try dsimp only); omega⟩

set_option maxRecDepth 20000 in
set_option maxHeartbeats 20000000 in
theorem lh_41_E {IN : t_IN} {IE : t_IE} {j n : Nat} {xs : Nat → Int32} {i : Int32} {sR : mo_S} {o : Nat → Int64} {q : Nat × Nat × Nat} {v1 v3 : Value} {g7 g8 : List pm_E} {u1 u3 : Nat} {s0 s4 s5 s6 : cs_S} (PE : ps_41_E_E IN IE) (hj : j < 512) (w1 : vp_in (i + 1) n) (w2 : vp_in (i + 2) n) (w3 : vp_in (i + 3) n) (w4 : vp_in (i + 4) n) (w5 : vp_in (i + 5) n) (hD : ok_D v1 g8 u1) (hT : ok_T v3 g7 u3) (hI : IE j s0 s4 s5 s6 sR) (hq : b_q j (21000 + u1 + u3) q) (KN : lh_KN IN (j + 1) n xs (i + 6)) (KE : lh_KE IE (j + 1) n xs (i + 6)) : pm_Wx 338 13 lw_F 601024 7293034 (2203, [some (.ref 576), some (.ref 0), some (.ref 64), some (.ref 128), some (.int i), none, none, none], [], lh_E v1 v3 g7 g8 s0 s4 s5 s6 sR o n xs q) := by
  obtain ⟨hq1, hq2⟩ := hq
  obtain ⟨r, sR1, H, HM, I1⟩ := PE j s0 s4 s5 s6 sR hj hI
  refine lc_41_E H HM ?_
  exact KE _ _ _ _ _ _ _ _ _ _ _ _ _ hD hT I1 ⟨by (try dsimp only); omega, by (try dsimp only); omega⟩

set_option maxRecDepth 20000 in
set_option maxHeartbeats 20000000 in
theorem lh_42_N {IN : t_IN} {IE : t_IE} {j n : Nat} {xs : Nat → Int32} {i : Int32} {sR : mo_S} {o : Nat → Int64} {q : Nat × Nat × Nat} {s0 : cs_S} (PN : ps_42_N_N IN IE) (hj : j < 512) (w1 : vp_in (i + 1) n) (w2 : vp_in (i + 2) n) (w3 : vp_in (i + 3) n) (w4 : vp_in (i + 4) n) (w5 : vp_in (i + 5) n) (hI : IN j s0 sR) (hq : b_q j 0 q) (KN : lh_KN IN (j + 1) n xs (i + 6)) (KE : lh_KE IE (j + 1) n xs (i + 6)) : pm_Wx 338 13 lw_F 601024 7293034 (2216, [some (.ref 576), some (.ref 0), some (.ref 64), some (.ref 128), some (.int i), none, none, none], [], lh_N s0 sR o n xs q) := by
  obtain ⟨hq1, hq2⟩ := hq
  obtain ⟨r, sR1, H, HM, I1⟩ := PN j s0 sR hj hI
  refine lc_42_N H HM ?_
  exact KN _ _ _ _ I1 ⟨by (try dsimp only); omega, by (try dsimp only); omega⟩

set_option maxRecDepth 20000 in
set_option maxHeartbeats 20000000 in
theorem lh_42_E {IN : t_IN} {IE : t_IE} {j n : Nat} {xs : Nat → Int32} {i : Int32} {sR : mo_S} {o : Nat → Int64} {q : Nat × Nat × Nat} {v1 v3 : Value} {g7 g8 : List pm_E} {u1 u3 : Nat} {s0 s4 s5 s6 : cs_S} (PE : ps_42_E_E IN IE) (hj : j < 512) (w1 : vp_in (i + 1) n) (w2 : vp_in (i + 2) n) (w3 : vp_in (i + 3) n) (w4 : vp_in (i + 4) n) (w5 : vp_in (i + 5) n) (hD : ok_D v1 g8 u1) (hT : ok_T v3 g7 u3) (hI : IE j s0 s4 s5 s6 sR) (hq : b_q j (21000 + u1 + u3) q) (KN : lh_KN IN (j + 1) n xs (i + 6)) (KE : lh_KE IE (j + 1) n xs (i + 6)) : pm_Wx 338 13 lw_F 601024 7293034 (2216, [some (.ref 576), some (.ref 0), some (.ref 64), some (.ref 128), some (.int i), none, none, none], [], lh_E v1 v3 g7 g8 s0 s4 s5 s6 sR o n xs q) := by
  obtain ⟨hq1, hq2⟩ := hq
  obtain ⟨r, sR1, H, HM, I1⟩ := PE j s0 s4 s5 s6 sR hj hI
  refine lc_42_E H HM ?_
  exact KE _ _ _ _ _ _ _ _ _ _ _ _ _ hD hT I1 ⟨by (try dsimp only); omega, by (try dsimp only); omega⟩

set_option maxRecDepth 20000 in
set_option maxHeartbeats 20000000 in
theorem lh_43_N {IN : t_IN} {IE : t_IE} {j n : Nat} {xs : Nat → Int32} {i : Int32} {sR : mo_S} {o : Nat → Int64} {q : Nat × Nat × Nat} {s0 : cs_S} (PN : ps_43_N_N IN IE) (hj : j < 512) (w1 : vp_in (i + 1) n) (w2 : vp_in (i + 2) n) (w3 : vp_in (i + 3) n) (w4 : vp_in (i + 4) n) (w5 : vp_in (i + 5) n) (hI : IN j s0 sR) (hq : b_q j 0 q) (KN : lh_KN IN (j + 1) n xs (i + 6)) (KE : lh_KE IE (j + 1) n xs (i + 6)) : pm_Wx 338 13 lw_F 601024 7293034 (2229, [some (.ref 576), some (.ref 0), some (.ref 64), some (.ref 128), some (.int i), none, none, none], [], lh_N s0 sR o n xs q) := by
  obtain ⟨hq1, hq2⟩ := hq
  obtain ⟨b, sR1, H, HM, HT, I1⟩ := PN j s0 sR (xs (Int32.toNatClampNeg (i + 1))) hj hI
  refine lc_43_N_t2 w1 H HM HT ?_
  exact KN _ _ _ _ I1 ⟨by (try dsimp only); omega, by (try dsimp only); omega⟩

set_option maxRecDepth 20000 in
set_option maxHeartbeats 20000000 in
theorem lh_43_E {IN : t_IN} {IE : t_IE} {j n : Nat} {xs : Nat → Int32} {i : Int32} {sR : mo_S} {o : Nat → Int64} {q : Nat × Nat × Nat} {v1 v3 : Value} {g7 g8 : List pm_E} {u1 u3 : Nat} {s0 s4 s5 s6 : cs_S} (PE : ps_43_E_E IN IE) (hj : j < 512) (w1 : vp_in (i + 1) n) (w2 : vp_in (i + 2) n) (w3 : vp_in (i + 3) n) (w4 : vp_in (i + 4) n) (w5 : vp_in (i + 5) n) (hD : ok_D v1 g8 u1) (hT : ok_T v3 g7 u3) (hI : IE j s0 s4 s5 s6 sR) (hq : b_q j (21000 + u1 + u3) q) (KN : lh_KN IN (j + 1) n xs (i + 6)) (KE : lh_KE IE (j + 1) n xs (i + 6)) : pm_Wx 338 13 lw_F 601024 7293034 (2229, [some (.ref 576), some (.ref 0), some (.ref 64), some (.ref 128), some (.int i), none, none, none], [], lh_E v1 v3 g7 g8 s0 s4 s5 s6 sR o n xs q) := by
  obtain ⟨hq1, hq2⟩ := hq
  rcases PE j s0 s4 s5 s6 sR (xs (Int32.toNatClampNeg (i + 1))) hj hI with ⟨r, sR1, H, HM, HT, I1⟩ | ⟨b, sR1, H, HM, HT, I1⟩
  · refine lc_43_E w1 H HM HT ?_
    exact KE _ _ _ _ _ _ _ _ _ _ _ _ _ hD hT I1 ⟨by (try dsimp only); omega, by (try dsimp only); omega⟩
  · refine lc_43_E_t2 w1 H HM HT ?_
    exact KE _ _ _ _ _ _ _ _ _ _ _ _ _ hD hT I1 ⟨by (try dsimp only); omega, by (try dsimp only); omega⟩

set_option maxRecDepth 20000 in
set_option maxHeartbeats 20000000 in
theorem lh_44_N {IN : t_IN} {IE : t_IE} {j n : Nat} {xs : Nat → Int32} {i : Int32} {sR : mo_S} {o : Nat → Int64} {q : Nat × Nat × Nat} {s0 : cs_S} (PN : ps_44_N_N IN IE) (hj : j < 512) (w1 : vp_in (i + 1) n) (w2 : vp_in (i + 2) n) (w3 : vp_in (i + 3) n) (w4 : vp_in (i + 4) n) (w5 : vp_in (i + 5) n) (hI : IN j s0 sR) (hq : b_q j 0 q) (KN : lh_KN IN (j + 1) n xs (i + 6)) (KE : lh_KE IE (j + 1) n xs (i + 6)) : pm_Wx 338 13 lw_F 601024 7293034 (2285, [some (.ref 576), some (.ref 0), some (.ref 64), some (.ref 128), some (.int i), none, none, none], [], lh_N s0 sR o n xs q) := by
  obtain ⟨hq1, hq2⟩ := hq
  obtain ⟨r, sR1, H, HM, I1⟩ := PN j s0 sR hj hI
  refine lc_44_N H HM ?_
  exact KN _ _ _ _ I1 ⟨by (try dsimp only); omega, by (try dsimp only); omega⟩

set_option maxRecDepth 20000 in
set_option maxHeartbeats 20000000 in
theorem lh_44_E {IN : t_IN} {IE : t_IE} {j n : Nat} {xs : Nat → Int32} {i : Int32} {sR : mo_S} {o : Nat → Int64} {q : Nat × Nat × Nat} {v1 v3 : Value} {g7 g8 : List pm_E} {u1 u3 : Nat} {s0 s4 s5 s6 : cs_S} (PE : ps_44_E_E IN IE) (PT : ps_44_E_T IN IE) (hj : j < 512) (w1 : vp_in (i + 1) n) (w2 : vp_in (i + 2) n) (w3 : vp_in (i + 3) n) (w4 : vp_in (i + 4) n) (w5 : vp_in (i + 5) n) (hD : ok_D v1 g8 u1) (hT : ok_T v3 g7 u3) (hI : IE j s0 s4 s5 s6 sR) (hq : b_q j (21000 + u1 + u3) q) (KN : lh_KN IN (j + 1) n xs (i + 6)) (KE : lh_KE IE (j + 1) n xs (i + 6)) : pm_Wx 338 13 lw_F 601024 7293034 (2285, [some (.ref 576), some (.ref 0), some (.ref 64), some (.ref 128), some (.int i), none, none, none], [], lh_E v1 v3 g7 g8 s0 s4 s5 s6 sR o n xs q) := by
  obtain ⟨hq1, hq2⟩ := hq
  rcases hT with ⟨rfl, rfl, rfl⟩ | ⟨rfl, rfl, s7, rfl⟩
  · rcases PE j s0 s4 s5 s6 sR hj hI with ⟨r, z7, sR1, H, HM, I1⟩ | ⟨z7, sR1, H, HM, I1⟩
    · refine lc_44_E H HM ?_
      have hD9 := hD
      rcases hD with ⟨rfl, rfl, rfl⟩ | ⟨rfl, rfl, s8, rfl⟩
      · refine pm_Wx.ren (p := fun i => id (i / 64) * 64 + i % 64) (J := rn_J (.ref 256) (.ref 384)) (l' := (lh_E _ (.ref 448) (ct_e7 (.float 1) (.float 2) z7) _ s0 s4 s5 s6 sR1 o n xs (0, 0, 0)).1) lw_F_c ?_ (rn_J0 _ _) (rn_Jok (Or.inr ⟨_, rfl⟩) (Or.inr ⟨_, rfl⟩)) rfl (rn_loc rfl rfl rfl rfl rfl rfl rfl rfl) (KE _ (.ref 448) (ct_e7 (.float 1) (.float 2) z7) _ _ 21000 s0 s4 s5 s6 sR1 _ _ hD9 (Or.inr ⟨rfl, rfl, z7, rfl⟩) I1 ⟨by (try dsimp only [cl_h]); omega, by (try dsimp only [cl_h]); omega⟩)
        exact rn_cl (fun _ => rfl) (rn_ten (by first | exact Or.inl rfl | exact Or.inr rfl) (by first | exact Or.inl rfl | exact Or.inr rfl) (by first | exact Or.inl rfl | exact Or.inr rfl) (by first | exact Or.inl rfl | exact Or.inr rfl) (by first | exact Or.inl rfl | exact Or.inr rfl) (by first | exact Or.inl rfl | exact Or.inr rfl) (by first | exact Or.inl rfl | exact Or.inr rfl) (by first | exact Or.inl rfl | exact Or.inr rfl) (by first | exact Or.inl rfl | exact Or.inr rfl) (by first | exact Or.inl rfl | exact Or.inr rfl) (fun g hg => Or.inl (rn_far hg))) (fun _ _ _ _ e => e) (rn_ten rfl rfl rfl rfl rfl rfl rfl rfl rfl rfl (fun g hg => rn_allf hg))
      · refine pm_Wx.ren (p := fun i => id (i / 64) * 64 + i % 64) (J := rn_J (.ref 256) (.ref 384)) (l' := (lh_E _ (.ref 448) (ct_e7 (.float 1) (.float 2) z7) _ s0 s4 s5 s6 sR1 o n xs (0, 0, 0)).1) lw_F_c ?_ (rn_J0 _ _) (rn_Jok (Or.inr ⟨_, rfl⟩) (Or.inr ⟨_, rfl⟩)) rfl (rn_loc rfl rfl rfl rfl rfl rfl rfl rfl) (KE _ (.ref 448) (ct_e7 (.float 1) (.float 2) z7) _ _ 21000 s0 s4 s5 s6 sR1 _ _ hD9 (Or.inr ⟨rfl, rfl, z7, rfl⟩) I1 ⟨by (try dsimp only [cl_h]); omega, by (try dsimp only [cl_h]); omega⟩)
        exact rn_cl (fun _ => rfl) (rn_ten (by first | exact Or.inl rfl | exact Or.inr rfl) (by first | exact Or.inl rfl | exact Or.inr rfl) (by first | exact Or.inl rfl | exact Or.inr rfl) (by first | exact Or.inl rfl | exact Or.inr rfl) (by first | exact Or.inl rfl | exact Or.inr rfl) (by first | exact Or.inl rfl | exact Or.inr rfl) (by first | exact Or.inl rfl | exact Or.inr rfl) (by first | exact Or.inl rfl | exact Or.inr rfl) (by first | exact Or.inl rfl | exact Or.inr rfl) (by first | exact Or.inl rfl | exact Or.inr rfl) (fun g hg => Or.inl (rn_far hg))) (fun _ _ _ _ e => e) (rn_ten rfl rfl rfl rfl rfl rfl rfl rfl rfl rfl (fun g hg => rn_allf hg))
    · refine lc_44_E_t9 H HM ?_
      exact KE _ .null [] _ _ 0 s0 s4 s5 s6 sR1 _ _ hD (Or.inl ⟨rfl, rfl, rfl⟩) I1 ⟨by (try dsimp only); omega, by (try dsimp only); omega⟩
  · rcases PT j s0 s4 s5 s6 s7 sR hj hI with ⟨r, z7, sR1, H, HM, I1⟩ | ⟨z7, sR1, H, HM, I1⟩
    · refine lc_44_T H HM ?_
      have hD9 := hD
      rcases hD with ⟨rfl, rfl, rfl⟩ | ⟨rfl, rfl, s8, rfl⟩
      · refine pm_Wx.ren (p := fun i => id (i / 64) * 64 + i % 64) (J := rn_J (.ref 256) (.ref 384)) (l' := (lh_E _ (.ref 448) (ct_e7 (.float 1) (.float 2) z7) _ s0 s4 s5 s6 sR1 o n xs (0, 0, 0)).1) lw_F_c ?_ (rn_J0 _ _) (rn_Jok (Or.inr ⟨_, rfl⟩) (Or.inr ⟨_, rfl⟩)) rfl (rn_loc rfl rfl rfl rfl rfl rfl rfl rfl) (KE _ (.ref 448) (ct_e7 (.float 1) (.float 2) z7) _ _ 21000 s0 s4 s5 s6 sR1 _ _ hD9 (Or.inr ⟨rfl, rfl, z7, rfl⟩) I1 ⟨by (try dsimp only [cl_h]); omega, by (try dsimp only [cl_h]); omega⟩)
        exact rn_cl (fun _ => rfl) (rn_ten (by first | exact Or.inl rfl | exact Or.inr rfl) (by first | exact Or.inl rfl | exact Or.inr rfl) (by first | exact Or.inl rfl | exact Or.inr rfl) (by first | exact Or.inl rfl | exact Or.inr rfl) (by first | exact Or.inl rfl | exact Or.inr rfl) (by first | exact Or.inl rfl | exact Or.inr rfl) (by first | exact Or.inl rfl | exact Or.inr rfl) (by first | exact Or.inl rfl | exact Or.inr rfl) (by first | exact Or.inl rfl | exact Or.inr rfl) (by first | exact Or.inl rfl | exact Or.inr rfl) (fun g hg => Or.inl (rn_far hg))) (fun _ _ _ _ e => e) (rn_ten rfl rfl rfl rfl rfl rfl rfl rfl rfl rfl (fun g hg => rn_allf hg))
      · refine pm_Wx.ren (p := fun i => id (i / 64) * 64 + i % 64) (J := rn_J (.ref 256) (.ref 384)) (l' := (lh_E _ (.ref 448) (ct_e7 (.float 1) (.float 2) z7) _ s0 s4 s5 s6 sR1 o n xs (0, 0, 0)).1) lw_F_c ?_ (rn_J0 _ _) (rn_Jok (Or.inr ⟨_, rfl⟩) (Or.inr ⟨_, rfl⟩)) rfl (rn_loc rfl rfl rfl rfl rfl rfl rfl rfl) (KE _ (.ref 448) (ct_e7 (.float 1) (.float 2) z7) _ _ 21000 s0 s4 s5 s6 sR1 _ _ hD9 (Or.inr ⟨rfl, rfl, z7, rfl⟩) I1 ⟨by (try dsimp only [cl_h]); omega, by (try dsimp only [cl_h]); omega⟩)
        exact rn_cl (fun _ => rfl) (rn_ten (by first | exact Or.inl rfl | exact Or.inr rfl) (by first | exact Or.inl rfl | exact Or.inr rfl) (by first | exact Or.inl rfl | exact Or.inr rfl) (by first | exact Or.inl rfl | exact Or.inr rfl) (by first | exact Or.inl rfl | exact Or.inr rfl) (by first | exact Or.inl rfl | exact Or.inr rfl) (by first | exact Or.inl rfl | exact Or.inr rfl) (by first | exact Or.inl rfl | exact Or.inr rfl) (by first | exact Or.inl rfl | exact Or.inr rfl) (by first | exact Or.inl rfl | exact Or.inr rfl) (fun g hg => Or.inl (rn_far hg))) (fun _ _ _ _ e => e) (rn_ten rfl rfl rfl rfl rfl rfl rfl rfl rfl rfl (fun g hg => rn_allf hg))
    · refine lc_44_T_t9 H HM ?_
      exact KE _ (.ref 448) (ct_e7 (.float 1) (.float 2) z7) _ _ 21000 s0 s4 s5 s6 sR1 _ _ hD (Or.inr ⟨rfl, rfl, z7, rfl⟩) I1 ⟨by (try dsimp only); omega, by (try dsimp only); omega⟩

set_option maxRecDepth 20000 in
set_option maxHeartbeats 20000000 in
theorem lh_45_N {IN : t_IN} {IE : t_IE} {j n : Nat} {xs : Nat → Int32} {i : Int32} {sR : mo_S} {o : Nat → Int64} {q : Nat × Nat × Nat} {s0 : cs_S} (PN : ps_45_N_N IN IE) (hj : j < 512) (w1 : vp_in (i + 1) n) (w2 : vp_in (i + 2) n) (w3 : vp_in (i + 3) n) (w4 : vp_in (i + 4) n) (w5 : vp_in (i + 5) n) (hI : IN j s0 sR) (hq : b_q j 0 q) (KN : lh_KN IN (j + 1) n xs (i + 6)) (KE : lh_KE IE (j + 1) n xs (i + 6)) : pm_Wx 338 13 lw_F 601024 7293034 (2298, [some (.ref 576), some (.ref 0), some (.ref 64), some (.ref 128), some (.int i), none, none, none], [], lh_N s0 sR o n xs q) := by
  obtain ⟨hq1, hq2⟩ := hq
  obtain ⟨r, sR1, H, HM, I1⟩ := PN j s0 sR hj hI
  refine lc_45_N H HM ?_
  exact KN _ _ _ _ I1 ⟨by (try dsimp only); omega, by (try dsimp only); omega⟩

set_option maxRecDepth 20000 in
set_option maxHeartbeats 20000000 in
theorem lh_45_E {IN : t_IN} {IE : t_IE} {j n : Nat} {xs : Nat → Int32} {i : Int32} {sR : mo_S} {o : Nat → Int64} {q : Nat × Nat × Nat} {v1 v3 : Value} {g7 g8 : List pm_E} {u1 u3 : Nat} {s0 s4 s5 s6 : cs_S} (PE : ps_45_E_E IN IE) (hj : j < 512) (w1 : vp_in (i + 1) n) (w2 : vp_in (i + 2) n) (w3 : vp_in (i + 3) n) (w4 : vp_in (i + 4) n) (w5 : vp_in (i + 5) n) (hD : ok_D v1 g8 u1) (hT : ok_T v3 g7 u3) (hI : IE j s0 s4 s5 s6 sR) (hq : b_q j (21000 + u1 + u3) q) (KN : lh_KN IN (j + 1) n xs (i + 6)) (KE : lh_KE IE (j + 1) n xs (i + 6)) : pm_Wx 338 13 lw_F 601024 7293034 (2298, [some (.ref 576), some (.ref 0), some (.ref 64), some (.ref 128), some (.int i), none, none, none], [], lh_E v1 v3 g7 g8 s0 s4 s5 s6 sR o n xs q) := by
  obtain ⟨hq1, hq2⟩ := hq
  obtain ⟨r, sR1, H, HM, I1⟩ := PE j s0 s4 s5 s6 sR hj hI
  refine lc_45_E H HM ?_
  exact KE _ _ _ _ _ _ _ _ _ _ _ _ _ hD hT I1 ⟨by (try dsimp only); omega, by (try dsimp only); omega⟩
