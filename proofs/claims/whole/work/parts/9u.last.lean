/-! Every call, and the claim. -/
theorem iv_N_s : ∀ (j : Nat) (s0 : cs_S) (sR : mo_S), j < 512 → iv_N j s0 sR → iv_N (j + 1) s0 sR := fun _ _ _ _ h => h
theorem iv_E_s : ∀ (j : Nat) (s0 s4 s5 s6 : cs_S) (sR : mo_S), j < 512 → iv_E j s0 s4 s5 s6 sR → iv_E (j + 1) s0 s4 s5 s6 sR := by
  intro j s0 s4 s5 s6 sR _ h
  obtain ⟨h1, D, S, T, m, n, N, ln, cnt, tk, f, p, A, L, W, F, Z, hn, hN, h7⟩ := h
  exact ⟨h1, D, S, T, m, n, N, ln, cnt, tk, f, p, A, L, W, F, Z, hn, by omega, h7⟩
theorem pa_all : ps_all iv_N iv_E := ⟨p_0_N, p_0_E, p_1_N, p_1_E, p_2_N, p_2_E, p_2_D, p_3_N, p_3_E, p_4_N, p_4_E, p_5_N, p_5_E, p_6_N, p_6_E, p_7_N, p_7_E, p_8_N, p_8_E, p_9_N, p_9_E, p_10_N, p_10_E, p_11_N, p_11_E, p_12_N, p_12_E, p_13_N, p_13_E, p_14_N, p_14_E, p_15_N, p_15_E, p_16_N, p_16_E, p_17_N, p_17_E, p_18_N, p_18_E, p_19_N, p_19_E, p_20_N, p_20_E, p_21_N, p_21_E, p_22_N, p_22_E, p_23_N, p_23_E, p_24_N, p_24_E, p_25_N, p_25_E, p_26_N, p_26_E, p_27_N, p_27_E, p_28_N, p_28_E, p_29_N, p_29_E, p_30_N, p_30_E, p_31_N, p_31_E, p_32_N, p_32_E, p_33_N, p_33_E, p_34_N, p_34_E, p_35_N, p_35_E, p_36_N, p_36_E, p_37_N, p_37_E, p_38_N, p_38_E, p_39_N, p_39_E, p_40_N, p_40_E, p_41_N, p_41_E, p_42_N, p_42_E, p_43_N, p_43_E, p_44_N, p_44_E, p_44_T, p_45_N, p_45_E, iv_N_s, iv_E_s⟩
theorem i_vc : Claimed_1_1 ∧ Claimed_1_2 := by
  obtain ⟨s1, HB, I0⟩ := bg_N
  exact lw_claim pa_all HB I0
