/-! The law's loop, over any invariant that every call keeps (wip/whole/dect.py). -/
def lh_N (s0 : cs_S) (sR : mo_S) (o : Nat → Int64) (n : Nat) (xs : Nat → Int32) (q : Nat × Nat × Nat) : pm_H := cl_h (ct_x .null .null .null s0) (mo_c sR) [.inl (1, 1, .inr (.inl o))] [] [] [] [] [] [] [.inl (9, n, .inl xs)] q
def lh_E (v1 v3 : Value) (g7 g8 : List pm_E) (s0 s4 s5 s6 : cs_S) (sR : mo_S) (o : Nat → Int64) (n : Nat) (xs : Nat → Int32) (q : Nat × Nat × Nat) : pm_H := cl_h (ct_x v1 (.ref 320) v3 s0) (mo_c sR) [.inl (1, 1, .inr (.inl o))] [] (ct_p4 s4) (ct_e5 (.ref 256) (.ref 384) s5) (ct_t6 s6) g7 g8 [.inl (9, n, .inl xs)] q
def lf_h (i : Int32) (h : pm_H) : pm_F := (23, [some (.ref 576), some (.ref 0), some (.ref 64), some (.ref 128), some (.int i), none, none, none], [], h)
def ok_D (v1 : Value) (g8 : List pm_E) (w : Nat) : Prop := (v1 = .null ∧ g8 = [] ∧ w = 0) ∨ (v1 = .ref 512 ∧ w = 700 ∧ ∃ s8, g8 = ct_t8 s8)
def ok_T (v3 : Value) (g7 : List pm_E) (w : Nat) : Prop := (v3 = .null ∧ g7 = [] ∧ w = 0) ∨ (v3 = .ref 448 ∧ w = 21000 ∧ ∃ s7, g7 = ct_e7 (.float 1) (.float 2) s7)
def b_q (j w : Nat) (q : Nat × Nat × Nat) : Prop := q.2.1 ≤ 100 + 50 * j ∧ q.2.2 ≤ 60000 + w + 50 * j
abbrev t_IN : Type := Nat → cs_S → mo_S → Prop
abbrev t_IE : Type := Nat → cs_S → cs_S → cs_S → cs_S → mo_S → Prop
def lh_KN (IN : t_IN) (j n : Nat) (xs : Nat → Int32) (i : Int32) : Prop := ∀ (s0 : cs_S) (sR : mo_S) (o : Nat → Int64) (q : Nat × Nat × Nat), IN j s0 sR → b_q j 0 q → pm_Wx 338 13 lw_F 601024 7293034 (lf_h i (lh_N s0 sR o n xs q))
def lh_KE (IE : t_IE) (j n : Nat) (xs : Nat → Int32) (i : Int32) : Prop := ∀ (v1 v3 : Value) (g7 g8 : List pm_E) (w1 w3 : Nat) (s0 s4 s5 s6 : cs_S) (sR : mo_S) (o : Nat → Int64) (q : Nat × Nat × Nat), ok_D v1 g8 w1 → ok_T v3 g7 w3 → IE j s0 s4 s5 s6 sR → b_q j (21000 + w1 + w3) q → pm_Wx 338 13 lw_F 601024 7293034 (lf_h i (lh_E v1 v3 g7 g8 s0 s4 s5 s6 sR o n xs q))
def rn_1 (g : Nat) : Nat := if g = 4 then 3 else g
def rn_2 (g : Nat) : Nat := if g = 6 then 8 else if g = 8 then 6 else g
def rn_J (a b : Value) (w : UInt32) : Value := if w = 1 then a else if w = 2 then b else .float w
theorem rn_J0 (a b : Value) : rn_J a b 0 = .float 0 := rfl
theorem rn_Jok {a b : Value} (ha : a = .float 1 ∨ ∃ j, a = .ref j) (hb : b = .float 2 ∨ ∃ j, b = .ref j) (w : UInt32) : rn_J a b w = .float w ∨ ∃ j, rn_J a b w = .ref j := by
  unfold rn_J
  by_cases h1 : w = 1
  · rw [if_pos h1, h1]; exact ha
  · rw [if_neg h1]
    by_cases h2 : w = 2
    · rw [if_pos h2, h2]; exact hb
    · rw [if_neg h2]; exact Or.inl rfl
theorem rn_ten {P : Nat → Prop} (h0 : P 0) (h1 : P 1) (h2 : P 2) (h3 : P 3) (h4 : P 4) (h5 : P 5) (h6 : P 6) (h7 : P 7) (h8 : P 8) (h9 : P 9) (hx : ∀ g, 10 ≤ g → P g) : ∀ g, P g := by
  intro g
  rcases (show g = 0 ∨ g = 1 ∨ g = 2 ∨ g = 3 ∨ g = 4 ∨ g = 5 ∨ g = 6 ∨ g = 7 ∨ g = 8 ∨ g = 9 ∨ 10 ≤ g by omega) with rfl | rfl | rfl | rfl | rfl | rfl | rfl | rfl | rfl | rfl | h
  · exact h0
  · exact h1
  · exact h2
  · exact h3
  · exact h4
  · exact h5
  · exact h6
  · exact h7
  · exact h8
  · exact h9
  · exact hx g h
theorem rn_i1 {h : pm_H} (h3 : h.1.getD 3 [] = []) (g g' : Nat) (h1 : h.1.getD g [] ≠ []) (h2 : h.1.getD g' [] ≠ []) (e : rn_1 g = rn_1 g') : g = g' := by
  unfold rn_1 at e
  by_cases a : g = 4
  · by_cases b : g' = 4
    · rw [a, b]
    · rw [if_pos a, if_neg b] at e
      rw [← e] at h2
      exact absurd h3 h2
  · by_cases b : g' = 4
    · rw [if_neg a, if_pos b] at e
      rw [e] at h1
      exact absurd h3 h1
    · rw [if_neg a, if_neg b] at e
      exact e
theorem rn_i2 {h : pm_H} (g g' : Nat) (_ : h.1.getD g [] ≠ []) (_ : h.1.getD g' [] ≠ []) (e : rn_2 g = rn_2 g') : g = g' := by
  unfold rn_2 at e
  repeat' split at e
  all_goals omega
theorem rn_far {a0 a1 a2 a3 a4 a5 a6 a7 a8 a9 : List pm_E} {g : Nat} (h : 10 ≤ g) : [a0, a1, a2, a3, a4, a5, a6, a7, a8, a9].getD g [] = [] := by
  rw [List.getD_eq_getElem?_getD, List.getElem?_eq_none (show 10 ≤ g from h)]
  rfl
theorem rn_allf {a0 a1 a2 a3 a4 a5 a6 a7 a8 a9 : List pm_E} {f : pm_E → Bool} {g : Nat} (hg : 10 ≤ g) : ([a0, a1, a2, a3, a4, a5, a6, a7, a8, a9].getD g []).all f = true := by
  rw [rn_far hg]
  rfl

def ps_0_N_A (IN : t_IN) (IE : t_IE) : Prop := ∀ (j : Nat) (s0 : cs_S) (sR : mo_S) (a1 a2 a3 a4 a5 : Int32), j < 512 → IN j s0 sR → (∃ (r : Int32) (z0 : cs_S) (sR1 : mo_S), f_X8_feed_A s0 a1 a2 a3 a4 a5 = some (.inl r, z0) ∧ f_X9_feed sR a1 a2 a3 a4 a5 = some (r, sR1) ∧ f_X9_thrown sR1 = some 0 ∧ IN (j + 1) z0 sR1) ∨ (∃ (b : Int32) (z0 : cs_S) (sR1 : mo_S), f_X8_feed_A s0 a1 a2 a3 a4 a5 = some (.inr 0, z0) ∧ f_X9_feed sR a1 a2 a3 a4 a5 = some (b, sR1) ∧ f_X9_thrown sR1 = some 1 ∧ IN (j + 1) z0 sR1)

def ps_0_E_A (IN : t_IN) (IE : t_IE) : Prop := ∀ (j : Nat) (s0 s4 s5 s6 : cs_S) (sR : mo_S) (a1 a2 a3 a4 a5 : Int32), j < 512 → IE j s0 s4 s5 s6 sR → (∃ (r : Int32) (z0 : cs_S) (sR1 : mo_S), f_X8_feed_A s0 a1 a2 a3 a4 a5 = some (.inl r, z0) ∧ f_X9_feed sR a1 a2 a3 a4 a5 = some (r, sR1) ∧ f_X9_thrown sR1 = some 0 ∧ IE (j + 1) z0 s4 s5 s6 sR1) ∨ (∃ (b : Int32) (z0 : cs_S) (sR1 : mo_S), f_X8_feed_A s0 a1 a2 a3 a4 a5 = some (.inr 0, z0) ∧ f_X9_feed sR a1 a2 a3 a4 a5 = some (b, sR1) ∧ f_X9_thrown sR1 = some 1 ∧ IE (j + 1) z0 s4 s5 s6 sR1)

def ps_1_N_N (IN : t_IN) (IE : t_IE) : Prop := ∀ (j : Nat) (s0 : cs_S) (sR : mo_S) (a1 : Int32), j < 512 → IN j s0 sR → (∃ (r : Int32) (z0 : cs_S) (z3 : cs_S) (z5 : cs_S) (z6 : cs_S) (sR1 : mo_S), f_X8_loadArray_N s0 cs_z cs_z cs_z a1 = some (.inl r, z0, z3, z5, z6) ∧ f_X9_loadArray sR a1 = some (r, sR1) ∧ f_X9_thrown sR1 = some 0 ∧ IE (j + 1) z0 z3 z5 z6 sR1) ∨ (∃ (b : Int32) (z0 : cs_S) (z3 : cs_S) (z5 : cs_S) (z6 : cs_S) (sR1 : mo_S), f_X8_loadArray_N s0 cs_z cs_z cs_z a1 = some (.inr 0, z0, z3, z5, z6) ∧ f_X9_loadArray sR a1 = some (b, sR1) ∧ f_X9_thrown sR1 = some 2 ∧ IN (j + 1) z0 sR1) ∨ (∃ (b : Int32) (z0 : cs_S) (z3 : cs_S) (z5 : cs_S) (z6 : cs_S) (sR1 : mo_S), f_X8_loadArray_N s0 cs_z cs_z cs_z a1 = some (.inr 1, z0, z3, z5, z6) ∧ f_X9_loadArray sR a1 = some (b, sR1) ∧ f_X9_thrown sR1 = some 1 ∧ IN (j + 1) z0 sR1)

def ps_1_E_E (IN : t_IN) (IE : t_IE) : Prop := ∀ (j : Nat) (s0 s4 s5 s6 : cs_S) (sR : mo_S) (a1 : Int32), j < 512 → IE j s0 s4 s5 s6 sR → (∃ (r : Int32) (z0 : cs_S) (z3 : cs_S) (z5 : cs_S) (z6 : cs_S) (sR1 : mo_S), f_X8_loadArray_E s0 cs_z s5 s6 a1 = some (.inl r, z0, z3, z5, z6) ∧ f_X9_loadArray sR a1 = some (r, sR1) ∧ f_X9_thrown sR1 = some 0 ∧ IE (j + 1) z0 z3 z5 z6 sR1) ∨ (∃ (b : Int32) (z0 : cs_S) (z3 : cs_S) (z5 : cs_S) (z6 : cs_S) (sR1 : mo_S), f_X8_loadArray_E s0 cs_z s5 s6 a1 = some (.inr 0, z0, z3, z5, z6) ∧ f_X9_loadArray sR a1 = some (b, sR1) ∧ f_X9_thrown sR1 = some 2 ∧ IE (j + 1) z0 s4 z5 z6 sR1) ∨ (∃ (b : Int32) (z0 : cs_S) (z3 : cs_S) (z5 : cs_S) (z6 : cs_S) (sR1 : mo_S), f_X8_loadArray_E s0 cs_z s5 s6 a1 = some (.inr 1, z0, z3, z5, z6) ∧ f_X9_loadArray sR a1 = some (b, sR1) ∧ f_X9_thrown sR1 = some 1 ∧ IE (j + 1) z0 s4 z5 z6 sR1)

def ps_2_N_N (IN : t_IN) (IE : t_IE) : Prop := ∀ (j : Nat) (s0 : cs_S) (sR : mo_S) (a1 : Int32), j < 512 → IN j s0 sR → (∃ (b : Int32) (z0 : cs_S) (sR1 : mo_S), f_X8_loadTrace_N s0 a1 = some (.inr 0, z0) ∧ f_X9_loadTrace sR a1 = some (b, sR1) ∧ f_X9_thrown sR1 = some 2 ∧ IN (j + 1) z0 sR1) ∨ (∃ (b : Int32) (z0 : cs_S) (sR1 : mo_S), f_X8_loadTrace_N s0 a1 = some (.inr 1, z0) ∧ f_X9_loadTrace sR a1 = some (b, sR1) ∧ f_X9_thrown sR1 = some 1 ∧ IN (j + 1) z0 sR1)

def ps_2_E_E (IN : t_IN) (IE : t_IE) : Prop := ∀ (j : Nat) (s0 s4 s5 s6 : cs_S) (sR : mo_S) (a1 : Int32), j < 512 → IE j s0 s4 s5 s6 sR → (∃ (r : Int32) (z0 : cs_S) (z5 : cs_S) (z8 : cs_S) (sR1 : mo_S), f_X8_loadTrace_E s0 s4 s5 cs_z a1 = some (.inl r, z0, z5, z8) ∧ f_X9_loadTrace sR a1 = some (r, sR1) ∧ f_X9_thrown sR1 = some 0 ∧ IE (j + 1) z0 s4 z5 z8 sR1) ∨ (∃ (b : Int32) (z0 : cs_S) (z5 : cs_S) (z8 : cs_S) (sR1 : mo_S), f_X8_loadTrace_E s0 s4 s5 cs_z a1 = some (.inr 0, z0, z5, z8) ∧ f_X9_loadTrace sR a1 = some (b, sR1) ∧ f_X9_thrown sR1 = some 2 ∧ IE (j + 1) z0 s4 z5 s6 sR1) ∨ (∃ (b : Int32) (z0 : cs_S) (z5 : cs_S) (z8 : cs_S) (sR1 : mo_S), f_X8_loadTrace_E s0 s4 s5 cs_z a1 = some (.inr 1, z0, z5, z8) ∧ f_X9_loadTrace sR a1 = some (b, sR1) ∧ f_X9_thrown sR1 = some 1 ∧ IE (j + 1) z0 s4 z5 s6 sR1)
def ps_2_E_D (IN : t_IN) (IE : t_IE) : Prop := ∀ (j : Nat) (s0 s4 s5 s6 : cs_S) (s8 : cs_S) (sR : mo_S) (a1 : Int32), j < 512 → IE j s0 s4 s5 s6 sR → (∃ (r : Int32) (z0 : cs_S) (z5 : cs_S) (z8 : cs_S) (sR1 : mo_S), f_X8_loadTrace_D s0 s4 s5 s8 a1 = some (.inl r, z0, z5, z8) ∧ f_X9_loadTrace sR a1 = some (r, sR1) ∧ f_X9_thrown sR1 = some 0 ∧ IE (j + 1) z0 s4 z5 z8 sR1) ∨ (∃ (b : Int32) (z0 : cs_S) (z5 : cs_S) (z8 : cs_S) (sR1 : mo_S), f_X8_loadTrace_D s0 s4 s5 s8 a1 = some (.inr 0, z0, z5, z8) ∧ f_X9_loadTrace sR a1 = some (b, sR1) ∧ f_X9_thrown sR1 = some 2 ∧ IE (j + 1) z0 s4 z5 s6 sR1) ∨ (∃ (b : Int32) (z0 : cs_S) (z5 : cs_S) (z8 : cs_S) (sR1 : mo_S), f_X8_loadTrace_D s0 s4 s5 s8 a1 = some (.inr 1, z0, z5, z8) ∧ f_X9_loadTrace sR a1 = some (b, sR1) ∧ f_X9_thrown sR1 = some 1 ∧ IE (j + 1) z0 s4 z5 s6 sR1)

def ps_3_N_A (IN : t_IN) (IE : t_IE) : Prop := ∀ (j : Nat) (s0 : cs_S) (sR : mo_S), j < 512 → IN j s0 sR → (∃ (r : Int32) (sR1 : mo_S), f_X8_errorCode_A s0 = some r ∧ f_X9_errorCode sR = some (r, sR1) ∧ IN (j + 1) s0 sR1)

def ps_3_E_A (IN : t_IN) (IE : t_IE) : Prop := ∀ (j : Nat) (s0 s4 s5 s6 : cs_S) (sR : mo_S), j < 512 → IE j s0 s4 s5 s6 sR → (∃ (r : Int32) (sR1 : mo_S), f_X8_errorCode_A s0 = some r ∧ f_X9_errorCode sR = some (r, sR1) ∧ IE (j + 1) s0 s4 s5 s6 sR1)

def ps_4_N_A (IN : t_IN) (IE : t_IE) : Prop := ∀ (j : Nat) (s0 : cs_S) (sR : mo_S), j < 512 → IN j s0 sR → (∃ (r : Int32) (sR1 : mo_S), f_X8_errorPosition_A s0 = some r ∧ f_X9_errorPosition sR = some (r, sR1) ∧ IN (j + 1) s0 sR1)

def ps_4_E_A (IN : t_IN) (IE : t_IE) : Prop := ∀ (j : Nat) (s0 s4 s5 s6 : cs_S) (sR : mo_S), j < 512 → IE j s0 s4 s5 s6 sR → (∃ (r : Int32) (sR1 : mo_S), f_X8_errorPosition_A s0 = some r ∧ f_X9_errorPosition sR = some (r, sR1) ∧ IE (j + 1) s0 s4 s5 s6 sR1)

def ps_5_N_N (IN : t_IN) (IE : t_IE) : Prop := ∀ (j : Nat) (s0 : cs_S) (sR : mo_S), j < 512 → IN j s0 sR → (∃ (r : Int32) (sR1 : mo_S), f_X8_diskCount_N s0 = some r ∧ f_X9_diskCount sR = some (r, sR1) ∧ IN (j + 1) s0 sR1)

def ps_5_E_E (IN : t_IN) (IE : t_IE) : Prop := ∀ (j : Nat) (s0 s4 s5 s6 : cs_S) (sR : mo_S), j < 512 → IE j s0 s4 s5 s6 sR → (∃ (r : Int32) (sR1 : mo_S), f_X8_diskCount_E s0 s4 s5 = some r ∧ f_X9_diskCount sR = some (r, sR1) ∧ IE (j + 1) s0 s4 s5 s6 sR1)

def ps_6_N_N (IN : t_IN) (IE : t_IE) : Prop := ∀ (j : Nat) (s0 : cs_S) (sR : mo_S), j < 512 → IN j s0 sR → (∃ (r : Int32) (sR1 : mo_S), f_X8_stripeCount_N s0 = some r ∧ f_X9_stripeCount sR = some (r, sR1) ∧ IN (j + 1) s0 sR1)

def ps_6_E_E (IN : t_IN) (IE : t_IE) : Prop := ∀ (j : Nat) (s0 s4 s5 s6 : cs_S) (sR : mo_S), j < 512 → IE j s0 s4 s5 s6 sR → (∃ (r : Int32) (sR1 : mo_S), f_X8_stripeCount_E s0 s4 s5 = some r ∧ f_X9_stripeCount sR = some (r, sR1) ∧ IE (j + 1) s0 s4 s5 s6 sR1)

def ps_7_N_N (IN : t_IN) (IE : t_IE) : Prop := ∀ (j : Nat) (s0 : cs_S) (sR : mo_S), j < 512 → IN j s0 sR → (∃ (r : Int32) (sR1 : mo_S), f_X8_tenantCount_N s0 = some r ∧ f_X9_tenantCount sR = some (r, sR1) ∧ IN (j + 1) s0 sR1)

def ps_7_E_E (IN : t_IN) (IE : t_IE) : Prop := ∀ (j : Nat) (s0 s4 s5 s6 : cs_S) (sR : mo_S), j < 512 → IE j s0 s4 s5 s6 sR → (∃ (r : Int32) (sR1 : mo_S), f_X8_tenantCount_E s0 s4 s5 = some r ∧ f_X9_tenantCount sR = some (r, sR1) ∧ IE (j + 1) s0 s4 s5 s6 sR1)

def ps_8_N_N (IN : t_IN) (IE : t_IE) : Prop := ∀ (j : Nat) (s0 : cs_S) (sR : mo_S) (a1 : Int32), j < 512 → IN j s0 sR → (∃ (b : Int32) (sR1 : mo_S), f_X8_stripeOf_N s0 a1 = some (.inr 2) ∧ f_X9_stripeOf sR a1 = some (b, sR1) ∧ f_X9_thrown sR1 = some 1 ∧ IN (j + 1) s0 sR1)

def ps_8_E_E (IN : t_IN) (IE : t_IE) : Prop := ∀ (j : Nat) (s0 s4 s5 s6 : cs_S) (sR : mo_S) (a1 : Int32), j < 512 → IE j s0 s4 s5 s6 sR → (∃ (r : Int32) (sR1 : mo_S), f_X8_stripeOf_E s0 s4 s5 a1 = some (.inl r) ∧ f_X9_stripeOf sR a1 = some (r, sR1) ∧ f_X9_thrown sR1 = some 0 ∧ IE (j + 1) s0 s4 s5 s6 sR1) ∨ (∃ (b : Int32) (sR1 : mo_S), f_X8_stripeOf_E s0 s4 s5 a1 = some (.inr 2) ∧ f_X9_stripeOf sR a1 = some (b, sR1) ∧ f_X9_thrown sR1 = some 1 ∧ IE (j + 1) s0 s4 s5 s6 sR1)

def ps_9_N_N (IN : t_IN) (IE : t_IE) : Prop := ∀ (j : Nat) (s0 : cs_S) (sR : mo_S) (a1 : Int32), j < 512 → IN j s0 sR → (∃ (b : Int32) (sR1 : mo_S), f_X8_diskOf_N s0 a1 = some (.inr 2) ∧ f_X9_diskOf sR a1 = some (b, sR1) ∧ f_X9_thrown sR1 = some 1 ∧ IN (j + 1) s0 sR1)

def ps_9_E_E (IN : t_IN) (IE : t_IE) : Prop := ∀ (j : Nat) (s0 s4 s5 s6 : cs_S) (sR : mo_S) (a1 : Int32), j < 512 → IE j s0 s4 s5 s6 sR → (∃ (r : Int32) (sR1 : mo_S), f_X8_diskOf_E s0 s4 s5 a1 = some (.inl r) ∧ f_X9_diskOf sR a1 = some (r, sR1) ∧ f_X9_thrown sR1 = some 0 ∧ IE (j + 1) s0 s4 s5 s6 sR1) ∨ (∃ (b : Int32) (sR1 : mo_S), f_X8_diskOf_E s0 s4 s5 a1 = some (.inr 2) ∧ f_X9_diskOf sR a1 = some (b, sR1) ∧ f_X9_thrown sR1 = some 1 ∧ IE (j + 1) s0 s4 s5 s6 sR1)

def ps_10_N_N (IN : t_IN) (IE : t_IE) : Prop := ∀ (j : Nat) (s0 : cs_S) (sR : mo_S) (a1 : Int32), j < 512 → IN j s0 sR → (∃ (b : Int32) (sR1 : mo_S), f_X8_parityDisk_N s0 a1 = some (.inr 2) ∧ f_X9_parityDisk sR a1 = some (b, sR1) ∧ f_X9_thrown sR1 = some 1 ∧ IN (j + 1) s0 sR1)

def ps_10_E_E (IN : t_IN) (IE : t_IE) : Prop := ∀ (j : Nat) (s0 s4 s5 s6 : cs_S) (sR : mo_S) (a1 : Int32), j < 512 → IE j s0 s4 s5 s6 sR → (∃ (r : Int32) (sR1 : mo_S), f_X8_parityDisk_E s0 s4 s5 a1 = some (.inl r) ∧ f_X9_parityDisk sR a1 = some (r, sR1) ∧ f_X9_thrown sR1 = some 0 ∧ IE (j + 1) s0 s4 s5 s6 sR1) ∨ (∃ (b : Int32) (sR1 : mo_S), f_X8_parityDisk_E s0 s4 s5 a1 = some (.inr 2) ∧ f_X9_parityDisk sR a1 = some (b, sR1) ∧ f_X9_thrown sR1 = some 1 ∧ IE (j + 1) s0 s4 s5 s6 sR1)

def ps_11_N_N (IN : t_IN) (IE : t_IE) : Prop := ∀ (j : Nat) (s0 : cs_S) (sR : mo_S) (a1 a2 : Int32), j < 512 → IN j s0 sR → (∃ (b : Int32) (sR1 : mo_S), f_X8_share_N s0 a1 a2 = some (.inr 2) ∧ f_X9_share sR a1 a2 = some (b, sR1) ∧ f_X9_thrown sR1 = some 1 ∧ IN (j + 1) s0 sR1)

def ps_11_E_E (IN : t_IN) (IE : t_IE) : Prop := ∀ (j : Nat) (s0 s4 s5 s6 : cs_S) (sR : mo_S) (a1 a2 : Int32), j < 512 → IE j s0 s4 s5 s6 sR → (∃ (r : Int32) (sR1 : mo_S), f_X8_share_E s0 s4 s5 a1 a2 = some (.inl r) ∧ f_X9_share sR a1 a2 = some (r, sR1) ∧ f_X9_thrown sR1 = some 0 ∧ IE (j + 1) s0 s4 s5 s6 sR1) ∨ (∃ (b : Int32) (sR1 : mo_S), f_X8_share_E s0 s4 s5 a1 a2 = some (.inr 1) ∧ f_X9_share sR a1 a2 = some (b, sR1) ∧ f_X9_thrown sR1 = some 2 ∧ IE (j + 1) s0 s4 s5 s6 sR1) ∨ (∃ (b : Int32) (sR1 : mo_S), f_X8_share_E s0 s4 s5 a1 a2 = some (.inr 2) ∧ f_X9_share sR a1 a2 = some (b, sR1) ∧ f_X9_thrown sR1 = some 1 ∧ IE (j + 1) s0 s4 s5 s6 sR1)

def ps_12_N_N (IN : t_IN) (IE : t_IE) : Prop := ∀ (j : Nat) (s0 : cs_S) (sR : mo_S) (a1 a2 a3 a4 : Int32), j < 512 → IN j s0 sR → (∃ (b : Int32) (sR1 : mo_S), f_X8_submit_N s0 a1 a2 (if a3 = 0 then 0 else 1) a4 = some (.inr 2) ∧ f_X9_submit sR a1 a2 (if a3 = 0 then 0 else 1) a4 = some (b, sR1) ∧ f_X9_thrown sR1 = some 1 ∧ IN (j + 1) s0 sR1)

def ps_12_E_E (IN : t_IN) (IE : t_IE) : Prop := ∀ (j : Nat) (s0 s4 s5 s6 : cs_S) (sR : mo_S) (a1 a2 a3 a4 : Int32), j < 512 → IE j s0 s4 s5 s6 sR → (∃ (r : Int32) (z5 : cs_S) (sR1 : mo_S), f_X8_submit_E s0 s4 s5 a1 a2 (if a3 = 0 then 0 else 1) a4 = some (.inl r, z5) ∧ f_X9_submit sR a1 a2 (if a3 = 0 then 0 else 1) a4 = some (r, sR1) ∧ f_X9_thrown sR1 = some 0 ∧ IE (j + 1) s0 s4 z5 s6 sR1) ∨ (∃ (b : Int32) (z5 : cs_S) (sR1 : mo_S), f_X8_submit_E s0 s4 s5 a1 a2 (if a3 = 0 then 0 else 1) a4 = some (.inr 0, z5) ∧ f_X9_submit sR a1 a2 (if a3 = 0 then 0 else 1) a4 = some (b, sR1) ∧ f_X9_thrown sR1 = some 3 ∧ IE (j + 1) s0 s4 z5 s6 sR1) ∨ (∃ (b : Int32) (z5 : cs_S) (sR1 : mo_S), f_X8_submit_E s0 s4 s5 a1 a2 (if a3 = 0 then 0 else 1) a4 = some (.inr 1, z5) ∧ f_X9_submit sR a1 a2 (if a3 = 0 then 0 else 1) a4 = some (b, sR1) ∧ f_X9_thrown sR1 = some 2 ∧ IE (j + 1) s0 s4 z5 s6 sR1) ∨ (∃ (b : Int32) (z5 : cs_S) (sR1 : mo_S), f_X8_submit_E s0 s4 s5 a1 a2 (if a3 = 0 then 0 else 1) a4 = some (.inr 2, z5) ∧ f_X9_submit sR a1 a2 (if a3 = 0 then 0 else 1) a4 = some (b, sR1) ∧ f_X9_thrown sR1 = some 1 ∧ IE (j + 1) s0 s4 z5 s6 sR1)

def ps_13_N_N (IN : t_IN) (IE : t_IE) : Prop := ∀ (j : Nat) (s0 : cs_S) (sR : mo_S) (a1 : Int32), j < 512 → IN j s0 sR → (∃ (b : Int32) (sR1 : mo_S), f_X8_fail_N s0 a1 = some (.inr 2) ∧ f_X9_fail sR a1 = some (b, sR1) ∧ f_X9_thrown sR1 = some 1 ∧ IN (j + 1) s0 sR1)

def ps_13_E_E (IN : t_IN) (IE : t_IE) : Prop := ∀ (j : Nat) (s0 s4 s5 s6 : cs_S) (sR : mo_S) (a1 : Int32), j < 512 → IE j s0 s4 s5 s6 sR → (∃ (r : Int32) (z5 : cs_S) (sR1 : mo_S), f_X8_fail_E s0 s4 s5 a1 = some (.inl r, z5) ∧ f_X9_fail sR a1 = some (r, sR1) ∧ f_X9_thrown sR1 = some 0 ∧ IE (j + 1) s0 s4 z5 s6 sR1) ∨ (∃ (b : Int32) (z5 : cs_S) (sR1 : mo_S), f_X8_fail_E s0 s4 s5 a1 = some (.inr 0, z5) ∧ f_X9_fail sR a1 = some (b, sR1) ∧ f_X9_thrown sR1 = some 2 ∧ IE (j + 1) s0 s4 z5 s6 sR1) ∨ (∃ (b : Int32) (z5 : cs_S) (sR1 : mo_S), f_X8_fail_E s0 s4 s5 a1 = some (.inr 2, z5) ∧ f_X9_fail sR a1 = some (b, sR1) ∧ f_X9_thrown sR1 = some 1 ∧ IE (j + 1) s0 s4 z5 s6 sR1)

def ps_14_N_N (IN : t_IN) (IE : t_IE) : Prop := ∀ (j : Nat) (s0 : cs_S) (sR : mo_S) (a1 : Int32), j < 512 → IN j s0 sR → (∃ (b : Int32) (sR1 : mo_S), f_X8_advance_N s0 a1 = some (.inr 0) ∧ f_X9_advance sR a1 = some (b, sR1) ∧ f_X9_thrown sR1 = some 2 ∧ IN (j + 1) s0 sR1) ∨ (∃ (b : Int32) (sR1 : mo_S), f_X8_advance_N s0 a1 = some (.inr 1) ∧ f_X9_advance sR a1 = some (b, sR1) ∧ f_X9_thrown sR1 = some 1 ∧ IN (j + 1) s0 sR1)

def ps_14_E_E (IN : t_IN) (IE : t_IE) : Prop := ∀ (j : Nat) (s0 s4 s5 s6 : cs_S) (sR : mo_S) (a1 : Int32), j < 512 → IE j s0 s4 s5 s6 sR → (∃ (r : Int32) (z5 : cs_S) (sR1 : mo_S), f_X8_advance_E s0 s4 s5 s6 a1 = some (.inl r, z5) ∧ f_X9_advance sR a1 = some (r, sR1) ∧ f_X9_thrown sR1 = some 0 ∧ IE (j + 1) s0 s4 z5 s6 sR1) ∨ (∃ (b : Int32) (z5 : cs_S) (sR1 : mo_S), f_X8_advance_E s0 s4 s5 s6 a1 = some (.inr 1, z5) ∧ f_X9_advance sR a1 = some (b, sR1) ∧ f_X9_thrown sR1 = some 1 ∧ IE (j + 1) s0 s4 z5 s6 sR1)

def ps_15_N_N (IN : t_IN) (IE : t_IE) : Prop := ∀ (j : Nat) (s0 : cs_S) (sR : mo_S) (a1 : Int32), j < 512 → IN j s0 sR → (∃ (b : Int32) (sR1 : mo_S), f_X8_promise_N s0 a1 = some (.inr 0) ∧ f_X9_promise sR a1 = some (b, sR1) ∧ f_X9_thrown sR1 = some 2 ∧ IN (j + 1) s0 sR1) ∨ (∃ (b : Int32) (sR1 : mo_S), f_X8_promise_N s0 a1 = some (.inr 1) ∧ f_X9_promise sR a1 = some (b, sR1) ∧ f_X9_thrown sR1 = some 1 ∧ IN (j + 1) s0 sR1)

def ps_15_E_E (IN : t_IN) (IE : t_IE) : Prop := ∀ (j : Nat) (s0 s4 s5 s6 : cs_S) (sR : mo_S) (a1 : Int32), j < 512 → IE j s0 s4 s5 s6 sR → (∃ (r : Int32) (z5 : cs_S) (sR1 : mo_S), f_X8_promise_E s0 s5 a1 = some (.inl r, z5) ∧ f_X9_promise sR a1 = some (r, sR1) ∧ f_X9_thrown sR1 = some 0 ∧ IE (j + 1) s0 s4 z5 s6 sR1) ∨ (∃ (b : Int32) (z5 : cs_S) (sR1 : mo_S), f_X8_promise_E s0 s5 a1 = some (.inr 1, z5) ∧ f_X9_promise sR a1 = some (b, sR1) ∧ f_X9_thrown sR1 = some 1 ∧ IE (j + 1) s0 s4 z5 s6 sR1)

def ps_16_N_N (IN : t_IN) (IE : t_IE) : Prop := ∀ (j : Nat) (s0 : cs_S) (sR : mo_S) (a1 a2 a3 a4 : Int32), j < 512 → IN j s0 sR → (∃ (b : Int32) (sR1 : mo_S), f_X8_setShare_N s0 a1 a2 a3 a4 = some (.inr 2) ∧ f_X9_setShare sR a1 a2 a3 a4 = some (b, sR1) ∧ f_X9_thrown sR1 = some 1 ∧ IN (j + 1) s0 sR1)

def ps_16_E_E (IN : t_IN) (IE : t_IE) : Prop := ∀ (j : Nat) (s0 s4 s5 s6 : cs_S) (sR : mo_S) (a1 a2 a3 a4 : Int32), j < 512 → IE j s0 s4 s5 s6 sR → (∃ (r : Int32) (z4 : cs_S) (sR1 : mo_S), f_X8_setShare_E s0 s4 s5 a1 a2 a3 a4 = some (.inl r, z4) ∧ f_X9_setShare sR a1 a2 a3 a4 = some (r, sR1) ∧ f_X9_thrown sR1 = some 0 ∧ IE (j + 1) s0 z4 s5 s6 sR1) ∨ (∃ (b : Int32) (z4 : cs_S) (sR1 : mo_S), f_X8_setShare_E s0 s4 s5 a1 a2 a3 a4 = some (.inr 1, z4) ∧ f_X9_setShare sR a1 a2 a3 a4 = some (b, sR1) ∧ f_X9_thrown sR1 = some 2 ∧ IE (j + 1) s0 z4 s5 s6 sR1) ∨ (∃ (b : Int32) (z4 : cs_S) (sR1 : mo_S), f_X8_setShare_E s0 s4 s5 a1 a2 a3 a4 = some (.inr 2, z4) ∧ f_X9_setShare sR a1 a2 a3 a4 = some (b, sR1) ∧ f_X9_thrown sR1 = some 1 ∧ IE (j + 1) s0 z4 s5 s6 sR1)

def ps_17_N_N (IN : t_IN) (IE : t_IE) : Prop := ∀ (j : Nat) (s0 : cs_S) (sR : mo_S), j < 512 → IN j s0 sR → (∃ (r : Int32) (sR1 : mo_S), f_X8_now_N s0 = some r ∧ f_X9_now sR = some (r, sR1) ∧ IN (j + 1) s0 sR1)

def ps_17_E_E (IN : t_IN) (IE : t_IE) : Prop := ∀ (j : Nat) (s0 s4 s5 s6 : cs_S) (sR : mo_S), j < 512 → IE j s0 s4 s5 s6 sR → (∃ (r : Int32) (sR1 : mo_S), f_X8_now_E s0 s5 = some r ∧ f_X9_now sR = some (r, sR1) ∧ IE (j + 1) s0 s4 s5 s6 sR1)

def ps_18_N_N (IN : t_IN) (IE : t_IE) : Prop := ∀ (j : Nat) (s0 : cs_S) (sR : mo_S), j < 512 → IN j s0 sR → (∃ (r : Int32) (sR1 : mo_S), f_X8_failedDisk_N s0 = some r ∧ f_X9_failedDisk sR = some (r, sR1) ∧ IN (j + 1) s0 sR1)

def ps_18_E_E (IN : t_IN) (IE : t_IE) : Prop := ∀ (j : Nat) (s0 s4 s5 s6 : cs_S) (sR : mo_S), j < 512 → IE j s0 s4 s5 s6 sR → (∃ (r : Int32) (sR1 : mo_S), f_X8_failedDisk_E s0 s5 = some r ∧ f_X9_failedDisk sR = some (r, sR1) ∧ IE (j + 1) s0 s4 s5 s6 sR1)

def ps_19_N_N (IN : t_IN) (IE : t_IE) : Prop := ∀ (j : Nat) (s0 : cs_S) (sR : mo_S) (a1 a2 : Int32), j < 512 → IN j s0 sR → (∃ (b : Int32) (sR1 : mo_S), f_X8_queueLength_N s0 a1 a2 = some (.inr 2) ∧ f_X9_queueLength sR a1 a2 = some (b, sR1) ∧ f_X9_thrown sR1 = some 1 ∧ IN (j + 1) s0 sR1)

def ps_19_E_E (IN : t_IN) (IE : t_IE) : Prop := ∀ (j : Nat) (s0 s4 s5 s6 : cs_S) (sR : mo_S) (a1 a2 : Int32), j < 512 → IE j s0 s4 s5 s6 sR → (∃ (r : Int32) (sR1 : mo_S), f_X8_queueLength_E s0 s4 s5 a1 a2 = some (.inl r) ∧ f_X9_queueLength sR a1 a2 = some (r, sR1) ∧ f_X9_thrown sR1 = some 0 ∧ IE (j + 1) s0 s4 s5 s6 sR1) ∨ (∃ (b : Int32) (sR1 : mo_S), f_X8_queueLength_E s0 s4 s5 a1 a2 = some (.inr 2) ∧ f_X9_queueLength sR a1 a2 = some (b, sR1) ∧ f_X9_thrown sR1 = some 1 ∧ IE (j + 1) s0 s4 s5 s6 sR1)

def ps_20_N_N (IN : t_IN) (IE : t_IE) : Prop := ∀ (j : Nat) (s0 : cs_S) (sR : mo_S) (a1 a2 a3 : Int32), j < 512 → IN j s0 sR → (∃ (b : Int64) (sR1 : mo_S), f_X8_tag_N s0 a1 a2 a3 = some (.inr 2) ∧ f_X9_tag sR a1 a2 a3 = some (b, sR1) ∧ f_X9_thrown sR1 = some 1 ∧ IN (j + 1) s0 sR1)

def ps_20_E_E (IN : t_IN) (IE : t_IE) : Prop := ∀ (j : Nat) (s0 s4 s5 s6 : cs_S) (sR : mo_S) (a1 a2 a3 : Int32), j < 512 → IE j s0 s4 s5 s6 sR → (∃ (r : Int64) (sR1 : mo_S), f_X8_tag_E s0 s4 s5 a1 a2 a3 = some (.inl r) ∧ f_X9_tag sR a1 a2 a3 = some (r, sR1) ∧ f_X9_thrown sR1 = some 0 ∧ IE (j + 1) s0 s4 s5 s6 sR1) ∨ (∃ (b : Int64) (sR1 : mo_S), f_X8_tag_E s0 s4 s5 a1 a2 a3 = some (.inr 1) ∧ f_X9_tag sR a1 a2 a3 = some (b, sR1) ∧ f_X9_thrown sR1 = some 2 ∧ IE (j + 1) s0 s4 s5 s6 sR1) ∨ (∃ (b : Int64) (sR1 : mo_S), f_X8_tag_E s0 s4 s5 a1 a2 a3 = some (.inr 2) ∧ f_X9_tag sR a1 a2 a3 = some (b, sR1) ∧ f_X9_thrown sR1 = some 1 ∧ IE (j + 1) s0 s4 s5 s6 sR1)

def ps_21_N_N (IN : t_IN) (IE : t_IE) : Prop := ∀ (j : Nat) (s0 : cs_S) (sR : mo_S) (a1 : Int32), j < 512 → IN j s0 sR → (∃ (b : Int32) (sR1 : mo_S), f_X8_serving_N s0 a1 = some (.inr 2) ∧ f_X9_serving sR a1 = some (b, sR1) ∧ f_X9_thrown sR1 = some 1 ∧ IN (j + 1) s0 sR1)

def ps_21_E_E (IN : t_IN) (IE : t_IE) : Prop := ∀ (j : Nat) (s0 s4 s5 s6 : cs_S) (sR : mo_S) (a1 : Int32), j < 512 → IE j s0 s4 s5 s6 sR → (∃ (r : Int32) (sR1 : mo_S), f_X8_serving_E s0 s4 s5 a1 = some (.inl r) ∧ f_X9_serving sR a1 = some (r, sR1) ∧ f_X9_thrown sR1 = some 0 ∧ IE (j + 1) s0 s4 s5 s6 sR1) ∨ (∃ (b : Int32) (sR1 : mo_S), f_X8_serving_E s0 s4 s5 a1 = some (.inr 2) ∧ f_X9_serving sR a1 = some (b, sR1) ∧ f_X9_thrown sR1 = some 1 ∧ IE (j + 1) s0 s4 s5 s6 sR1)

def ps_22_N_N (IN : t_IN) (IE : t_IE) : Prop := ∀ (j : Nat) (s0 : cs_S) (sR : mo_S) (a1 : Int32), j < 512 → IN j s0 sR → (∃ (b : Int32) (sR1 : mo_S), f_X8_busyUntil_N s0 a1 = some (.inr 2) ∧ f_X9_busyUntil sR a1 = some (b, sR1) ∧ f_X9_thrown sR1 = some 1 ∧ IN (j + 1) s0 sR1)

def ps_22_E_E (IN : t_IN) (IE : t_IE) : Prop := ∀ (j : Nat) (s0 s4 s5 s6 : cs_S) (sR : mo_S) (a1 : Int32), j < 512 → IE j s0 s4 s5 s6 sR → (∃ (r : Int32) (sR1 : mo_S), f_X8_busyUntil_E s0 s4 s5 a1 = some (.inl r) ∧ f_X9_busyUntil sR a1 = some (r, sR1) ∧ f_X9_thrown sR1 = some 0 ∧ IE (j + 1) s0 s4 s5 s6 sR1) ∨ (∃ (b : Int32) (sR1 : mo_S), f_X8_busyUntil_E s0 s4 s5 a1 = some (.inr 2) ∧ f_X9_busyUntil sR a1 = some (b, sR1) ∧ f_X9_thrown sR1 = some 1 ∧ IE (j + 1) s0 s4 s5 s6 sR1)

def ps_23_N_N (IN : t_IN) (IE : t_IE) : Prop := ∀ (j : Nat) (s0 : cs_S) (sR : mo_S) (a1 : Int32), j < 512 → IN j s0 sR → (∃ (b : Int32) (sR1 : mo_S), f_X8_position_N s0 a1 = some (.inr 2) ∧ f_X9_position sR a1 = some (b, sR1) ∧ f_X9_thrown sR1 = some 1 ∧ IN (j + 1) s0 sR1)

def ps_23_E_E (IN : t_IN) (IE : t_IE) : Prop := ∀ (j : Nat) (s0 s4 s5 s6 : cs_S) (sR : mo_S) (a1 : Int32), j < 512 → IE j s0 s4 s5 s6 sR → (∃ (r : Int32) (sR1 : mo_S), f_X8_position_E s0 s4 s5 a1 = some (.inl r) ∧ f_X9_position sR a1 = some (r, sR1) ∧ f_X9_thrown sR1 = some 0 ∧ IE (j + 1) s0 s4 s5 s6 sR1) ∨ (∃ (b : Int32) (sR1 : mo_S), f_X8_position_E s0 s4 s5 a1 = some (.inr 2) ∧ f_X9_position sR a1 = some (b, sR1) ∧ f_X9_thrown sR1 = some 1 ∧ IE (j + 1) s0 s4 s5 s6 sR1)

def ps_24_N_N (IN : t_IN) (IE : t_IE) : Prop := ∀ (j : Nat) (s0 : cs_S) (sR : mo_S) (a1 : Int32), j < 512 → IN j s0 sR → (∃ (b : Int32) (sR1 : mo_S), f_X8_busyTime_N s0 a1 = some (.inr 2) ∧ f_X9_busyTime sR a1 = some (b, sR1) ∧ f_X9_thrown sR1 = some 1 ∧ IN (j + 1) s0 sR1)

def ps_24_E_E (IN : t_IN) (IE : t_IE) : Prop := ∀ (j : Nat) (s0 s4 s5 s6 : cs_S) (sR : mo_S) (a1 : Int32), j < 512 → IE j s0 s4 s5 s6 sR → (∃ (r : Int32) (sR1 : mo_S), f_X8_busyTime_E s0 s4 s5 a1 = some (.inl r) ∧ f_X9_busyTime sR a1 = some (r, sR1) ∧ f_X9_thrown sR1 = some 0 ∧ IE (j + 1) s0 s4 s5 s6 sR1) ∨ (∃ (b : Int32) (sR1 : mo_S), f_X8_busyTime_E s0 s4 s5 a1 = some (.inr 2) ∧ f_X9_busyTime sR a1 = some (b, sR1) ∧ f_X9_thrown sR1 = some 1 ∧ IE (j + 1) s0 s4 s5 s6 sR1)

def ps_25_N_N (IN : t_IN) (IE : t_IE) : Prop := ∀ (j : Nat) (s0 : cs_S) (sR : mo_S) (a1 a2 : Int32), j < 512 → IN j s0 sR → (∃ (b : Int32) (sR1 : mo_S), f_X8_behind_N s0 a1 a2 = some (.inr 2) ∧ f_X9_behind sR a1 a2 = some (b, sR1) ∧ f_X9_thrown sR1 = some 1 ∧ IN (j + 1) s0 sR1)

def ps_25_E_E (IN : t_IN) (IE : t_IE) : Prop := ∀ (j : Nat) (s0 s4 s5 s6 : cs_S) (sR : mo_S) (a1 a2 : Int32), j < 512 → IE j s0 s4 s5 s6 sR → (∃ (r : Int32) (sR1 : mo_S), f_X8_behind_E s0 s4 s5 a1 a2 = some (.inl r) ∧ f_X9_behind sR a1 a2 = some (r, sR1) ∧ f_X9_thrown sR1 = some 0 ∧ IE (j + 1) s0 s4 s5 s6 sR1) ∨ (∃ (b : Int32) (sR1 : mo_S), f_X8_behind_E s0 s4 s5 a1 a2 = some (.inr 2) ∧ f_X9_behind sR a1 a2 = some (b, sR1) ∧ f_X9_thrown sR1 = some 1 ∧ IE (j + 1) s0 s4 s5 s6 sR1)

def ps_26_N_N (IN : t_IN) (IE : t_IE) : Prop := ∀ (j : Nat) (s0 : cs_S) (sR : mo_S) (a1 a2 : Int32), j < 512 → IN j s0 sR → (∃ (b : Int32) (sR1 : mo_S), f_X8_chosen_N s0 a1 a2 = some (.inr 2) ∧ f_X9_chosen sR a1 a2 = some (b, sR1) ∧ f_X9_thrown sR1 = some 1 ∧ IN (j + 1) s0 sR1)

def ps_26_E_E (IN : t_IN) (IE : t_IE) : Prop := ∀ (j : Nat) (s0 s4 s5 s6 : cs_S) (sR : mo_S) (a1 a2 : Int32), j < 512 → IE j s0 s4 s5 s6 sR → (∃ (r : Int32) (sR1 : mo_S), f_X8_chosen_E s0 s4 s5 a1 a2 = some (.inl r) ∧ f_X9_chosen sR a1 a2 = some (r, sR1) ∧ f_X9_thrown sR1 = some 0 ∧ IE (j + 1) s0 s4 s5 s6 sR1) ∨ (∃ (b : Int32) (sR1 : mo_S), f_X8_chosen_E s0 s4 s5 a1 a2 = some (.inr 1) ∧ f_X9_chosen sR a1 a2 = some (b, sR1) ∧ f_X9_thrown sR1 = some 2 ∧ IE (j + 1) s0 s4 s5 s6 sR1) ∨ (∃ (b : Int32) (sR1 : mo_S), f_X8_chosen_E s0 s4 s5 a1 a2 = some (.inr 2) ∧ f_X9_chosen sR a1 a2 = some (b, sR1) ∧ f_X9_thrown sR1 = some 1 ∧ IE (j + 1) s0 s4 s5 s6 sR1)

def ps_27_N_N (IN : t_IN) (IE : t_IE) : Prop := ∀ (j : Nat) (s0 : cs_S) (sR : mo_S), j < 512 → IN j s0 sR → (∃ (r : Int32) (sR1 : mo_S), f_X8_requestCount_N s0 = some r ∧ f_X9_requestCount sR = some (r, sR1) ∧ IN (j + 1) s0 sR1)

def ps_27_E_E (IN : t_IN) (IE : t_IE) : Prop := ∀ (j : Nat) (s0 s4 s5 s6 : cs_S) (sR : mo_S), j < 512 → IE j s0 s4 s5 s6 sR → (∃ (r : Int32) (sR1 : mo_S), f_X8_requestCount_E s0 s5 = some r ∧ f_X9_requestCount sR = some (r, sR1) ∧ IE (j + 1) s0 s4 s5 s6 sR1)

def ps_28_N_N (IN : t_IN) (IE : t_IE) : Prop := ∀ (j : Nat) (s0 : cs_S) (sR : mo_S), j < 512 → IN j s0 sR → (∃ (r : Int32) (sR1 : mo_S), f_X8_lostLines_N s0 = some r ∧ f_X9_lostLines sR = some (r, sR1) ∧ IN (j + 1) s0 sR1)

def ps_28_E_E (IN : t_IN) (IE : t_IE) : Prop := ∀ (j : Nat) (s0 s4 s5 s6 : cs_S) (sR : mo_S), j < 512 → IE j s0 s4 s5 s6 sR → (∃ (r : Int32) (sR1 : mo_S), f_X8_lostLines_E s0 s5 = some r ∧ f_X9_lostLines sR = some (r, sR1) ∧ IE (j + 1) s0 s4 s5 s6 sR1)

def ps_29_N_N (IN : t_IN) (IE : t_IE) : Prop := ∀ (j : Nat) (s0 : cs_S) (sR : mo_S), j < 512 → IN j s0 sR → (∃ (r : Int32) (sR1 : mo_S), f_X8_traceLines_N s0 = some r ∧ f_X9_traceLines sR = some (r, sR1) ∧ IN (j + 1) s0 sR1)

def ps_29_E_E (IN : t_IN) (IE : t_IE) : Prop := ∀ (j : Nat) (s0 s4 s5 s6 : cs_S) (sR : mo_S), j < 512 → IE j s0 s4 s5 s6 sR → (∃ (r : Int32) (sR1 : mo_S), f_X8_traceLines_E s0 s5 s6 = some r ∧ f_X9_traceLines sR = some (r, sR1) ∧ IE (j + 1) s0 s4 s5 s6 sR1)

def ps_30_N_N (IN : t_IN) (IE : t_IE) : Prop := ∀ (j : Nat) (s0 : cs_S) (sR : mo_S) (a1 : Int32), j < 512 → IN j s0 sR → (∃ (b : Int32) (sR1 : mo_S), f_X8_finishedAt_N s0 a1 = some (.inr 2) ∧ f_X9_finishedAt sR a1 = some (b, sR1) ∧ f_X9_thrown sR1 = some 1 ∧ IN (j + 1) s0 sR1)

def ps_30_E_E (IN : t_IN) (IE : t_IE) : Prop := ∀ (j : Nat) (s0 s4 s5 s6 : cs_S) (sR : mo_S) (a1 : Int32), j < 512 → IE j s0 s4 s5 s6 sR → (∃ (r : Int32) (sR1 : mo_S), f_X8_finishedAt_E s0 s5 a1 = some (.inl r) ∧ f_X9_finishedAt sR a1 = some (r, sR1) ∧ f_X9_thrown sR1 = some 0 ∧ IE (j + 1) s0 s4 s5 s6 sR1) ∨ (∃ (b : Int32) (sR1 : mo_S), f_X8_finishedAt_E s0 s5 a1 = some (.inr 2) ∧ f_X9_finishedAt sR a1 = some (b, sR1) ∧ f_X9_thrown sR1 = some 1 ∧ IE (j + 1) s0 s4 s5 s6 sR1)

def ps_31_N_N (IN : t_IN) (IE : t_IE) : Prop := ∀ (j : Nat) (s0 : cs_S) (sR : mo_S) (a1 : Int32), j < 512 → IN j s0 sR → (∃ (b : Int32) (sR1 : mo_S), f_X8_pending_N s0 a1 = some (.inr 2) ∧ f_X9_pending sR a1 = some (b, sR1) ∧ f_X9_thrown sR1 = some 1 ∧ IN (j + 1) s0 sR1)

def ps_31_E_E (IN : t_IN) (IE : t_IE) : Prop := ∀ (j : Nat) (s0 s4 s5 s6 : cs_S) (sR : mo_S) (a1 : Int32), j < 512 → IE j s0 s4 s5 s6 sR → (∃ (r : Int32) (sR1 : mo_S), f_X8_pending_E s0 s5 a1 = some (.inl r) ∧ f_X9_pending sR a1 = some (r, sR1) ∧ f_X9_thrown sR1 = some 0 ∧ IE (j + 1) s0 s4 s5 s6 sR1) ∨ (∃ (b : Int32) (sR1 : mo_S), f_X8_pending_E s0 s5 a1 = some (.inr 2) ∧ f_X9_pending sR a1 = some (b, sR1) ∧ f_X9_thrown sR1 = some 1 ∧ IE (j + 1) s0 s4 s5 s6 sR1)

def ps_32_N_N (IN : t_IN) (IE : t_IE) : Prop := ∀ (j : Nat) (s0 : cs_S) (sR : mo_S) (a1 : Int32), j < 512 → IN j s0 sR → (∃ (b : Int32) (sR1 : mo_S), f_X8_finished_N s0 a1 = some (.inr 2) ∧ f_X9_finished sR a1 = some (b, sR1) ∧ f_X9_thrown sR1 = some 1 ∧ IN (j + 1) s0 sR1)

def ps_32_E_E (IN : t_IN) (IE : t_IE) : Prop := ∀ (j : Nat) (s0 s4 s5 s6 : cs_S) (sR : mo_S) (a1 : Int32), j < 512 → IE j s0 s4 s5 s6 sR → (∃ (r : Int32) (sR1 : mo_S), f_X8_finished_E s0 s4 s5 a1 = some (.inl r) ∧ f_X9_finished sR a1 = some (r, sR1) ∧ f_X9_thrown sR1 = some 0 ∧ IE (j + 1) s0 s4 s5 s6 sR1) ∨ (∃ (b : Int32) (sR1 : mo_S), f_X8_finished_E s0 s4 s5 a1 = some (.inr 2) ∧ f_X9_finished sR a1 = some (b, sR1) ∧ f_X9_thrown sR1 = some 1 ∧ IE (j + 1) s0 s4 s5 s6 sR1)

def ps_33_N_N (IN : t_IN) (IE : t_IE) : Prop := ∀ (j : Nat) (s0 : cs_S) (sR : mo_S) (a1 : Int32), j < 512 → IN j s0 sR → (∃ (b : Int32) (sR1 : mo_S), f_X8_totalLatency_N s0 a1 = some (.inr 2) ∧ f_X9_totalLatency sR a1 = some (b, sR1) ∧ f_X9_thrown sR1 = some 1 ∧ IN (j + 1) s0 sR1)

def ps_33_E_E (IN : t_IN) (IE : t_IE) : Prop := ∀ (j : Nat) (s0 s4 s5 s6 : cs_S) (sR : mo_S) (a1 : Int32), j < 512 → IE j s0 s4 s5 s6 sR → (∃ (r : Int32) (sR1 : mo_S), f_X8_totalLatency_E s0 s4 s5 a1 = some (.inl r) ∧ f_X9_totalLatency sR a1 = some (r, sR1) ∧ f_X9_thrown sR1 = some 0 ∧ IE (j + 1) s0 s4 s5 s6 sR1) ∨ (∃ (b : Int32) (sR1 : mo_S), f_X8_totalLatency_E s0 s4 s5 a1 = some (.inr 2) ∧ f_X9_totalLatency sR a1 = some (b, sR1) ∧ f_X9_thrown sR1 = some 1 ∧ IE (j + 1) s0 s4 s5 s6 sR1)

def ps_34_N_N (IN : t_IN) (IE : t_IE) : Prop := ∀ (j : Nat) (s0 : cs_S) (sR : mo_S) (a1 : Int32), j < 512 → IN j s0 sR → (∃ (b : Int32) (sR1 : mo_S), f_X8_worstLatency_N s0 a1 = some (.inr 2) ∧ f_X9_worstLatency sR a1 = some (b, sR1) ∧ f_X9_thrown sR1 = some 1 ∧ IN (j + 1) s0 sR1)

def ps_34_E_E (IN : t_IN) (IE : t_IE) : Prop := ∀ (j : Nat) (s0 s4 s5 s6 : cs_S) (sR : mo_S) (a1 : Int32), j < 512 → IE j s0 s4 s5 s6 sR → (∃ (r : Int32) (sR1 : mo_S), f_X8_worstLatency_E s0 s4 s5 a1 = some (.inl r) ∧ f_X9_worstLatency sR a1 = some (r, sR1) ∧ f_X9_thrown sR1 = some 0 ∧ IE (j + 1) s0 s4 s5 s6 sR1) ∨ (∃ (b : Int32) (sR1 : mo_S), f_X8_worstLatency_E s0 s4 s5 a1 = some (.inr 2) ∧ f_X9_worstLatency sR a1 = some (b, sR1) ∧ f_X9_thrown sR1 = some 1 ∧ IE (j + 1) s0 s4 s5 s6 sR1)

def ps_35_N_N (IN : t_IN) (IE : t_IE) : Prop := ∀ (j : Nat) (s0 : cs_S) (sR : mo_S) (a1 : Int32), j < 512 → IN j s0 sR → (∃ (b : Int32) (sR1 : mo_S), f_X8_late_N s0 a1 = some (.inr 2) ∧ f_X9_late sR a1 = some (b, sR1) ∧ f_X9_thrown sR1 = some 1 ∧ IN (j + 1) s0 sR1)

def ps_35_E_E (IN : t_IN) (IE : t_IE) : Prop := ∀ (j : Nat) (s0 s4 s5 s6 : cs_S) (sR : mo_S) (a1 : Int32), j < 512 → IE j s0 s4 s5 s6 sR → (∃ (r : Int32) (sR1 : mo_S), f_X8_late_E s0 s4 s5 a1 = some (.inl r) ∧ f_X9_late sR a1 = some (r, sR1) ∧ f_X9_thrown sR1 = some 0 ∧ IE (j + 1) s0 s4 s5 s6 sR1) ∨ (∃ (b : Int32) (sR1 : mo_S), f_X8_late_E s0 s4 s5 a1 = some (.inr 2) ∧ f_X9_late sR a1 = some (b, sR1) ∧ f_X9_thrown sR1 = some 1 ∧ IE (j + 1) s0 s4 s5 s6 sR1)

def ps_36_N_N (IN : t_IN) (IE : t_IE) : Prop := ∀ (j : Nat) (s0 : cs_S) (sR : mo_S) (a1 : Int32), j < 512 → IN j s0 sR → (∃ (b : Int32) (sR1 : mo_S), f_X8_stripeState_N s0 a1 = some (.inr 2) ∧ f_X9_stripeState sR a1 = some (b, sR1) ∧ f_X9_thrown sR1 = some 1 ∧ IN (j + 1) s0 sR1)

def ps_36_E_E (IN : t_IN) (IE : t_IE) : Prop := ∀ (j : Nat) (s0 s4 s5 s6 : cs_S) (sR : mo_S) (a1 : Int32), j < 512 → IE j s0 s4 s5 s6 sR → (∃ (r : Int32) (sR1 : mo_S), f_X8_stripeState_E s0 s4 s5 a1 = some (.inl r) ∧ f_X9_stripeState sR a1 = some (r, sR1) ∧ f_X9_thrown sR1 = some 0 ∧ IE (j + 1) s0 s4 s5 s6 sR1) ∨ (∃ (b : Int32) (sR1 : mo_S), f_X8_stripeState_E s0 s4 s5 a1 = some (.inr 2) ∧ f_X9_stripeState sR a1 = some (b, sR1) ∧ f_X9_thrown sR1 = some 1 ∧ IE (j + 1) s0 s4 s5 s6 sR1)

def ps_37_N_N (IN : t_IN) (IE : t_IE) : Prop := ∀ (j : Nat) (s0 : cs_S) (sR : mo_S) (a1 a2 : Int32), j < 512 → IN j s0 sR → (∃ (b : Int32) (sR1 : mo_S), f_X8_isHeld_N s0 a1 a2 = some (.inr 2) ∧ f_X9_isHeld sR a1 a2 = some (b, sR1) ∧ f_X9_thrown sR1 = some 1 ∧ IN (j + 1) s0 sR1)

def ps_37_E_E (IN : t_IN) (IE : t_IE) : Prop := ∀ (j : Nat) (s0 s4 s5 s6 : cs_S) (sR : mo_S) (a1 a2 : Int32), j < 512 → IE j s0 s4 s5 s6 sR → (∃ (r : Int32) (sR1 : mo_S), f_X8_isHeld_E s0 s4 s5 a1 a2 = some (.inl r) ∧ f_X9_isHeld sR a1 a2 = some (r, sR1) ∧ f_X9_thrown sR1 = some 0 ∧ IE (j + 1) s0 s4 s5 s6 sR1) ∨ (∃ (b : Int32) (sR1 : mo_S), f_X8_isHeld_E s0 s4 s5 a1 a2 = some (.inr 2) ∧ f_X9_isHeld sR a1 a2 = some (b, sR1) ∧ f_X9_thrown sR1 = some 1 ∧ IE (j + 1) s0 s4 s5 s6 sR1)

def ps_38_N_N (IN : t_IN) (IE : t_IE) : Prop := ∀ (j : Nat) (s0 : cs_S) (sR : mo_S), j < 512 → IN j s0 sR → (∃ (r : Int32) (sR1 : mo_S), f_X8_cachedUnits_N s0 = some r ∧ f_X9_cachedUnits sR = some (r, sR1) ∧ IN (j + 1) s0 sR1)

def ps_38_E_E (IN : t_IN) (IE : t_IE) : Prop := ∀ (j : Nat) (s0 s4 s5 s6 : cs_S) (sR : mo_S), j < 512 → IE j s0 s4 s5 s6 sR → (∃ (r : Int32) (sR1 : mo_S), f_X8_cachedUnits_E s0 s5 = some r ∧ f_X9_cachedUnits sR = some (r, sR1) ∧ IE (j + 1) s0 s4 s5 s6 sR1)

def ps_39_N_N (IN : t_IN) (IE : t_IE) : Prop := ∀ (j : Nat) (s0 : cs_S) (sR : mo_S), j < 512 → IN j s0 sR → (∃ (r : Int32) (sR1 : mo_S), f_X8_rebuiltCount_N s0 = some r ∧ f_X9_rebuiltCount sR = some (r, sR1) ∧ IN (j + 1) s0 sR1)

def ps_39_E_E (IN : t_IN) (IE : t_IE) : Prop := ∀ (j : Nat) (s0 s4 s5 s6 : cs_S) (sR : mo_S), j < 512 → IE j s0 s4 s5 s6 sR → (∃ (r : Int32) (sR1 : mo_S), f_X8_rebuiltCount_E s0 s5 = some r ∧ f_X9_rebuiltCount sR = some (r, sR1) ∧ IE (j + 1) s0 s4 s5 s6 sR1)

def ps_40_N_N (IN : t_IN) (IE : t_IE) : Prop := ∀ (j : Nat) (s0 : cs_S) (sR : mo_S), j < 512 → IN j s0 sR → (∃ (r : Int32) (sR1 : mo_S), f_X8_completedAt_N s0 = some r ∧ f_X9_completedAt sR = some (r, sR1) ∧ IN (j + 1) s0 sR1)

def ps_40_E_E (IN : t_IN) (IE : t_IE) : Prop := ∀ (j : Nat) (s0 s4 s5 s6 : cs_S) (sR : mo_S), j < 512 → IE j s0 s4 s5 s6 sR → (∃ (r : Int32) (sR1 : mo_S), f_X8_completedAt_E s0 s5 = some r ∧ f_X9_completedAt sR = some (r, sR1) ∧ IE (j + 1) s0 s4 s5 s6 sR1)

def ps_41_N_N (IN : t_IN) (IE : t_IE) : Prop := ∀ (j : Nat) (s0 : cs_S) (sR : mo_S), j < 512 → IN j s0 sR → (∃ (r : Int32) (sR1 : mo_S), f_X8_savedReads_N s0 = some r ∧ f_X9_savedReads sR = some (r, sR1) ∧ IN (j + 1) s0 sR1)

def ps_41_E_E (IN : t_IN) (IE : t_IE) : Prop := ∀ (j : Nat) (s0 s4 s5 s6 : cs_S) (sR : mo_S), j < 512 → IE j s0 s4 s5 s6 sR → (∃ (r : Int32) (sR1 : mo_S), f_X8_savedReads_E s0 s5 = some r ∧ f_X9_savedReads sR = some (r, sR1) ∧ IE (j + 1) s0 s4 s5 s6 sR1)

def ps_42_N_N (IN : t_IN) (IE : t_IE) : Prop := ∀ (j : Nat) (s0 : cs_S) (sR : mo_S), j < 512 → IN j s0 sR → (∃ (r : Int32) (sR1 : mo_S), f_X8_piggybackedReads_N s0 = some r ∧ f_X9_piggybackedReads sR = some (r, sR1) ∧ IN (j + 1) s0 sR1)

def ps_42_E_E (IN : t_IN) (IE : t_IE) : Prop := ∀ (j : Nat) (s0 s4 s5 s6 : cs_S) (sR : mo_S), j < 512 → IE j s0 s4 s5 s6 sR → (∃ (r : Int32) (sR1 : mo_S), f_X8_piggybackedReads_E s0 s5 = some r ∧ f_X9_piggybackedReads sR = some (r, sR1) ∧ IE (j + 1) s0 s4 s5 s6 sR1)

def ps_43_N_N (IN : t_IN) (IE : t_IE) : Prop := ∀ (j : Nat) (s0 : cs_S) (sR : mo_S) (a1 : Int32), j < 512 → IN j s0 sR → (∃ (b : Int32) (sR1 : mo_S), f_X8_stripeDeadline_N s0 a1 = some (.inr 2) ∧ f_X9_stripeDeadline sR a1 = some (b, sR1) ∧ f_X9_thrown sR1 = some 1 ∧ IN (j + 1) s0 sR1)

def ps_43_E_E (IN : t_IN) (IE : t_IE) : Prop := ∀ (j : Nat) (s0 s4 s5 s6 : cs_S) (sR : mo_S) (a1 : Int32), j < 512 → IE j s0 s4 s5 s6 sR → (∃ (r : Int32) (sR1 : mo_S), f_X8_stripeDeadline_E s0 s4 s5 a1 = some (.inl r) ∧ f_X9_stripeDeadline sR a1 = some (r, sR1) ∧ f_X9_thrown sR1 = some 0 ∧ IE (j + 1) s0 s4 s5 s6 sR1) ∨ (∃ (b : Int32) (sR1 : mo_S), f_X8_stripeDeadline_E s0 s4 s5 a1 = some (.inr 2) ∧ f_X9_stripeDeadline sR a1 = some (b, sR1) ∧ f_X9_thrown sR1 = some 1 ∧ IE (j + 1) s0 s4 s5 s6 sR1)

def ps_44_N_N (IN : t_IN) (IE : t_IE) : Prop := ∀ (j : Nat) (s0 : cs_S) (sR : mo_S), j < 512 → IN j s0 sR → (∃ (r : Int32) (sR1 : mo_S), f_X8_forecast_N s0 = some r ∧ f_X9_forecast sR = some (r, sR1) ∧ IN (j + 1) s0 sR1)

def ps_44_E_E (IN : t_IN) (IE : t_IE) : Prop := ∀ (j : Nat) (s0 s4 s5 s6 : cs_S) (sR : mo_S), j < 512 → IE j s0 s4 s5 s6 sR → (∃ (r : Int32) (z7 : cs_S) (sR1 : mo_S), f_X8_forecast_E s0 s4 s5 s6 cs_z = some (.inl r, z7) ∧ f_X9_forecast sR = some (r, sR1) ∧ IE (j + 1) s0 s4 s5 s6 sR1) ∨ (∃ (z7 : cs_S) (sR1 : mo_S), f_X8_forecast_E s0 s4 s5 s6 cs_z = some (.inr 9, z7) ∧ f_X9_forecast sR = some ((-1), sR1) ∧ IE (j + 1) s0 s4 s5 s6 sR1)
def ps_44_E_T (IN : t_IN) (IE : t_IE) : Prop := ∀ (j : Nat) (s0 s4 s5 s6 : cs_S) (s7 : cs_S) (sR : mo_S), j < 512 → IE j s0 s4 s5 s6 sR → (∃ (r : Int32) (z7 : cs_S) (sR1 : mo_S), f_X8_forecast_T s0 s4 s5 s6 s7 = some (.inl r, z7) ∧ f_X9_forecast sR = some (r, sR1) ∧ IE (j + 1) s0 s4 s5 s6 sR1) ∨ (∃ (z7 : cs_S) (sR1 : mo_S), f_X8_forecast_T s0 s4 s5 s6 s7 = some (.inr 9, z7) ∧ f_X9_forecast sR = some ((-1), sR1) ∧ IE (j + 1) s0 s4 s5 s6 sR1)

def ps_45_N_N (IN : t_IN) (IE : t_IE) : Prop := ∀ (j : Nat) (s0 : cs_S) (sR : mo_S), j < 512 → IN j s0 sR → (∃ (r : Int32) (sR1 : mo_S), f_X8_bound_N s0 = some r ∧ f_X9_bound sR = some (r, sR1) ∧ IN (j + 1) s0 sR1)

def ps_45_E_E (IN : t_IN) (IE : t_IE) : Prop := ∀ (j : Nat) (s0 s4 s5 s6 : cs_S) (sR : mo_S), j < 512 → IE j s0 s4 s5 s6 sR → (∃ (r : Int32) (sR1 : mo_S), f_X8_bound_E s0 s4 s5 = some r ∧ f_X9_bound sR = some (r, sR1) ∧ IE (j + 1) s0 s4 s5 s6 sR1)
