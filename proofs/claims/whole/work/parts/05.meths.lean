/-! The methods' words hold in the tables. -/
def pm_codew (m : Nat) : Cond := match pm_hh m with
  | [] => Cond.code (pm_y m) (pm_cd m) (pm_ml m) (pm_rt m)
  | h :: t => Cond.codeWith (pm_y m) (pm_cd m) (pm_ml m) (pm_rt m) (h :: t)
def pm_Mc2 (m : Nat) : Bool := decide (lw_tbl[pm_sps.getD m 0]? = some (bif pm_stt m then Cond.static (pm_y m) else Cond.instanceMethod (pm_y m)))
def pm_Mc3 (m : Nat) : Bool := (pm_stt m || (decide ((pm_y m).name = "<init>") || decide (lw_tbl[pm_sls.getD m 0]? = some (Cond.selects (pm_y m).cls (pm_y m) (pm_y m)))))
def pm_Mc4 (m : Nat) : Bool := decide ((pm_y m).cls = pm_cn (pm_oc m)) && (decide ((parseMethodDescriptor (pm_y m).desc).map (fun d => d.parameters.length) = some (pm_na m)) && ((decide ((pm_y m).cls ≠ "java/lang/invoke/MethodHandle") && (decide ((pm_y m).cls ≠ "java/lang/invoke/VarHandle") && (Nat.blt (pm_oc m) 19 && Nat.ble (pm_ml m) 21)))))
def pm_chs : List (List Cond) := [tables_1_1, tables_1_2, tables_1_3, tables_1_4, tables_1_5, tables_1_6, tables_1_7, tables_1_8, tables_1_9]
theorem pm_ch : ∀ l ∈ pm_chs, ∀ w ∈ l, w ∈ lw_tbl := by
  intro l hl w hw
  refine List.mem_append_right _ ?_
  unfold tables_1
  simp only [pm_chs, List.mem_cons, List.not_mem_nil, or_false] at hl
  simp only [List.mem_append]
  rcases hl with rfl | rfl | rfl | rfl | rfl | rfl | rfl | rfl | rfl <;> simp [hw]
theorem pm_memk {w : Cond} (k : Nat) (h : w ∈ pm_chs.getD k []) (g : goodWord w = true) : w ∈ pm_ws := by
  refine List.mem_filter.mpr ⟨?_, g⟩
  by_cases hk : k < 9
  · refine pm_ch (pm_chs.getD k []) ?_ w h
    rw [List.getD_eq_getElem?_getD, List.getElem?_eq_getElem (show k < pm_chs.length from hk)]
    exact List.getElem_mem _
  · rw [List.getD_eq_getElem?_getD, List.getElem?_eq_none (show pm_chs.length ≤ k from Nat.le_of_not_lt hk)] at h
    cases h
set_option maxRecDepth 20000 in
theorem pm_c0 : pm_codew 0 ∈ pm_ws := pm_memk 0 (List.mem_of_getElem? (i := 203) rfl) rfl
set_option maxRecDepth 20000 in
theorem pm_c1 : pm_codew 1 ∈ pm_ws := pm_memk 4 (List.mem_of_getElem? (i := 12) rfl) rfl
set_option maxRecDepth 20000 in
theorem pm_c2 : pm_codew 2 ∈ pm_ws := pm_memk 1 (List.mem_of_getElem? (i := 158) rfl) rfl
set_option maxRecDepth 20000 in
theorem pm_c3 : pm_codew 3 ∈ pm_ws := pm_memk 2 (List.mem_of_getElem? (i := 145) rfl) rfl
set_option maxRecDepth 20000 in
theorem pm_c4 : pm_codew 4 ∈ pm_ws := pm_memk 1 (List.mem_of_getElem? (i := 219) rfl) rfl
set_option maxRecDepth 20000 in
theorem pm_c5 : pm_codew 5 ∈ pm_ws := pm_memk 0 (List.mem_of_getElem? (i := 149) rfl) rfl
set_option maxRecDepth 20000 in
theorem pm_c6 : pm_codew 6 ∈ pm_ws := pm_memk 3 (List.mem_of_getElem? (i := 238) rfl) rfl
set_option maxRecDepth 20000 in
theorem pm_c7 : pm_codew 7 ∈ pm_ws := pm_memk 1 (List.mem_of_getElem? (i := 141) rfl) rfl
set_option maxRecDepth 20000 in
theorem pm_c8 : pm_codew 8 ∈ pm_ws := pm_memk 4 (List.mem_of_getElem? (i := 58) rfl) rfl
set_option maxRecDepth 20000 in
theorem pm_c9 : pm_codew 9 ∈ pm_ws := pm_memk 2 (List.mem_of_getElem? (i := 77) rfl) rfl
set_option maxRecDepth 20000 in
theorem pm_c10 : pm_codew 10 ∈ pm_ws := pm_memk 2 (List.mem_of_getElem? (i := 98) rfl) rfl
set_option maxRecDepth 20000 in
theorem pm_c11 : pm_codew 11 ∈ pm_ws := pm_memk 2 (List.mem_of_getElem? (i := 108) rfl) rfl
set_option maxRecDepth 20000 in
theorem pm_c12 : pm_codew 12 ∈ pm_ws := pm_memk 2 (List.mem_of_getElem? (i := 102) rfl) rfl
set_option maxRecDepth 20000 in
theorem pm_c13 : pm_codew 13 ∈ pm_ws := pm_memk 2 (List.mem_of_getElem? (i := 39) rfl) rfl
set_option maxRecDepth 20000 in
theorem pm_c14 : pm_codew 14 ∈ pm_ws := pm_memk 4 (List.mem_of_getElem? (i := 146) rfl) rfl
set_option maxRecDepth 20000 in
theorem pm_c15 : pm_codew 15 ∈ pm_ws := pm_memk 4 (List.mem_of_getElem? (i := 150) rfl) rfl
set_option maxRecDepth 20000 in
theorem pm_c16 : pm_codew 16 ∈ pm_ws := pm_memk 1 (List.mem_of_getElem? (i := 175) rfl) rfl
set_option maxRecDepth 20000 in
theorem pm_c17 : pm_codew 17 ∈ pm_ws := pm_memk 1 (List.mem_of_getElem? (i := 180) rfl) rfl
set_option maxRecDepth 20000 in
theorem pm_c18 : pm_codew 18 ∈ pm_ws := pm_memk 1 (List.mem_of_getElem? (i := 215) rfl) rfl
set_option maxRecDepth 20000 in
theorem pm_c19 : pm_codew 19 ∈ pm_ws := pm_memk 2 (List.mem_of_getElem? (i := 1) rfl) rfl
set_option maxRecDepth 20000 in
theorem pm_c20 : pm_codew 20 ∈ pm_ws := pm_memk 2 (List.mem_of_getElem? (i := 54) rfl) rfl
set_option maxRecDepth 20000 in
theorem pm_c21 : pm_codew 21 ∈ pm_ws := pm_memk 2 (List.mem_of_getElem? (i := 73) rfl) rfl
set_option maxRecDepth 20000 in
theorem pm_c22 : pm_codew 22 ∈ pm_ws := pm_memk 2 (List.mem_of_getElem? (i := 113) rfl) rfl
set_option maxRecDepth 20000 in
theorem pm_c23 : pm_codew 23 ∈ pm_ws := pm_memk 2 (List.mem_of_getElem? (i := 117) rfl) rfl
set_option maxRecDepth 20000 in
theorem pm_c24 : pm_codew 24 ∈ pm_ws := pm_memk 2 (List.mem_of_getElem? (i := 25) rfl) rfl
set_option maxRecDepth 20000 in
theorem pm_c25 : pm_codew 25 ∈ pm_ws := pm_memk 2 (List.mem_of_getElem? (i := 125) rfl) rfl
set_option maxRecDepth 20000 in
theorem pm_c26 : pm_codew 26 ∈ pm_ws := pm_memk 2 (List.mem_of_getElem? (i := 137) rfl) rfl
set_option maxRecDepth 20000 in
theorem pm_c27 : pm_codew 27 ∈ pm_ws := pm_memk 3 (List.mem_of_getElem? (i := 30) rfl) rfl
set_option maxRecDepth 20000 in
theorem pm_c28 : pm_codew 28 ∈ pm_ws := pm_memk 3 (List.mem_of_getElem? (i := 101) rfl) rfl
set_option maxRecDepth 20000 in
theorem pm_c29 : pm_codew 29 ∈ pm_ws := pm_memk 3 (List.mem_of_getElem? (i := 192) rfl) rfl
set_option maxRecDepth 20000 in
theorem pm_c30 : pm_codew 30 ∈ pm_ws := pm_memk 3 (List.mem_of_getElem? (i := 182) rfl) rfl
set_option maxRecDepth 20000 in
theorem pm_c31 : pm_codew 31 ∈ pm_ws := pm_memk 4 (List.mem_of_getElem? (i := 177) rfl) rfl
set_option maxRecDepth 20000 in
theorem pm_c32 : pm_codew 32 ∈ pm_ws := pm_memk 4 (List.mem_of_getElem? (i := 193) rfl) rfl
set_option maxRecDepth 20000 in
theorem pm_c33 : pm_codew 33 ∈ pm_ws := pm_memk 4 (List.mem_of_getElem? (i := 120) rfl) rfl
set_option maxRecDepth 20000 in
theorem pm_c34 : pm_codew 34 ∈ pm_ws := pm_memk 4 (List.mem_of_getElem? (i := 189) rfl) rfl
set_option maxRecDepth 20000 in
theorem pm_c35 : pm_codew 35 ∈ pm_ws := pm_memk 4 (List.mem_of_getElem? (i := 107) rfl) rfl
set_option maxRecDepth 20000 in
theorem pm_c36 : pm_codew 36 ∈ pm_ws := pm_memk 4 (List.mem_of_getElem? (i := 50) rfl) rfl
set_option maxRecDepth 20000 in
theorem pm_c37 : pm_codew 37 ∈ pm_ws := pm_memk 4 (List.mem_of_getElem? (i := 70) rfl) rfl
set_option maxRecDepth 20000 in
theorem pm_c38 : pm_codew 38 ∈ pm_ws := pm_memk 2 (List.mem_of_getElem? (i := 81) rfl) rfl
set_option maxRecDepth 20000 in
theorem pm_c39 : pm_codew 39 ∈ pm_ws := pm_memk 2 (List.mem_of_getElem? (i := 85) rfl) rfl
set_option maxRecDepth 20000 in
theorem pm_c40 : pm_codew 40 ∈ pm_ws := pm_memk 2 (List.mem_of_getElem? (i := 90) rfl) rfl
set_option maxRecDepth 20000 in
theorem pm_c41 : pm_codew 41 ∈ pm_ws := pm_memk 0 (List.mem_of_getElem? (i := 155) rfl) rfl
set_option maxRecDepth 20000 in
theorem pm_c42 : pm_codew 42 ∈ pm_ws := pm_memk 1 (List.mem_of_getElem? (i := 191) rfl) rfl
set_option maxRecDepth 20000 in
theorem pm_c43 : pm_codew 43 ∈ pm_ws := pm_memk 2 (List.mem_of_getElem? (i := 13) rfl) rfl
set_option maxRecDepth 20000 in
theorem pm_c44 : pm_codew 44 ∈ pm_ws := pm_memk 1 (List.mem_of_getElem? (i := 151) rfl) rfl
set_option maxRecDepth 20000 in
theorem pm_c45 : pm_codew 45 ∈ pm_ws := pm_memk 1 (List.mem_of_getElem? (i := 226) rfl) rfl
set_option maxRecDepth 20000 in
theorem pm_c46 : pm_codew 46 ∈ pm_ws := pm_memk 1 (List.mem_of_getElem? (i := 229) rfl) rfl
set_option maxRecDepth 20000 in
theorem pm_c47 : pm_codew 47 ∈ pm_ws := pm_memk 1 (List.mem_of_getElem? (i := 232) rfl) rfl
set_option maxRecDepth 20000 in
theorem pm_c48 : pm_codew 48 ∈ pm_ws := pm_memk 4 (List.mem_of_getElem? (i := 2) rfl) rfl
set_option maxRecDepth 20000 in
theorem pm_c49 : pm_codew 49 ∈ pm_ws := pm_memk 1 (List.mem_of_getElem? (i := 145) rfl) rfl
set_option maxRecDepth 20000 in
theorem pm_c50 : pm_codew 50 ∈ pm_ws := pm_memk 1 (List.mem_of_getElem? (i := 206) rfl) rfl
set_option maxRecDepth 20000 in
theorem pm_c51 : pm_codew 51 ∈ pm_ws := pm_memk 2 (List.mem_of_getElem? (i := 47) rfl) rfl
set_option maxRecDepth 20000 in
theorem pm_c52 : pm_codew 52 ∈ pm_ws := pm_memk 2 (List.mem_of_getElem? (i := 141) rfl) rfl
set_option maxRecDepth 20000 in
theorem pm_c53 : pm_codew 53 ∈ pm_ws := pm_memk 2 (List.mem_of_getElem? (i := 17) rfl) rfl
set_option maxRecDepth 20000 in
theorem pm_c54 : pm_codew 54 ∈ pm_ws := pm_memk 2 (List.mem_of_getElem? (i := 21) rfl) rfl
set_option maxRecDepth 20000 in
theorem pm_c55 : pm_codew 55 ∈ pm_ws := pm_memk 2 (List.mem_of_getElem? (i := 152) rfl) rfl
set_option maxRecDepth 20000 in
theorem pm_c56 : pm_codew 56 ∈ pm_ws := pm_memk 2 (List.mem_of_getElem? (i := 133) rfl) rfl
set_option maxRecDepth 20000 in
theorem pm_c57 : pm_codew 57 ∈ pm_ws := pm_memk 2 (List.mem_of_getElem? (i := 129) rfl) rfl
set_option maxRecDepth 20000 in
theorem pm_c58 : pm_codew 58 ∈ pm_ws := pm_memk 1 (List.mem_of_getElem? (i := 187) rfl) rfl
set_option maxRecDepth 20000 in
theorem pm_c59 : pm_codew 59 ∈ pm_ws := pm_memk 1 (List.mem_of_getElem? (i := 195) rfl) rfl
set_option maxRecDepth 20000 in
theorem pm_c60 : pm_codew 60 ∈ pm_ws := pm_memk 1 (List.mem_of_getElem? (i := 198) rfl) rfl
set_option maxRecDepth 20000 in
theorem pm_c61 : pm_codew 61 ∈ pm_ws := pm_memk 1 (List.mem_of_getElem? (i := 49) rfl) rfl
set_option maxRecDepth 20000 in
theorem pm_c62 : pm_codew 62 ∈ pm_ws := pm_memk 4 (List.mem_of_getElem? (i := 22) rfl) rfl
set_option maxRecDepth 20000 in
theorem pm_c63 : pm_codew 63 ∈ pm_ws := pm_memk 1 (List.mem_of_getElem? (i := 168) rfl) rfl
set_option maxRecDepth 20000 in
theorem pm_c64 : pm_codew 64 ∈ pm_ws := pm_memk 2 (List.mem_of_getElem? (i := 5) rfl) rfl
set_option maxRecDepth 20000 in
theorem pm_c65 : pm_codew 65 ∈ pm_ws := pm_memk 2 (List.mem_of_getElem? (i := 9) rfl) rfl
set_option maxRecDepth 20000 in
theorem pm_c66 : pm_codew 66 ∈ pm_ws := pm_memk 2 (List.mem_of_getElem? (i := 58) rfl) rfl
set_option maxRecDepth 20000 in
theorem pm_c67 : pm_codew 67 ∈ pm_ws := pm_memk 2 (List.mem_of_getElem? (i := 29) rfl) rfl
set_option maxRecDepth 20000 in
theorem pm_c68 : pm_codew 68 ∈ pm_ws := pm_memk 2 (List.mem_of_getElem? (i := 121) rfl) rfl
set_option maxRecDepth 20000 in
theorem pm_c69 : pm_codew 69 ∈ pm_ws := pm_memk 1 (List.mem_of_getElem? (i := 237) rfl) rfl
set_option maxRecDepth 20000 in
theorem pm_c70 : pm_codew 70 ∈ pm_ws := pm_memk 2 (List.mem_of_getElem? (i := 43) rfl) rfl
set_option maxRecDepth 20000 in
theorem pm_c71 : pm_codew 71 ∈ pm_ws := pm_memk 2 (List.mem_of_getElem? (i := 160) rfl) rfl
set_option maxRecDepth 20000 in
theorem pm_c72 : pm_codew 72 ∈ pm_ws := pm_memk 0 (List.mem_of_getElem? (i := 233) rfl) rfl
set_option maxRecDepth 20000 in
theorem pm_c73 : pm_codew 73 ∈ pm_ws := pm_memk 4 (List.mem_of_getElem? (i := 17) rfl) rfl
set_option maxRecDepth 20000 in
theorem pm_c74 : pm_codew 74 ∈ pm_ws := pm_memk 1 (List.mem_of_getElem? (i := 163) rfl) rfl
set_option maxRecDepth 20000 in
theorem pm_c75 : pm_codew 75 ∈ pm_ws := pm_memk 2 (List.mem_of_getElem? (i := 94) rfl) rfl
set_option maxRecDepth 20000 in
theorem pm_c76 : pm_codew 76 ∈ pm_ws := pm_memk 4 (List.mem_of_getElem? (i := 218) rfl) rfl
set_option maxRecDepth 20000 in
theorem pm_c77 : pm_codew 77 ∈ pm_ws := pm_memk 1 (List.mem_of_getElem? (i := 223) rfl) rfl
set_option maxRecDepth 20000 in
theorem pm_c78 : pm_codew 78 ∈ pm_ws := pm_memk 2 (List.mem_of_getElem? (i := 62) rfl) rfl
set_option maxRecDepth 20000 in
theorem pm_c79 : pm_codew 79 ∈ pm_ws := pm_memk 2 (List.mem_of_getElem? (i := 66) rfl) rfl
set_option maxRecDepth 20000 in
theorem pm_c80 : pm_codew 80 ∈ pm_ws := pm_memk 0 (List.mem_of_getElem? (i := 37) rfl) rfl
set_option maxRecDepth 20000 in
theorem pm_c81 : pm_codew 81 ∈ pm_ws := pm_memk 3 (List.mem_of_getElem? (i := 1) rfl) rfl
set_option maxRecDepth 20000 in
theorem pm_c82 : pm_codew 82 ∈ pm_ws := pm_memk 3 (List.mem_of_getElem? (i := 89) rfl) rfl
set_option maxRecDepth 20000 in
theorem pm_c83 : pm_codew 83 ∈ pm_ws := pm_memk 3 (List.mem_of_getElem? (i := 97) rfl) rfl
set_option maxRecDepth 20000 in
theorem pm_c84 : pm_codew 84 ∈ pm_ws := pm_memk 3 (List.mem_of_getElem? (i := 94) rfl) rfl
set_option maxRecDepth 20000 in
theorem pm_c85 : pm_codew 85 ∈ pm_ws := pm_memk 3 (List.mem_of_getElem? (i := 162) rfl) rfl
set_option maxRecDepth 20000 in
theorem pm_c86 : pm_codew 86 ∈ pm_ws := pm_memk 3 (List.mem_of_getElem? (i := 110) rfl) rfl
set_option maxRecDepth 20000 in
theorem pm_c87 : pm_codew 87 ∈ pm_ws := pm_memk 3 (List.mem_of_getElem? (i := 106) rfl) rfl
set_option maxRecDepth 20000 in
theorem pm_c88 : pm_codew 88 ∈ pm_ws := pm_memk 3 (List.mem_of_getElem? (i := 177) rfl) rfl
set_option maxRecDepth 20000 in
theorem pm_c89 : pm_codew 89 ∈ pm_ws := pm_memk 3 (List.mem_of_getElem? (i := 200) rfl) rfl
set_option maxRecDepth 20000 in
theorem pm_c90 : pm_codew 90 ∈ pm_ws := pm_memk 3 (List.mem_of_getElem? (i := 166) rfl) rfl
set_option maxRecDepth 20000 in
theorem pm_c91 : pm_codew 91 ∈ pm_ws := pm_memk 3 (List.mem_of_getElem? (i := 186) rfl) rfl
set_option maxRecDepth 20000 in
theorem pm_c92 : pm_codew 92 ∈ pm_ws := pm_memk 3 (List.mem_of_getElem? (i := 170) rfl) rfl
set_option maxRecDepth 20000 in
theorem pm_c93 : pm_codew 93 ∈ pm_ws := pm_memk 3 (List.mem_of_getElem? (i := 206) rfl) rfl
set_option maxRecDepth 20000 in
theorem pm_c94 : pm_codew 94 ∈ pm_ws := pm_memk 4 (List.mem_of_getElem? (i := 35) rfl) rfl
set_option maxRecDepth 20000 in
theorem pm_c95 : pm_codew 95 ∈ pm_ws := pm_memk 4 (List.mem_of_getElem? (i := 41) rfl) rfl
set_option maxRecDepth 20000 in
theorem pm_c96 : pm_codew 96 ∈ pm_ws := pm_memk 0 (List.mem_of_getElem? (i := 29) rfl) rfl
set_option maxRecDepth 20000 in
theorem pm_c97 : pm_codew 97 ∈ pm_ws := pm_memk 2 (List.mem_of_getElem? (i := 170) rfl) rfl
set_option maxRecDepth 20000 in
theorem pm_c98 : pm_codew 98 ∈ pm_ws := pm_memk 3 (List.mem_of_getElem? (i := 9) rfl) rfl
set_option maxRecDepth 20000 in
theorem pm_c99 : pm_codew 99 ∈ pm_ws := pm_memk 4 (List.mem_of_getElem? (i := 30) rfl) rfl
set_option maxRecDepth 20000 in
theorem pm_c100 : pm_codew 100 ∈ pm_ws := pm_memk 0 (List.mem_of_getElem? (i := 84) rfl) rfl
set_option maxRecDepth 20000 in
theorem pm_c101 : pm_codew 101 ∈ pm_ws := pm_memk 0 (List.mem_of_getElem? (i := 88) rfl) rfl
set_option maxRecDepth 20000 in
theorem pm_c102 : pm_codew 102 ∈ pm_ws := pm_memk 0 (List.mem_of_getElem? (i := 92) rfl) rfl
set_option maxRecDepth 20000 in
theorem pm_c103 : pm_codew 103 ∈ pm_ws := pm_memk 0 (List.mem_of_getElem? (i := 96) rfl) rfl
set_option maxRecDepth 20000 in
theorem pm_c104 : pm_codew 104 ∈ pm_ws := pm_memk 0 (List.mem_of_getElem? (i := 100) rfl) rfl
set_option maxRecDepth 20000 in
theorem pm_c105 : pm_codew 105 ∈ pm_ws := pm_memk 4 (List.mem_of_getElem? (i := 66) rfl) rfl
set_option maxRecDepth 20000 in
theorem pm_c106 : pm_codew 106 ∈ pm_ws := pm_memk 4 (List.mem_of_getElem? (i := 95) rfl) rfl
set_option maxRecDepth 20000 in
theorem pm_c107 : pm_codew 107 ∈ pm_ws := pm_memk 4 (List.mem_of_getElem? (i := 103) rfl) rfl
set_option maxRecDepth 20000 in
theorem pm_c108 : pm_codew 108 ∈ pm_ws := pm_memk 4 (List.mem_of_getElem? (i := 116) rfl) rfl
set_option maxRecDepth 20000 in
theorem pm_c109 : pm_codew 109 ∈ pm_ws := pm_memk 4 (List.mem_of_getElem? (i := 129) rfl) rfl
set_option maxRecDepth 20000 in
theorem pm_c110 : pm_codew 110 ∈ pm_ws := pm_memk 4 (List.mem_of_getElem? (i := 140) rfl) rfl
set_option maxRecDepth 20000 in
theorem pm_c111 : pm_codew 111 ∈ pm_ws := pm_memk 4 (List.mem_of_getElem? (i := 157) rfl) rfl
set_option maxRecDepth 20000 in
theorem pm_c112 : pm_codew 112 ∈ pm_ws := pm_memk 4 (List.mem_of_getElem? (i := 166) rfl) rfl
set_option maxRecDepth 20000 in
theorem pm_c113 : pm_codew 113 ∈ pm_ws := pm_memk 4 (List.mem_of_getElem? (i := 174) rfl) rfl
set_option maxRecDepth 20000 in
theorem pm_c114 : pm_codew 114 ∈ pm_ws := pm_memk 0 (List.mem_of_getElem? (i := 104) rfl) rfl
set_option maxRecDepth 20000 in
theorem pm_c115 : pm_codew 115 ∈ pm_ws := pm_memk 0 (List.mem_of_getElem? (i := 108) rfl) rfl
set_option maxRecDepth 20000 in
theorem pm_c116 : pm_codew 116 ∈ pm_ws := pm_memk 4 (List.mem_of_getElem? (i := 185) rfl) rfl
set_option maxRecDepth 20000 in
theorem pm_c117 : pm_codew 117 ∈ pm_ws := pm_memk 4 (List.mem_of_getElem? (i := 203) rfl) rfl
set_option maxRecDepth 20000 in
theorem pm_c118 : pm_codew 118 ∈ pm_ws := pm_memk 4 (List.mem_of_getElem? (i := 213) rfl) rfl
set_option maxRecDepth 20000 in
theorem pm_c119 : pm_codew 119 ∈ pm_ws := pm_memk 4 (List.mem_of_getElem? (i := 225) rfl) rfl
set_option maxRecDepth 20000 in
theorem pm_c120 : pm_codew 120 ∈ pm_ws := pm_memk 4 (List.mem_of_getElem? (i := 232) rfl) rfl
set_option maxRecDepth 20000 in
theorem pm_c121 : pm_codew 121 ∈ pm_ws := pm_memk 4 (List.mem_of_getElem? (i := 239) rfl) rfl
set_option maxRecDepth 20000 in
theorem pm_c122 : pm_codew 122 ∈ pm_ws := pm_memk 5 (List.mem_of_getElem? (i := 6) rfl) rfl
set_option maxRecDepth 20000 in
theorem pm_c123 : pm_codew 123 ∈ pm_ws := pm_memk 5 (List.mem_of_getElem? (i := 15) rfl) rfl
set_option maxRecDepth 20000 in
theorem pm_c124 : pm_codew 124 ∈ pm_ws := pm_memk 0 (List.mem_of_getElem? (i := 112) rfl) rfl
set_option maxRecDepth 20000 in
theorem pm_c125 : pm_codew 125 ∈ pm_ws := pm_memk 0 (List.mem_of_getElem? (i := 116) rfl) rfl
set_option maxRecDepth 20000 in
theorem pm_c126 : pm_codew 126 ∈ pm_ws := pm_memk 0 (List.mem_of_getElem? (i := 120) rfl) rfl
set_option maxRecDepth 20000 in
theorem pm_c127 : pm_codew 127 ∈ pm_ws := pm_memk 5 (List.mem_of_getElem? (i := 23) rfl) rfl
set_option maxRecDepth 20000 in
theorem pm_c128 : pm_codew 128 ∈ pm_ws := pm_memk 5 (List.mem_of_getElem? (i := 31) rfl) rfl
set_option maxRecDepth 20000 in
theorem pm_c129 : pm_codew 129 ∈ pm_ws := pm_memk 5 (List.mem_of_getElem? (i := 38) rfl) rfl
set_option maxRecDepth 20000 in
theorem pm_c130 : pm_codew 130 ∈ pm_ws := pm_memk 5 (List.mem_of_getElem? (i := 46) rfl) rfl
set_option maxRecDepth 20000 in
theorem pm_c131 : pm_codew 131 ∈ pm_ws := pm_memk 5 (List.mem_of_getElem? (i := 53) rfl) rfl
set_option maxRecDepth 20000 in
theorem pm_c132 : pm_codew 132 ∈ pm_ws := pm_memk 5 (List.mem_of_getElem? (i := 60) rfl) rfl
set_option maxRecDepth 20000 in
theorem pm_c133 : pm_codew 133 ∈ pm_ws := pm_memk 5 (List.mem_of_getElem? (i := 67) rfl) rfl
set_option maxRecDepth 20000 in
theorem pm_c134 : pm_codew 134 ∈ pm_ws := pm_memk 5 (List.mem_of_getElem? (i := 74) rfl) rfl
set_option maxRecDepth 20000 in
theorem pm_c135 : pm_codew 135 ∈ pm_ws := pm_memk 0 (List.mem_of_getElem? (i := 124) rfl) rfl
set_option maxRecDepth 20000 in
theorem pm_c136 : pm_codew 136 ∈ pm_ws := pm_memk 0 (List.mem_of_getElem? (i := 128) rfl) rfl
set_option maxRecDepth 20000 in
theorem pm_c137 : pm_codew 137 ∈ pm_ws := pm_memk 0 (List.mem_of_getElem? (i := 132) rfl) rfl
set_option maxRecDepth 20000 in
theorem pm_c138 : pm_codew 138 ∈ pm_ws := pm_memk 0 (List.mem_of_getElem? (i := 136) rfl) rfl
set_option maxRecDepth 20000 in
theorem pm_c139 : pm_codew 139 ∈ pm_ws := pm_memk 0 (List.mem_of_getElem? (i := 140) rfl) rfl
set_option maxRecDepth 20000 in
theorem pm_c140 : pm_codew 140 ∈ pm_ws := pm_memk 5 (List.mem_of_getElem? (i := 83) rfl) rfl
set_option maxRecDepth 20000 in
theorem pm_c141 : pm_codew 141 ∈ pm_ws := pm_memk 0 (List.mem_of_getElem? (i := 144) rfl) rfl
set_option maxRecDepth 20000 in
theorem pm_c142 : pm_codew 142 ∈ pm_ws := pm_memk 2 (List.mem_of_getElem? (i := 156) rfl) rfl
set_option maxRecDepth 20000 in
theorem pm_c143 : pm_codew 143 ∈ pm_ws := pm_memk 5 (List.mem_of_getElem? (i := 89) rfl) rfl
set_option maxRecDepth 20000 in
theorem pm_c144 : pm_codew 144 ∈ pm_ws := pm_memk 5 (List.mem_of_getElem? (i := 162) rfl) rfl
set_option maxRecDepth 20000 in
theorem pm_c145 : pm_codew 145 ∈ pm_ws := pm_memk 5 (List.mem_of_getElem? (i := 170) rfl) rfl
set_option maxRecDepth 20000 in
theorem pm_c146 : pm_codew 146 ∈ pm_ws := pm_memk 5 (List.mem_of_getElem? (i := 182) rfl) rfl
set_option maxRecDepth 20000 in
theorem pm_c147 : pm_codew 147 ∈ pm_ws := pm_memk 5 (List.mem_of_getElem? (i := 193) rfl) rfl
set_option maxRecDepth 20000 in
theorem pm_c148 : pm_codew 148 ∈ pm_ws := pm_memk 5 (List.mem_of_getElem? (i := 94) rfl) rfl
set_option maxRecDepth 20000 in
theorem pm_c149 : pm_codew 149 ∈ pm_ws := pm_memk 6 (List.mem_of_getElem? (i := 45) rfl) rfl
set_option maxRecDepth 20000 in
theorem pm_c150 : pm_codew 150 ∈ pm_ws := pm_memk 6 (List.mem_of_getElem? (i := 65) rfl) rfl
set_option maxRecDepth 20000 in
theorem pm_c151 : pm_codew 151 ∈ pm_ws := pm_memk 7 (List.mem_of_getElem? (i := 139) rfl) rfl
set_option maxRecDepth 20000 in
theorem pm_c152 : pm_codew 152 ∈ pm_ws := pm_memk 6 (List.mem_of_getElem? (i := 110) rfl) rfl
set_option maxRecDepth 20000 in
theorem pm_c153 : pm_codew 153 ∈ pm_ws := pm_memk 6 (List.mem_of_getElem? (i := 118) rfl) rfl
set_option maxRecDepth 20000 in
theorem pm_c154 : pm_codew 154 ∈ pm_ws := pm_memk 6 (List.mem_of_getElem? (i := 61) rfl) rfl
set_option maxRecDepth 20000 in
theorem pm_c155 : pm_codew 155 ∈ pm_ws := pm_memk 6 (List.mem_of_getElem? (i := 86) rfl) rfl
set_option maxRecDepth 20000 in
theorem pm_c156 : pm_codew 156 ∈ pm_ws := pm_memk 7 (List.mem_of_getElem? (i := 203) rfl) rfl
set_option maxRecDepth 20000 in
theorem pm_c157 : pm_codew 157 ∈ pm_ws := pm_memk 6 (List.mem_of_getElem? (i := 122) rfl) rfl
set_option maxRecDepth 20000 in
theorem pm_c158 : pm_codew 158 ∈ pm_ws := pm_memk 5 (List.mem_of_getElem? (i := 166) rfl) rfl
set_option maxRecDepth 20000 in
theorem pm_c159 : pm_codew 159 ∈ pm_ws := pm_memk 5 (List.mem_of_getElem? (i := 174) rfl) rfl
set_option maxRecDepth 20000 in
theorem pm_c160 : pm_codew 160 ∈ pm_ws := pm_memk 5 (List.mem_of_getElem? (i := 178) rfl) rfl
set_option maxRecDepth 20000 in
theorem pm_c161 : pm_codew 161 ∈ pm_ws := pm_memk 5 (List.mem_of_getElem? (i := 186) rfl) rfl
set_option maxRecDepth 20000 in
theorem pm_c162 : pm_codew 162 ∈ pm_ws := pm_memk 5 (List.mem_of_getElem? (i := 226) rfl) rfl
set_option maxRecDepth 20000 in
theorem pm_c163 : pm_codew 163 ∈ pm_ws := pm_memk 5 (List.mem_of_getElem? (i := 229) rfl) rfl
set_option maxRecDepth 20000 in
theorem pm_c164 : pm_codew 164 ∈ pm_ws := pm_memk 6 (List.mem_of_getElem? (i := 10) rfl) rfl
set_option maxRecDepth 20000 in
theorem pm_c165 : pm_codew 165 ∈ pm_ws := pm_memk 5 (List.mem_of_getElem? (i := 222) rfl) rfl
set_option maxRecDepth 20000 in
theorem pm_c166 : pm_codew 166 ∈ pm_ws := pm_memk 5 (List.mem_of_getElem? (i := 233) rfl) rfl
set_option maxRecDepth 20000 in
theorem pm_c167 : pm_codew 167 ∈ pm_ws := pm_memk 5 (List.mem_of_getElem? (i := 218) rfl) rfl
set_option maxRecDepth 20000 in
theorem pm_c168 : pm_codew 168 ∈ pm_ws := pm_memk 5 (List.mem_of_getElem? (i := 239) rfl) rfl
set_option maxRecDepth 20000 in
theorem pm_c169 : pm_codew 169 ∈ pm_ws := pm_memk 5 (List.mem_of_getElem? (i := 214) rfl) rfl
set_option maxRecDepth 20000 in
theorem pm_c170 : pm_codew 170 ∈ pm_ws := pm_memk 6 (List.mem_of_getElem? (i := 7) rfl) rfl
set_option maxRecDepth 20000 in
theorem pm_c171 : pm_codew 171 ∈ pm_ws := pm_memk 6 (List.mem_of_getElem? (i := 3) rfl) rfl
set_option maxRecDepth 20000 in
theorem pm_c172 : pm_codew 172 ∈ pm_ws := pm_memk 5 (List.mem_of_getElem? (i := 210) rfl) rfl
set_option maxRecDepth 20000 in
theorem pm_c173 : pm_codew 173 ∈ pm_ws := pm_memk 6 (List.mem_of_getElem? (i := 17) rfl) rfl
set_option maxRecDepth 20000 in
theorem pm_c174 : pm_codew 174 ∈ pm_ws := pm_memk 6 (List.mem_of_getElem? (i := 29) rfl) rfl
set_option maxRecDepth 20000 in
theorem pm_c175 : pm_codew 175 ∈ pm_ws := pm_memk 6 (List.mem_of_getElem? (i := 26) rfl) rfl
set_option maxRecDepth 20000 in
theorem pm_c176 : pm_codew 176 ∈ pm_ws := pm_memk 5 (List.mem_of_getElem? (i := 197) rfl) rfl
set_option maxRecDepth 20000 in
theorem pm_c177 : pm_codew 177 ∈ pm_ws := pm_memk 5 (List.mem_of_getElem? (i := 205) rfl) rfl
set_option maxRecDepth 20000 in
theorem pm_c178 : pm_codew 178 ∈ pm_ws := pm_memk 6 (List.mem_of_getElem? (i := 21) rfl) rfl
set_option maxRecDepth 20000 in
theorem pm_c179 : pm_codew 179 ∈ pm_ws := pm_memk 6 (List.mem_of_getElem? (i := 36) rfl) rfl
set_option maxRecDepth 20000 in
theorem pm_c180 : pm_codew 180 ∈ pm_ws := pm_memk 5 (List.mem_of_getElem? (i := 201) rfl) rfl
set_option maxRecDepth 20000 in
theorem pm_c181 : pm_codew 181 ∈ pm_ws := pm_memk 5 (List.mem_of_getElem? (i := 190) rfl) rfl
set_option maxRecDepth 20000 in
theorem pm_c182 : pm_codew 182 ∈ pm_ws := pm_memk 6 (List.mem_of_getElem? (i := 54) rfl) rfl
set_option maxRecDepth 20000 in
theorem pm_c183 : pm_codew 183 ∈ pm_ws := pm_memk 6 (List.mem_of_getElem? (i := 49) rfl) rfl
set_option maxRecDepth 20000 in
theorem pm_c184 : pm_codew 184 ∈ pm_ws := pm_memk 6 (List.mem_of_getElem? (i := 41) rfl) rfl
set_option maxRecDepth 20000 in
theorem pm_c185 : pm_codew 185 ∈ pm_ws := pm_memk 6 (List.mem_of_getElem? (i := 70) rfl) rfl
set_option maxRecDepth 20000 in
theorem pm_c186 : pm_codew 186 ∈ pm_ws := pm_memk 6 (List.mem_of_getElem? (i := 74) rfl) rfl
set_option maxRecDepth 20000 in
theorem pm_c187 : pm_codew 187 ∈ pm_ws := pm_memk 6 (List.mem_of_getElem? (i := 78) rfl) rfl
set_option maxRecDepth 20000 in
theorem pm_c188 : pm_codew 188 ∈ pm_ws := pm_memk 6 (List.mem_of_getElem? (i := 90) rfl) rfl
set_option maxRecDepth 20000 in
theorem pm_c189 : pm_codew 189 ∈ pm_ws := pm_memk 6 (List.mem_of_getElem? (i := 102) rfl) rfl
set_option maxRecDepth 20000 in
theorem pm_c190 : pm_codew 190 ∈ pm_ws := pm_memk 6 (List.mem_of_getElem? (i := 98) rfl) rfl
set_option maxRecDepth 20000 in
theorem pm_c191 : pm_codew 191 ∈ pm_ws := pm_memk 6 (List.mem_of_getElem? (i := 82) rfl) rfl
set_option maxRecDepth 20000 in
theorem pm_c192 : pm_codew 192 ∈ pm_ws := pm_memk 6 (List.mem_of_getElem? (i := 94) rfl) rfl
set_option maxRecDepth 20000 in
theorem pm_c193 : pm_codew 193 ∈ pm_ws := pm_memk 6 (List.mem_of_getElem? (i := 106) rfl) rfl
set_option maxRecDepth 20000 in
theorem pm_c194 : pm_codew 194 ∈ pm_ws := pm_memk 6 (List.mem_of_getElem? (i := 114) rfl) rfl
set_option maxRecDepth 20000 in
theorem pm_c195 : pm_codew 195 ∈ pm_ws := pm_memk 6 (List.mem_of_getElem? (i := 227) rfl) rfl
set_option maxRecDepth 20000 in
theorem pm_c196 : pm_codew 196 ∈ pm_ws := pm_memk 6 (List.mem_of_getElem? (i := 239) rfl) rfl
set_option maxRecDepth 20000 in
theorem pm_c197 : pm_codew 197 ∈ pm_ws := pm_memk 6 (List.mem_of_getElem? (i := 169) rfl) rfl
set_option maxRecDepth 20000 in
theorem pm_c198 : pm_codew 198 ∈ pm_ws := pm_memk 6 (List.mem_of_getElem? (i := 194) rfl) rfl
set_option maxRecDepth 20000 in
theorem pm_c199 : pm_codew 199 ∈ pm_ws := pm_memk 6 (List.mem_of_getElem? (i := 203) rfl) rfl
set_option maxRecDepth 20000 in
theorem pm_c200 : pm_codew 200 ∈ pm_ws := pm_memk 6 (List.mem_of_getElem? (i := 173) rfl) rfl
set_option maxRecDepth 20000 in
theorem pm_c201 : pm_codew 201 ∈ pm_ws := pm_memk 6 (List.mem_of_getElem? (i := 177) rfl) rfl
set_option maxRecDepth 20000 in
theorem pm_c202 : pm_codew 202 ∈ pm_ws := pm_memk 7 (List.mem_of_getElem? (i := 103) rfl) rfl
set_option maxRecDepth 20000 in
theorem pm_c203 : pm_codew 203 ∈ pm_ws := pm_memk 6 (List.mem_of_getElem? (i := 198) rfl) rfl
set_option maxRecDepth 20000 in
theorem pm_c204 : pm_codew 204 ∈ pm_ws := pm_memk 6 (List.mem_of_getElem? (i := 189) rfl) rfl
set_option maxRecDepth 20000 in
theorem pm_c205 : pm_codew 205 ∈ pm_ws := pm_memk 6 (List.mem_of_getElem? (i := 185) rfl) rfl
set_option maxRecDepth 20000 in
theorem pm_c206 : pm_codew 206 ∈ pm_ws := pm_memk 6 (List.mem_of_getElem? (i := 181) rfl) rfl
set_option maxRecDepth 20000 in
theorem pm_c207 : pm_codew 207 ∈ pm_ws := pm_memk 6 (List.mem_of_getElem? (i := 166) rfl) rfl
set_option maxRecDepth 20000 in
theorem pm_c208 : pm_codew 208 ∈ pm_ws := pm_memk 7 (List.mem_of_getElem? (i := 3) rfl) rfl
set_option maxRecDepth 20000 in
theorem pm_c209 : pm_codew 209 ∈ pm_ws := pm_memk 7 (List.mem_of_getElem? (i := 75) rfl) rfl
set_option maxRecDepth 20000 in
theorem pm_c210 : pm_codew 210 ∈ pm_ws := pm_memk 6 (List.mem_of_getElem? (i := 235) rfl) rfl
set_option maxRecDepth 20000 in
theorem pm_c211 : pm_codew 211 ∈ pm_ws := pm_memk 6 (List.mem_of_getElem? (i := 162) rfl) rfl
set_option maxRecDepth 20000 in
theorem pm_c212 : pm_codew 212 ∈ pm_ws := pm_memk 6 (List.mem_of_getElem? (i := 138) rfl) rfl
set_option maxRecDepth 20000 in
theorem pm_c213 : pm_codew 213 ∈ pm_ws := pm_memk 6 (List.mem_of_getElem? (i := 207) rfl) rfl
set_option maxRecDepth 20000 in
theorem pm_c214 : pm_codew 214 ∈ pm_ws := pm_memk 6 (List.mem_of_getElem? (i := 219) rfl) rfl
set_option maxRecDepth 20000 in
theorem pm_c215 : pm_codew 215 ∈ pm_ws := pm_memk 6 (List.mem_of_getElem? (i := 215) rfl) rfl
set_option maxRecDepth 20000 in
theorem pm_c216 : pm_codew 216 ∈ pm_ws := pm_memk 6 (List.mem_of_getElem? (i := 154) rfl) rfl
set_option maxRecDepth 20000 in
theorem pm_c217 : pm_codew 217 ∈ pm_ws := pm_memk 6 (List.mem_of_getElem? (i := 158) rfl) rfl
set_option maxRecDepth 20000 in
theorem pm_c218 : pm_codew 218 ∈ pm_ws := pm_memk 7 (List.mem_of_getElem? (i := 59) rfl) rfl
set_option maxRecDepth 20000 in
theorem pm_c219 : pm_codew 219 ∈ pm_ws := pm_memk 6 (List.mem_of_getElem? (i := 146) rfl) rfl
set_option maxRecDepth 20000 in
theorem pm_c220 : pm_codew 220 ∈ pm_ws := pm_memk 6 (List.mem_of_getElem? (i := 150) rfl) rfl
set_option maxRecDepth 20000 in
theorem pm_c221 : pm_codew 221 ∈ pm_ws := pm_memk 6 (List.mem_of_getElem? (i := 142) rfl) rfl
set_option maxRecDepth 20000 in
theorem pm_c222 : pm_codew 222 ∈ pm_ws := pm_memk 6 (List.mem_of_getElem? (i := 211) rfl) rfl
set_option maxRecDepth 20000 in
theorem pm_c223 : pm_codew 223 ∈ pm_ws := pm_memk 6 (List.mem_of_getElem? (i := 134) rfl) rfl
set_option maxRecDepth 20000 in
theorem pm_c224 : pm_codew 224 ∈ pm_ws := pm_memk 6 (List.mem_of_getElem? (i := 130) rfl) rfl
set_option maxRecDepth 20000 in
theorem pm_c225 : pm_codew 225 ∈ pm_ws := pm_memk 6 (List.mem_of_getElem? (i := 126) rfl) rfl
set_option maxRecDepth 20000 in
theorem pm_c226 : pm_codew 226 ∈ pm_ws := pm_memk 7 (List.mem_of_getElem? (i := 23) rfl) rfl
set_option maxRecDepth 20000 in
theorem pm_c227 : pm_codew 227 ∈ pm_ws := pm_memk 7 (List.mem_of_getElem? (i := 31) rfl) rfl
set_option maxRecDepth 20000 in
theorem pm_c228 : pm_codew 228 ∈ pm_ws := pm_memk 7 (List.mem_of_getElem? (i := 27) rfl) rfl
set_option maxRecDepth 20000 in
theorem pm_c229 : pm_codew 229 ∈ pm_ws := pm_memk 7 (List.mem_of_getElem? (i := 19) rfl) rfl
set_option maxRecDepth 20000 in
theorem pm_c230 : pm_codew 230 ∈ pm_ws := pm_memk 7 (List.mem_of_getElem? (i := 11) rfl) rfl
set_option maxRecDepth 20000 in
theorem pm_c231 : pm_codew 231 ∈ pm_ws := pm_memk 7 (List.mem_of_getElem? (i := 15) rfl) rfl
set_option maxRecDepth 20000 in
theorem pm_c232 : pm_codew 232 ∈ pm_ws := pm_memk 7 (List.mem_of_getElem? (i := 7) rfl) rfl
set_option maxRecDepth 20000 in
theorem pm_c233 : pm_codew 233 ∈ pm_ws := pm_memk 7 (List.mem_of_getElem? (i := 79) rfl) rfl
set_option maxRecDepth 20000 in
theorem pm_c234 : pm_codew 234 ∈ pm_ws := pm_memk 7 (List.mem_of_getElem? (i := 71) rfl) rfl
set_option maxRecDepth 20000 in
theorem pm_c235 : pm_codew 235 ∈ pm_ws := pm_memk 7 (List.mem_of_getElem? (i := 67) rfl) rfl
set_option maxRecDepth 20000 in
theorem pm_c236 : pm_codew 236 ∈ pm_ws := pm_memk 7 (List.mem_of_getElem? (i := 63) rfl) rfl
set_option maxRecDepth 20000 in
theorem pm_c237 : pm_codew 237 ∈ pm_ws := pm_memk 7 (List.mem_of_getElem? (i := 55) rfl) rfl
set_option maxRecDepth 20000 in
theorem pm_c238 : pm_codew 238 ∈ pm_ws := pm_memk 7 (List.mem_of_getElem? (i := 51) rfl) rfl
set_option maxRecDepth 20000 in
theorem pm_c239 : pm_codew 239 ∈ pm_ws := pm_memk 7 (List.mem_of_getElem? (i := 47) rfl) rfl
set_option maxRecDepth 20000 in
theorem pm_c240 : pm_codew 240 ∈ pm_ws := pm_memk 6 (List.mem_of_getElem? (i := 231) rfl) rfl
set_option maxRecDepth 20000 in
theorem pm_c241 : pm_codew 241 ∈ pm_ws := pm_memk 6 (List.mem_of_getElem? (i := 223) rfl) rfl
set_option maxRecDepth 20000 in
theorem pm_c242 : pm_codew 242 ∈ pm_ws := pm_memk 7 (List.mem_of_getElem? (i := 99) rfl) rfl
set_option maxRecDepth 20000 in
theorem pm_c243 : pm_codew 243 ∈ pm_ws := pm_memk 7 (List.mem_of_getElem? (i := 95) rfl) rfl
set_option maxRecDepth 20000 in
theorem pm_c244 : pm_codew 244 ∈ pm_ws := pm_memk 7 (List.mem_of_getElem? (i := 107) rfl) rfl
set_option maxRecDepth 20000 in
theorem pm_c245 : pm_codew 245 ∈ pm_ws := pm_memk 7 (List.mem_of_getElem? (i := 91) rfl) rfl
set_option maxRecDepth 20000 in
theorem pm_c246 : pm_codew 246 ∈ pm_ws := pm_memk 7 (List.mem_of_getElem? (i := 115) rfl) rfl
set_option maxRecDepth 20000 in
theorem pm_c247 : pm_codew 247 ∈ pm_ws := pm_memk 7 (List.mem_of_getElem? (i := 111) rfl) rfl
set_option maxRecDepth 20000 in
theorem pm_c248 : pm_codew 248 ∈ pm_ws := pm_memk 7 (List.mem_of_getElem? (i := 87) rfl) rfl
set_option maxRecDepth 20000 in
theorem pm_c249 : pm_codew 249 ∈ pm_ws := pm_memk 7 (List.mem_of_getElem? (i := 43) rfl) rfl
set_option maxRecDepth 20000 in
theorem pm_c250 : pm_codew 250 ∈ pm_ws := pm_memk 7 (List.mem_of_getElem? (i := 83) rfl) rfl
set_option maxRecDepth 20000 in
theorem pm_c251 : pm_codew 251 ∈ pm_ws := pm_memk 7 (List.mem_of_getElem? (i := 39) rfl) rfl
set_option maxRecDepth 20000 in
theorem pm_c252 : pm_codew 252 ∈ pm_ws := pm_memk 7 (List.mem_of_getElem? (i := 35) rfl) rfl
set_option maxRecDepth 20000 in
theorem pm_c253 : pm_codew 253 ∈ pm_ws := pm_memk 7 (List.mem_of_getElem? (i := 119) rfl) rfl
set_option maxRecDepth 20000 in
theorem pm_c254 : pm_codew 254 ∈ pm_ws := pm_memk 7 (List.mem_of_getElem? (i := 123) rfl) rfl
set_option maxRecDepth 20000 in
theorem pm_c255 : pm_codew 255 ∈ pm_ws := pm_memk 7 (List.mem_of_getElem? (i := 127) rfl) rfl
set_option maxRecDepth 20000 in
theorem pm_c256 : pm_codew 256 ∈ pm_ws := pm_memk 7 (List.mem_of_getElem? (i := 131) rfl) rfl
set_option maxRecDepth 20000 in
theorem pm_c257 : pm_codew 257 ∈ pm_ws := pm_memk 7 (List.mem_of_getElem? (i := 135) rfl) rfl
set_option maxRecDepth 20000 in
theorem pm_c258 : pm_codew 258 ∈ pm_ws := pm_memk 7 (List.mem_of_getElem? (i := 147) rfl) rfl
set_option maxRecDepth 20000 in
theorem pm_c259 : pm_codew 259 ∈ pm_ws := pm_memk 7 (List.mem_of_getElem? (i := 143) rfl) rfl
set_option maxRecDepth 20000 in
theorem pm_c260 : pm_codew 260 ∈ pm_ws := pm_memk 7 (List.mem_of_getElem? (i := 152) rfl) rfl
set_option maxRecDepth 20000 in
theorem pm_c261 : pm_codew 261 ∈ pm_ws := pm_memk 7 (List.mem_of_getElem? (i := 160) rfl) rfl
set_option maxRecDepth 20000 in
theorem pm_c262 : pm_codew 262 ∈ pm_ws := pm_memk 7 (List.mem_of_getElem? (i := 156) rfl) rfl
set_option maxRecDepth 20000 in
theorem pm_c263 : pm_codew 263 ∈ pm_ws := pm_memk 7 (List.mem_of_getElem? (i := 164) rfl) rfl
set_option maxRecDepth 20000 in
theorem pm_c264 : pm_codew 264 ∈ pm_ws := pm_memk 7 (List.mem_of_getElem? (i := 168) rfl) rfl
set_option maxRecDepth 20000 in
theorem pm_c265 : pm_codew 265 ∈ pm_ws := pm_memk 7 (List.mem_of_getElem? (i := 175) rfl) rfl
set_option maxRecDepth 20000 in
theorem pm_c266 : pm_codew 266 ∈ pm_ws := pm_memk 7 (List.mem_of_getElem? (i := 172) rfl) rfl
set_option maxRecDepth 20000 in
theorem pm_c267 : pm_codew 267 ∈ pm_ws := pm_memk 7 (List.mem_of_getElem? (i := 183) rfl) rfl
set_option maxRecDepth 20000 in
theorem pm_c268 : pm_codew 268 ∈ pm_ws := pm_memk 7 (List.mem_of_getElem? (i := 179) rfl) rfl
set_option maxRecDepth 20000 in
theorem pm_c269 : pm_codew 269 ∈ pm_ws := pm_memk 7 (List.mem_of_getElem? (i := 187) rfl) rfl
set_option maxRecDepth 20000 in
theorem pm_c270 : pm_codew 270 ∈ pm_ws := pm_memk 7 (List.mem_of_getElem? (i := 191) rfl) rfl
set_option maxRecDepth 20000 in
theorem pm_c271 : pm_codew 271 ∈ pm_ws := pm_memk 7 (List.mem_of_getElem? (i := 195) rfl) rfl
set_option maxRecDepth 20000 in
theorem pm_c272 : pm_codew 272 ∈ pm_ws := pm_memk 7 (List.mem_of_getElem? (i := 199) rfl) rfl
set_option maxRecDepth 20000 in
theorem pm_c273 : pm_codew 273 ∈ pm_ws := pm_memk 7 (List.mem_of_getElem? (i := 207) rfl) rfl
set_option maxRecDepth 20000 in
theorem pm_c274 : pm_codew 274 ∈ pm_ws := pm_memk 7 (List.mem_of_getElem? (i := 215) rfl) rfl
set_option maxRecDepth 20000 in
theorem pm_c275 : pm_codew 275 ∈ pm_ws := pm_memk 7 (List.mem_of_getElem? (i := 211) rfl) rfl
set_option maxRecDepth 20000 in
theorem pm_c276 : pm_codew 276 ∈ pm_ws := pm_memk 7 (List.mem_of_getElem? (i := 219) rfl) rfl
set_option maxRecDepth 20000 in
theorem pm_c277 : pm_codew 277 ∈ pm_ws := pm_memk 7 (List.mem_of_getElem? (i := 223) rfl) rfl
set_option maxRecDepth 20000 in
theorem pm_c278 : pm_codew 278 ∈ pm_ws := pm_memk 7 (List.mem_of_getElem? (i := 227) rfl) rfl
set_option maxRecDepth 20000 in
theorem pm_c279 : pm_codew 279 ∈ pm_ws := pm_memk 7 (List.mem_of_getElem? (i := 231) rfl) rfl
set_option maxRecDepth 20000 in
theorem pm_c280 : pm_codew 280 ∈ pm_ws := pm_memk 7 (List.mem_of_getElem? (i := 235) rfl) rfl
set_option maxRecDepth 20000 in
theorem pm_c281 : pm_codew 281 ∈ pm_ws := pm_memk 7 (List.mem_of_getElem? (i := 239) rfl) rfl
set_option maxRecDepth 20000 in
theorem pm_c282 : pm_codew 282 ∈ pm_ws := pm_memk 8 (List.mem_of_getElem? (i := 3) rfl) rfl
set_option maxRecDepth 20000 in
theorem pm_c283 : pm_codew 283 ∈ pm_ws := pm_memk 8 (List.mem_of_getElem? (i := 7) rfl) rfl
set_option maxRecDepth 20000 in
theorem pm_c284 : pm_codew 284 ∈ pm_ws := pm_memk 8 (List.mem_of_getElem? (i := 11) rfl) rfl
set_option maxRecDepth 20000 in
theorem pm_c285 : pm_codew 285 ∈ pm_ws := pm_memk 8 (List.mem_of_getElem? (i := 15) rfl) rfl
set_option maxRecDepth 20000 in
theorem pm_c286 : pm_codew 286 ∈ pm_ws := pm_memk 8 (List.mem_of_getElem? (i := 19) rfl) rfl
set_option maxRecDepth 20000 in
theorem pm_c287 : pm_codew 287 ∈ pm_ws := pm_memk 8 (List.mem_of_getElem? (i := 23) rfl) rfl
set_option maxRecDepth 20000 in
theorem pm_c288 : pm_codew 288 ∈ pm_ws := pm_memk 8 (List.mem_of_getElem? (i := 27) rfl) rfl
set_option maxRecDepth 20000 in
theorem pm_c289 : pm_codew 289 ∈ pm_ws := pm_memk 2 (List.mem_of_getElem? (i := 32) rfl) rfl
set_option maxRecDepth 20000 in
theorem pm_c290 : pm_codew 290 ∈ pm_ws := pm_memk 1 (List.mem_of_getElem? (i := 202) rfl) rfl
set_option maxRecDepth 20000 in
theorem pm_c291 : pm_codew 291 ∈ pm_ws := pm_memk 2 (List.mem_of_getElem? (i := 148) rfl) rfl
set_option maxRecDepth 20000 in
theorem pm_c292 : pm_codew 292 ∈ pm_ws := pm_memk 2 (List.mem_of_getElem? (i := 69) rfl) rfl
set_option maxRecDepth 20000 in
theorem pm_c293 : pm_codew 293 ∈ pm_ws := pm_memk 1 (List.mem_of_getElem? (i := 211) rfl) rfl
set_option maxRecDepth 20000 in
theorem pm_c294 : pm_codew 294 ∈ pm_ws := pm_memk 1 (List.mem_of_getElem? (i := 154) rfl) rfl
set_option maxRecDepth 20000 in
theorem pm_c295 : pm_codew 295 ∈ pm_ws := pm_memk 1 (List.mem_of_getElem? (i := 183) rfl) rfl
set_option maxRecDepth 20000 in
theorem pm_c296 : pm_codew 296 ∈ pm_ws := pm_memk 3 (List.mem_of_getElem? (i := 114) rfl) rfl
set_option maxRecDepth 20000 in
theorem pm_c297 : pm_codew 297 ∈ pm_ws := pm_memk 3 (List.mem_of_getElem? (i := 124) rfl) rfl
set_option maxRecDepth 20000 in
theorem pm_c298 : pm_codew 298 ∈ pm_ws := pm_memk 3 (List.mem_of_getElem? (i := 118) rfl) rfl
set_option maxRecDepth 20000 in
theorem pm_c299 : pm_codew 299 ∈ pm_ws := pm_memk 3 (List.mem_of_getElem? (i := 128) rfl) rfl
set_option maxRecDepth 20000 in
theorem pm_c300 : pm_codew 300 ∈ pm_ws := pm_memk 3 (List.mem_of_getElem? (i := 134) rfl) rfl
set_option maxRecDepth 20000 in
theorem pm_c301 : pm_codew 301 ∈ pm_ws := pm_memk 3 (List.mem_of_getElem? (i := 131) rfl) rfl
set_option maxRecDepth 20000 in
theorem pm_c302 : pm_codew 302 ∈ pm_ws := pm_memk 3 (List.mem_of_getElem? (i := 152) rfl) rfl
set_option maxRecDepth 20000 in
theorem pm_c303 : pm_codew 303 ∈ pm_ws := pm_memk 3 (List.mem_of_getElem? (i := 148) rfl) rfl
set_option maxRecDepth 20000 in
theorem pm_c304 : pm_codew 304 ∈ pm_ws := pm_memk 3 (List.mem_of_getElem? (i := 142) rfl) rfl
set_option maxRecDepth 20000 in
theorem pm_c305 : pm_codew 305 ∈ pm_ws := pm_memk 3 (List.mem_of_getElem? (i := 145) rfl) rfl
set_option maxRecDepth 20000 in
theorem pm_c306 : pm_codew 306 ∈ pm_ws := pm_memk 4 (List.mem_of_getElem? (i := 8) rfl) rfl
set_option maxRecDepth 20000 in
theorem pm_c307 : pm_codew 307 ∈ pm_ws := pm_memk 4 (List.mem_of_getElem? (i := 5) rfl) rfl
set_option maxRecDepth 20000 in
theorem pm_c308 : pm_codew 308 ∈ pm_ws := pm_memk 3 (List.mem_of_getElem? (i := 139) rfl) rfl
set_option maxRecDepth 20000 in
theorem pm_c309 : pm_codew 309 ∈ pm_ws := pm_memk 2 (List.mem_of_getElem? (i := 165) rfl) rfl
set_option maxRecDepth 20000 in
theorem pm_c310 : pm_codew 310 ∈ pm_ws := pm_memk 3 (List.mem_of_getElem? (i := 4) rfl) rfl
set_option maxRecDepth 20000 in
theorem pm_c311 : pm_codew 311 ∈ pm_ws := pm_memk 4 (List.mem_of_getElem? (i := 26) rfl) rfl
set_option maxRecDepth 20000 in
theorem pm_c312 : pm_codew 312 ∈ pm_ws := pm_memk 4 (List.mem_of_getElem? (i := 61) rfl) rfl
set_option maxRecDepth 20000 in
theorem pm_c313 : pm_codew 313 ∈ pm_ws := pm_memk 4 (List.mem_of_getElem? (i := 91) rfl) rfl
set_option maxRecDepth 20000 in
theorem pm_c314 : pm_codew 314 ∈ pm_ws := pm_memk 4 (List.mem_of_getElem? (i := 99) rfl) rfl
set_option maxRecDepth 20000 in
theorem pm_c315 : pm_codew 315 ∈ pm_ws := pm_memk 4 (List.mem_of_getElem? (i := 112) rfl) rfl
set_option maxRecDepth 20000 in
theorem pm_c316 : pm_codew 316 ∈ pm_ws := pm_memk 4 (List.mem_of_getElem? (i := 125) rfl) rfl
set_option maxRecDepth 20000 in
theorem pm_c317 : pm_codew 317 ∈ pm_ws := pm_memk 4 (List.mem_of_getElem? (i := 136) rfl) rfl
set_option maxRecDepth 20000 in
theorem pm_c318 : pm_codew 318 ∈ pm_ws := pm_memk 4 (List.mem_of_getElem? (i := 153) rfl) rfl
set_option maxRecDepth 20000 in
theorem pm_c319 : pm_codew 319 ∈ pm_ws := pm_memk 4 (List.mem_of_getElem? (i := 162) rfl) rfl
set_option maxRecDepth 20000 in
theorem pm_c320 : pm_codew 320 ∈ pm_ws := pm_memk 4 (List.mem_of_getElem? (i := 170) rfl) rfl
set_option maxRecDepth 20000 in
theorem pm_c321 : pm_codew 321 ∈ pm_ws := pm_memk 4 (List.mem_of_getElem? (i := 181) rfl) rfl
set_option maxRecDepth 20000 in
theorem pm_c322 : pm_codew 322 ∈ pm_ws := pm_memk 4 (List.mem_of_getElem? (i := 199) rfl) rfl
set_option maxRecDepth 20000 in
theorem pm_c323 : pm_codew 323 ∈ pm_ws := pm_memk 4 (List.mem_of_getElem? (i := 209) rfl) rfl
set_option maxRecDepth 20000 in
theorem pm_c324 : pm_codew 324 ∈ pm_ws := pm_memk 4 (List.mem_of_getElem? (i := 221) rfl) rfl
set_option maxRecDepth 20000 in
theorem pm_c325 : pm_codew 325 ∈ pm_ws := pm_memk 4 (List.mem_of_getElem? (i := 228) rfl) rfl
set_option maxRecDepth 20000 in
theorem pm_c326 : pm_codew 326 ∈ pm_ws := pm_memk 4 (List.mem_of_getElem? (i := 235) rfl) rfl
set_option maxRecDepth 20000 in
theorem pm_c327 : pm_codew 327 ∈ pm_ws := pm_memk 5 (List.mem_of_getElem? (i := 2) rfl) rfl
set_option maxRecDepth 20000 in
theorem pm_c328 : pm_codew 328 ∈ pm_ws := pm_memk 5 (List.mem_of_getElem? (i := 11) rfl) rfl
set_option maxRecDepth 20000 in
theorem pm_c329 : pm_codew 329 ∈ pm_ws := pm_memk 5 (List.mem_of_getElem? (i := 19) rfl) rfl
set_option maxRecDepth 20000 in
theorem pm_c330 : pm_codew 330 ∈ pm_ws := pm_memk 5 (List.mem_of_getElem? (i := 27) rfl) rfl
set_option maxRecDepth 20000 in
theorem pm_c331 : pm_codew 331 ∈ pm_ws := pm_memk 5 (List.mem_of_getElem? (i := 34) rfl) rfl
set_option maxRecDepth 20000 in
theorem pm_c332 : pm_codew 332 ∈ pm_ws := pm_memk 5 (List.mem_of_getElem? (i := 42) rfl) rfl
set_option maxRecDepth 20000 in
theorem pm_c333 : pm_codew 333 ∈ pm_ws := pm_memk 5 (List.mem_of_getElem? (i := 49) rfl) rfl
set_option maxRecDepth 20000 in
theorem pm_c334 : pm_codew 334 ∈ pm_ws := pm_memk 5 (List.mem_of_getElem? (i := 56) rfl) rfl
set_option maxRecDepth 20000 in
theorem pm_c335 : pm_codew 335 ∈ pm_ws := pm_memk 5 (List.mem_of_getElem? (i := 63) rfl) rfl
set_option maxRecDepth 20000 in
theorem pm_c336 : pm_codew 336 ∈ pm_ws := pm_memk 5 (List.mem_of_getElem? (i := 70) rfl) rfl
set_option maxRecDepth 20000 in
theorem pm_c337 : pm_codew 337 ∈ pm_ws := pm_memk 5 (List.mem_of_getElem? (i := 79) rfl) rfl
theorem pm_cb0 : ∀ m, 0 ≤ m → m < 16 → pm_codew m ∈ pm_ws := by
  intro m h1 h2
  rcases (show m = 0 ∨ m = 1 ∨ m = 2 ∨ m = 3 ∨ m = 4 ∨ m = 5 ∨ m = 6 ∨ m = 7 ∨ m = 8 ∨ m = 9 ∨ m = 10 ∨ m = 11 ∨ m = 12 ∨ m = 13 ∨ m = 14 ∨ m = 15 by omega) with rfl | rfl | rfl | rfl | rfl | rfl | rfl | rfl | rfl | rfl | rfl | rfl | rfl | rfl | rfl | rfl
  · exact pm_c0
  · exact pm_c1
  · exact pm_c2
  · exact pm_c3
  · exact pm_c4
  · exact pm_c5
  · exact pm_c6
  · exact pm_c7
  · exact pm_c8
  · exact pm_c9
  · exact pm_c10
  · exact pm_c11
  · exact pm_c12
  · exact pm_c13
  · exact pm_c14
  · exact pm_c15
theorem pm_cb16 : ∀ m, 16 ≤ m → m < 32 → pm_codew m ∈ pm_ws := by
  intro m h1 h2
  rcases (show m = 16 ∨ m = 17 ∨ m = 18 ∨ m = 19 ∨ m = 20 ∨ m = 21 ∨ m = 22 ∨ m = 23 ∨ m = 24 ∨ m = 25 ∨ m = 26 ∨ m = 27 ∨ m = 28 ∨ m = 29 ∨ m = 30 ∨ m = 31 by omega) with rfl | rfl | rfl | rfl | rfl | rfl | rfl | rfl | rfl | rfl | rfl | rfl | rfl | rfl | rfl | rfl
  · exact pm_c16
  · exact pm_c17
  · exact pm_c18
  · exact pm_c19
  · exact pm_c20
  · exact pm_c21
  · exact pm_c22
  · exact pm_c23
  · exact pm_c24
  · exact pm_c25
  · exact pm_c26
  · exact pm_c27
  · exact pm_c28
  · exact pm_c29
  · exact pm_c30
  · exact pm_c31
theorem pm_cb32 : ∀ m, 32 ≤ m → m < 48 → pm_codew m ∈ pm_ws := by
  intro m h1 h2
  rcases (show m = 32 ∨ m = 33 ∨ m = 34 ∨ m = 35 ∨ m = 36 ∨ m = 37 ∨ m = 38 ∨ m = 39 ∨ m = 40 ∨ m = 41 ∨ m = 42 ∨ m = 43 ∨ m = 44 ∨ m = 45 ∨ m = 46 ∨ m = 47 by omega) with rfl | rfl | rfl | rfl | rfl | rfl | rfl | rfl | rfl | rfl | rfl | rfl | rfl | rfl | rfl | rfl
  · exact pm_c32
  · exact pm_c33
  · exact pm_c34
  · exact pm_c35
  · exact pm_c36
  · exact pm_c37
  · exact pm_c38
  · exact pm_c39
  · exact pm_c40
  · exact pm_c41
  · exact pm_c42
  · exact pm_c43
  · exact pm_c44
  · exact pm_c45
  · exact pm_c46
  · exact pm_c47
theorem pm_cb48 : ∀ m, 48 ≤ m → m < 64 → pm_codew m ∈ pm_ws := by
  intro m h1 h2
  rcases (show m = 48 ∨ m = 49 ∨ m = 50 ∨ m = 51 ∨ m = 52 ∨ m = 53 ∨ m = 54 ∨ m = 55 ∨ m = 56 ∨ m = 57 ∨ m = 58 ∨ m = 59 ∨ m = 60 ∨ m = 61 ∨ m = 62 ∨ m = 63 by omega) with rfl | rfl | rfl | rfl | rfl | rfl | rfl | rfl | rfl | rfl | rfl | rfl | rfl | rfl | rfl | rfl
  · exact pm_c48
  · exact pm_c49
  · exact pm_c50
  · exact pm_c51
  · exact pm_c52
  · exact pm_c53
  · exact pm_c54
  · exact pm_c55
  · exact pm_c56
  · exact pm_c57
  · exact pm_c58
  · exact pm_c59
  · exact pm_c60
  · exact pm_c61
  · exact pm_c62
  · exact pm_c63
theorem pm_cb64 : ∀ m, 64 ≤ m → m < 80 → pm_codew m ∈ pm_ws := by
  intro m h1 h2
  rcases (show m = 64 ∨ m = 65 ∨ m = 66 ∨ m = 67 ∨ m = 68 ∨ m = 69 ∨ m = 70 ∨ m = 71 ∨ m = 72 ∨ m = 73 ∨ m = 74 ∨ m = 75 ∨ m = 76 ∨ m = 77 ∨ m = 78 ∨ m = 79 by omega) with rfl | rfl | rfl | rfl | rfl | rfl | rfl | rfl | rfl | rfl | rfl | rfl | rfl | rfl | rfl | rfl
  · exact pm_c64
  · exact pm_c65
  · exact pm_c66
  · exact pm_c67
  · exact pm_c68
  · exact pm_c69
  · exact pm_c70
  · exact pm_c71
  · exact pm_c72
  · exact pm_c73
  · exact pm_c74
  · exact pm_c75
  · exact pm_c76
  · exact pm_c77
  · exact pm_c78
  · exact pm_c79
theorem pm_cb80 : ∀ m, 80 ≤ m → m < 96 → pm_codew m ∈ pm_ws := by
  intro m h1 h2
  rcases (show m = 80 ∨ m = 81 ∨ m = 82 ∨ m = 83 ∨ m = 84 ∨ m = 85 ∨ m = 86 ∨ m = 87 ∨ m = 88 ∨ m = 89 ∨ m = 90 ∨ m = 91 ∨ m = 92 ∨ m = 93 ∨ m = 94 ∨ m = 95 by omega) with rfl | rfl | rfl | rfl | rfl | rfl | rfl | rfl | rfl | rfl | rfl | rfl | rfl | rfl | rfl | rfl
  · exact pm_c80
  · exact pm_c81
  · exact pm_c82
  · exact pm_c83
  · exact pm_c84
  · exact pm_c85
  · exact pm_c86
  · exact pm_c87
  · exact pm_c88
  · exact pm_c89
  · exact pm_c90
  · exact pm_c91
  · exact pm_c92
  · exact pm_c93
  · exact pm_c94
  · exact pm_c95
theorem pm_cb96 : ∀ m, 96 ≤ m → m < 112 → pm_codew m ∈ pm_ws := by
  intro m h1 h2
  rcases (show m = 96 ∨ m = 97 ∨ m = 98 ∨ m = 99 ∨ m = 100 ∨ m = 101 ∨ m = 102 ∨ m = 103 ∨ m = 104 ∨ m = 105 ∨ m = 106 ∨ m = 107 ∨ m = 108 ∨ m = 109 ∨ m = 110 ∨ m = 111 by omega) with rfl | rfl | rfl | rfl | rfl | rfl | rfl | rfl | rfl | rfl | rfl | rfl | rfl | rfl | rfl | rfl
  · exact pm_c96
  · exact pm_c97
  · exact pm_c98
  · exact pm_c99
  · exact pm_c100
  · exact pm_c101
  · exact pm_c102
  · exact pm_c103
  · exact pm_c104
  · exact pm_c105
  · exact pm_c106
  · exact pm_c107
  · exact pm_c108
  · exact pm_c109
  · exact pm_c110
  · exact pm_c111
theorem pm_cb112 : ∀ m, 112 ≤ m → m < 128 → pm_codew m ∈ pm_ws := by
  intro m h1 h2
  rcases (show m = 112 ∨ m = 113 ∨ m = 114 ∨ m = 115 ∨ m = 116 ∨ m = 117 ∨ m = 118 ∨ m = 119 ∨ m = 120 ∨ m = 121 ∨ m = 122 ∨ m = 123 ∨ m = 124 ∨ m = 125 ∨ m = 126 ∨ m = 127 by omega) with rfl | rfl | rfl | rfl | rfl | rfl | rfl | rfl | rfl | rfl | rfl | rfl | rfl | rfl | rfl | rfl
  · exact pm_c112
  · exact pm_c113
  · exact pm_c114
  · exact pm_c115
  · exact pm_c116
  · exact pm_c117
  · exact pm_c118
  · exact pm_c119
  · exact pm_c120
  · exact pm_c121
  · exact pm_c122
  · exact pm_c123
  · exact pm_c124
  · exact pm_c125
  · exact pm_c126
  · exact pm_c127
theorem pm_cb128 : ∀ m, 128 ≤ m → m < 144 → pm_codew m ∈ pm_ws := by
  intro m h1 h2
  rcases (show m = 128 ∨ m = 129 ∨ m = 130 ∨ m = 131 ∨ m = 132 ∨ m = 133 ∨ m = 134 ∨ m = 135 ∨ m = 136 ∨ m = 137 ∨ m = 138 ∨ m = 139 ∨ m = 140 ∨ m = 141 ∨ m = 142 ∨ m = 143 by omega) with rfl | rfl | rfl | rfl | rfl | rfl | rfl | rfl | rfl | rfl | rfl | rfl | rfl | rfl | rfl | rfl
  · exact pm_c128
  · exact pm_c129
  · exact pm_c130
  · exact pm_c131
  · exact pm_c132
  · exact pm_c133
  · exact pm_c134
  · exact pm_c135
  · exact pm_c136
  · exact pm_c137
  · exact pm_c138
  · exact pm_c139
  · exact pm_c140
  · exact pm_c141
  · exact pm_c142
  · exact pm_c143
theorem pm_cb144 : ∀ m, 144 ≤ m → m < 160 → pm_codew m ∈ pm_ws := by
  intro m h1 h2
  rcases (show m = 144 ∨ m = 145 ∨ m = 146 ∨ m = 147 ∨ m = 148 ∨ m = 149 ∨ m = 150 ∨ m = 151 ∨ m = 152 ∨ m = 153 ∨ m = 154 ∨ m = 155 ∨ m = 156 ∨ m = 157 ∨ m = 158 ∨ m = 159 by omega) with rfl | rfl | rfl | rfl | rfl | rfl | rfl | rfl | rfl | rfl | rfl | rfl | rfl | rfl | rfl | rfl
  · exact pm_c144
  · exact pm_c145
  · exact pm_c146
  · exact pm_c147
  · exact pm_c148
  · exact pm_c149
  · exact pm_c150
  · exact pm_c151
  · exact pm_c152
  · exact pm_c153
  · exact pm_c154
  · exact pm_c155
  · exact pm_c156
  · exact pm_c157
  · exact pm_c158
  · exact pm_c159
theorem pm_cb160 : ∀ m, 160 ≤ m → m < 176 → pm_codew m ∈ pm_ws := by
  intro m h1 h2
  rcases (show m = 160 ∨ m = 161 ∨ m = 162 ∨ m = 163 ∨ m = 164 ∨ m = 165 ∨ m = 166 ∨ m = 167 ∨ m = 168 ∨ m = 169 ∨ m = 170 ∨ m = 171 ∨ m = 172 ∨ m = 173 ∨ m = 174 ∨ m = 175 by omega) with rfl | rfl | rfl | rfl | rfl | rfl | rfl | rfl | rfl | rfl | rfl | rfl | rfl | rfl | rfl | rfl
  · exact pm_c160
  · exact pm_c161
  · exact pm_c162
  · exact pm_c163
  · exact pm_c164
  · exact pm_c165
  · exact pm_c166
  · exact pm_c167
  · exact pm_c168
  · exact pm_c169
  · exact pm_c170
  · exact pm_c171
  · exact pm_c172
  · exact pm_c173
  · exact pm_c174
  · exact pm_c175
theorem pm_cb176 : ∀ m, 176 ≤ m → m < 192 → pm_codew m ∈ pm_ws := by
  intro m h1 h2
  rcases (show m = 176 ∨ m = 177 ∨ m = 178 ∨ m = 179 ∨ m = 180 ∨ m = 181 ∨ m = 182 ∨ m = 183 ∨ m = 184 ∨ m = 185 ∨ m = 186 ∨ m = 187 ∨ m = 188 ∨ m = 189 ∨ m = 190 ∨ m = 191 by omega) with rfl | rfl | rfl | rfl | rfl | rfl | rfl | rfl | rfl | rfl | rfl | rfl | rfl | rfl | rfl | rfl
  · exact pm_c176
  · exact pm_c177
  · exact pm_c178
  · exact pm_c179
  · exact pm_c180
  · exact pm_c181
  · exact pm_c182
  · exact pm_c183
  · exact pm_c184
  · exact pm_c185
  · exact pm_c186
  · exact pm_c187
  · exact pm_c188
  · exact pm_c189
  · exact pm_c190
  · exact pm_c191
theorem pm_cb192 : ∀ m, 192 ≤ m → m < 208 → pm_codew m ∈ pm_ws := by
  intro m h1 h2
  rcases (show m = 192 ∨ m = 193 ∨ m = 194 ∨ m = 195 ∨ m = 196 ∨ m = 197 ∨ m = 198 ∨ m = 199 ∨ m = 200 ∨ m = 201 ∨ m = 202 ∨ m = 203 ∨ m = 204 ∨ m = 205 ∨ m = 206 ∨ m = 207 by omega) with rfl | rfl | rfl | rfl | rfl | rfl | rfl | rfl | rfl | rfl | rfl | rfl | rfl | rfl | rfl | rfl
  · exact pm_c192
  · exact pm_c193
  · exact pm_c194
  · exact pm_c195
  · exact pm_c196
  · exact pm_c197
  · exact pm_c198
  · exact pm_c199
  · exact pm_c200
  · exact pm_c201
  · exact pm_c202
  · exact pm_c203
  · exact pm_c204
  · exact pm_c205
  · exact pm_c206
  · exact pm_c207
theorem pm_cb208 : ∀ m, 208 ≤ m → m < 224 → pm_codew m ∈ pm_ws := by
  intro m h1 h2
  rcases (show m = 208 ∨ m = 209 ∨ m = 210 ∨ m = 211 ∨ m = 212 ∨ m = 213 ∨ m = 214 ∨ m = 215 ∨ m = 216 ∨ m = 217 ∨ m = 218 ∨ m = 219 ∨ m = 220 ∨ m = 221 ∨ m = 222 ∨ m = 223 by omega) with rfl | rfl | rfl | rfl | rfl | rfl | rfl | rfl | rfl | rfl | rfl | rfl | rfl | rfl | rfl | rfl
  · exact pm_c208
  · exact pm_c209
  · exact pm_c210
  · exact pm_c211
  · exact pm_c212
  · exact pm_c213
  · exact pm_c214
  · exact pm_c215
  · exact pm_c216
  · exact pm_c217
  · exact pm_c218
  · exact pm_c219
  · exact pm_c220
  · exact pm_c221
  · exact pm_c222
  · exact pm_c223
theorem pm_cb224 : ∀ m, 224 ≤ m → m < 240 → pm_codew m ∈ pm_ws := by
  intro m h1 h2
  rcases (show m = 224 ∨ m = 225 ∨ m = 226 ∨ m = 227 ∨ m = 228 ∨ m = 229 ∨ m = 230 ∨ m = 231 ∨ m = 232 ∨ m = 233 ∨ m = 234 ∨ m = 235 ∨ m = 236 ∨ m = 237 ∨ m = 238 ∨ m = 239 by omega) with rfl | rfl | rfl | rfl | rfl | rfl | rfl | rfl | rfl | rfl | rfl | rfl | rfl | rfl | rfl | rfl
  · exact pm_c224
  · exact pm_c225
  · exact pm_c226
  · exact pm_c227
  · exact pm_c228
  · exact pm_c229
  · exact pm_c230
  · exact pm_c231
  · exact pm_c232
  · exact pm_c233
  · exact pm_c234
  · exact pm_c235
  · exact pm_c236
  · exact pm_c237
  · exact pm_c238
  · exact pm_c239
theorem pm_cb240 : ∀ m, 240 ≤ m → m < 256 → pm_codew m ∈ pm_ws := by
  intro m h1 h2
  rcases (show m = 240 ∨ m = 241 ∨ m = 242 ∨ m = 243 ∨ m = 244 ∨ m = 245 ∨ m = 246 ∨ m = 247 ∨ m = 248 ∨ m = 249 ∨ m = 250 ∨ m = 251 ∨ m = 252 ∨ m = 253 ∨ m = 254 ∨ m = 255 by omega) with rfl | rfl | rfl | rfl | rfl | rfl | rfl | rfl | rfl | rfl | rfl | rfl | rfl | rfl | rfl | rfl
  · exact pm_c240
  · exact pm_c241
  · exact pm_c242
  · exact pm_c243
  · exact pm_c244
  · exact pm_c245
  · exact pm_c246
  · exact pm_c247
  · exact pm_c248
  · exact pm_c249
  · exact pm_c250
  · exact pm_c251
  · exact pm_c252
  · exact pm_c253
  · exact pm_c254
  · exact pm_c255
theorem pm_cb256 : ∀ m, 256 ≤ m → m < 272 → pm_codew m ∈ pm_ws := by
  intro m h1 h2
  rcases (show m = 256 ∨ m = 257 ∨ m = 258 ∨ m = 259 ∨ m = 260 ∨ m = 261 ∨ m = 262 ∨ m = 263 ∨ m = 264 ∨ m = 265 ∨ m = 266 ∨ m = 267 ∨ m = 268 ∨ m = 269 ∨ m = 270 ∨ m = 271 by omega) with rfl | rfl | rfl | rfl | rfl | rfl | rfl | rfl | rfl | rfl | rfl | rfl | rfl | rfl | rfl | rfl
  · exact pm_c256
  · exact pm_c257
  · exact pm_c258
  · exact pm_c259
  · exact pm_c260
  · exact pm_c261
  · exact pm_c262
  · exact pm_c263
  · exact pm_c264
  · exact pm_c265
  · exact pm_c266
  · exact pm_c267
  · exact pm_c268
  · exact pm_c269
  · exact pm_c270
  · exact pm_c271
theorem pm_cb272 : ∀ m, 272 ≤ m → m < 288 → pm_codew m ∈ pm_ws := by
  intro m h1 h2
  rcases (show m = 272 ∨ m = 273 ∨ m = 274 ∨ m = 275 ∨ m = 276 ∨ m = 277 ∨ m = 278 ∨ m = 279 ∨ m = 280 ∨ m = 281 ∨ m = 282 ∨ m = 283 ∨ m = 284 ∨ m = 285 ∨ m = 286 ∨ m = 287 by omega) with rfl | rfl | rfl | rfl | rfl | rfl | rfl | rfl | rfl | rfl | rfl | rfl | rfl | rfl | rfl | rfl
  · exact pm_c272
  · exact pm_c273
  · exact pm_c274
  · exact pm_c275
  · exact pm_c276
  · exact pm_c277
  · exact pm_c278
  · exact pm_c279
  · exact pm_c280
  · exact pm_c281
  · exact pm_c282
  · exact pm_c283
  · exact pm_c284
  · exact pm_c285
  · exact pm_c286
  · exact pm_c287
theorem pm_cb288 : ∀ m, 288 ≤ m → m < 304 → pm_codew m ∈ pm_ws := by
  intro m h1 h2
  rcases (show m = 288 ∨ m = 289 ∨ m = 290 ∨ m = 291 ∨ m = 292 ∨ m = 293 ∨ m = 294 ∨ m = 295 ∨ m = 296 ∨ m = 297 ∨ m = 298 ∨ m = 299 ∨ m = 300 ∨ m = 301 ∨ m = 302 ∨ m = 303 by omega) with rfl | rfl | rfl | rfl | rfl | rfl | rfl | rfl | rfl | rfl | rfl | rfl | rfl | rfl | rfl | rfl
  · exact pm_c288
  · exact pm_c289
  · exact pm_c290
  · exact pm_c291
  · exact pm_c292
  · exact pm_c293
  · exact pm_c294
  · exact pm_c295
  · exact pm_c296
  · exact pm_c297
  · exact pm_c298
  · exact pm_c299
  · exact pm_c300
  · exact pm_c301
  · exact pm_c302
  · exact pm_c303
theorem pm_cb304 : ∀ m, 304 ≤ m → m < 320 → pm_codew m ∈ pm_ws := by
  intro m h1 h2
  rcases (show m = 304 ∨ m = 305 ∨ m = 306 ∨ m = 307 ∨ m = 308 ∨ m = 309 ∨ m = 310 ∨ m = 311 ∨ m = 312 ∨ m = 313 ∨ m = 314 ∨ m = 315 ∨ m = 316 ∨ m = 317 ∨ m = 318 ∨ m = 319 by omega) with rfl | rfl | rfl | rfl | rfl | rfl | rfl | rfl | rfl | rfl | rfl | rfl | rfl | rfl | rfl | rfl
  · exact pm_c304
  · exact pm_c305
  · exact pm_c306
  · exact pm_c307
  · exact pm_c308
  · exact pm_c309
  · exact pm_c310
  · exact pm_c311
  · exact pm_c312
  · exact pm_c313
  · exact pm_c314
  · exact pm_c315
  · exact pm_c316
  · exact pm_c317
  · exact pm_c318
  · exact pm_c319
theorem pm_cb320 : ∀ m, 320 ≤ m → m < 336 → pm_codew m ∈ pm_ws := by
  intro m h1 h2
  rcases (show m = 320 ∨ m = 321 ∨ m = 322 ∨ m = 323 ∨ m = 324 ∨ m = 325 ∨ m = 326 ∨ m = 327 ∨ m = 328 ∨ m = 329 ∨ m = 330 ∨ m = 331 ∨ m = 332 ∨ m = 333 ∨ m = 334 ∨ m = 335 by omega) with rfl | rfl | rfl | rfl | rfl | rfl | rfl | rfl | rfl | rfl | rfl | rfl | rfl | rfl | rfl | rfl
  · exact pm_c320
  · exact pm_c321
  · exact pm_c322
  · exact pm_c323
  · exact pm_c324
  · exact pm_c325
  · exact pm_c326
  · exact pm_c327
  · exact pm_c328
  · exact pm_c329
  · exact pm_c330
  · exact pm_c331
  · exact pm_c332
  · exact pm_c333
  · exact pm_c334
  · exact pm_c335
theorem pm_cb336 : ∀ m, 336 ≤ m → m < 338 → pm_codew m ∈ pm_ws := by
  intro m h1 h2
  rcases (show m = 336 ∨ m = 337 by omega) with rfl | rfl
  · exact pm_c336
  · exact pm_c337
theorem pm_M1 : ∀ m, m < pm_nM → pm_codew m ∈ pm_ws := by
  intro m hm
  unfold pm_nM at hm
  if h0 : m < 16 then exact pm_cb0 m (by omega) h0 else
  if h16 : m < 32 then exact pm_cb16 m (by omega) h16 else
  if h32 : m < 48 then exact pm_cb32 m (by omega) h32 else
  if h48 : m < 64 then exact pm_cb48 m (by omega) h48 else
  if h64 : m < 80 then exact pm_cb64 m (by omega) h64 else
  if h80 : m < 96 then exact pm_cb80 m (by omega) h80 else
  if h96 : m < 112 then exact pm_cb96 m (by omega) h96 else
  if h112 : m < 128 then exact pm_cb112 m (by omega) h112 else
  if h128 : m < 144 then exact pm_cb128 m (by omega) h128 else
  if h144 : m < 160 then exact pm_cb144 m (by omega) h144 else
  if h160 : m < 176 then exact pm_cb160 m (by omega) h160 else
  if h176 : m < 192 then exact pm_cb176 m (by omega) h176 else
  if h192 : m < 208 then exact pm_cb192 m (by omega) h192 else
  if h208 : m < 224 then exact pm_cb208 m (by omega) h208 else
  if h224 : m < 240 then exact pm_cb224 m (by omega) h224 else
  if h240 : m < 256 then exact pm_cb240 m (by omega) h240 else
  if h256 : m < 272 then exact pm_cb256 m (by omega) h256 else
  if h272 : m < 288 then exact pm_cb272 m (by omega) h272 else
  if h288 : m < 304 then exact pm_cb288 m (by omega) h288 else
  if h304 : m < 320 then exact pm_cb304 m (by omega) h304 else
  if h320 : m < 336 then exact pm_cb320 m (by omega) h320 else
  if h336 : m < 338 then exact pm_cb336 m (by omega) h336 else
  exact absurd hm (by omega)
theorem pm_M2_0 : ((List.range 60).map (· + 0)).all pm_Mc2 = true := by decide +kernel
theorem pm_M2_60 : ((List.range 60).map (· + 60)).all pm_Mc2 = true := by decide +kernel
theorem pm_M2_120 : ((List.range 60).map (· + 120)).all pm_Mc2 = true := by decide +kernel
theorem pm_M2_180 : ((List.range 60).map (· + 180)).all pm_Mc2 = true := by decide +kernel
theorem pm_M2_240 : ((List.range 60).map (· + 240)).all pm_Mc2 = true := by decide +kernel
theorem pm_M2_300 : ((List.range 38).map (· + 300)).all pm_Mc2 = true := by decide +kernel
theorem pm_M2 : ∀ m, m < pm_nM → pm_Mc2 m = true := by
  intro m hm
  unfold pm_nM at hm
  if h0 : m < 60 then exact List.all_eq_true.mp pm_M2_0 m (List.mem_map.mpr ⟨m - 0, List.mem_range.mpr (by omega), by omega⟩) else
  if h60 : m < 120 then exact List.all_eq_true.mp pm_M2_60 m (List.mem_map.mpr ⟨m - 60, List.mem_range.mpr (by omega), by omega⟩) else
  if h120 : m < 180 then exact List.all_eq_true.mp pm_M2_120 m (List.mem_map.mpr ⟨m - 120, List.mem_range.mpr (by omega), by omega⟩) else
  if h180 : m < 240 then exact List.all_eq_true.mp pm_M2_180 m (List.mem_map.mpr ⟨m - 180, List.mem_range.mpr (by omega), by omega⟩) else
  if h240 : m < 300 then exact List.all_eq_true.mp pm_M2_240 m (List.mem_map.mpr ⟨m - 240, List.mem_range.mpr (by omega), by omega⟩) else
  if h300 : m < 338 then exact List.all_eq_true.mp pm_M2_300 m (List.mem_map.mpr ⟨m - 300, List.mem_range.mpr (by omega), by omega⟩) else
  exact absurd hm (by omega)
theorem pm_M3_0 : ((List.range 60).map (· + 0)).all pm_Mc3 = true := by decide +kernel
theorem pm_M3_60 : ((List.range 60).map (· + 60)).all pm_Mc3 = true := by decide +kernel
theorem pm_M3_120 : ((List.range 60).map (· + 120)).all pm_Mc3 = true := by decide +kernel
theorem pm_M3_180 : ((List.range 60).map (· + 180)).all pm_Mc3 = true := by decide +kernel
theorem pm_M3_240 : ((List.range 60).map (· + 240)).all pm_Mc3 = true := by decide +kernel
theorem pm_M3_300 : ((List.range 38).map (· + 300)).all pm_Mc3 = true := by decide +kernel
theorem pm_M3 : ∀ m, m < pm_nM → pm_Mc3 m = true := by
  intro m hm
  unfold pm_nM at hm
  if h0 : m < 60 then exact List.all_eq_true.mp pm_M3_0 m (List.mem_map.mpr ⟨m - 0, List.mem_range.mpr (by omega), by omega⟩) else
  if h60 : m < 120 then exact List.all_eq_true.mp pm_M3_60 m (List.mem_map.mpr ⟨m - 60, List.mem_range.mpr (by omega), by omega⟩) else
  if h120 : m < 180 then exact List.all_eq_true.mp pm_M3_120 m (List.mem_map.mpr ⟨m - 120, List.mem_range.mpr (by omega), by omega⟩) else
  if h180 : m < 240 then exact List.all_eq_true.mp pm_M3_180 m (List.mem_map.mpr ⟨m - 180, List.mem_range.mpr (by omega), by omega⟩) else
  if h240 : m < 300 then exact List.all_eq_true.mp pm_M3_240 m (List.mem_map.mpr ⟨m - 240, List.mem_range.mpr (by omega), by omega⟩) else
  if h300 : m < 338 then exact List.all_eq_true.mp pm_M3_300 m (List.mem_map.mpr ⟨m - 300, List.mem_range.mpr (by omega), by omega⟩) else
  exact absurd hm (by omega)
theorem pm_M4_0 : ((List.range 60).map (· + 0)).all pm_Mc4 = true := by decide +kernel
theorem pm_M4_60 : ((List.range 60).map (· + 60)).all pm_Mc4 = true := by decide +kernel
theorem pm_M4_120 : ((List.range 60).map (· + 120)).all pm_Mc4 = true := by decide +kernel
theorem pm_M4_180 : ((List.range 60).map (· + 180)).all pm_Mc4 = true := by decide +kernel
theorem pm_M4_240 : ((List.range 60).map (· + 240)).all pm_Mc4 = true := by decide +kernel
theorem pm_M4_300 : ((List.range 38).map (· + 300)).all pm_Mc4 = true := by decide +kernel
theorem pm_M4 : ∀ m, m < pm_nM → pm_Mc4 m = true := by
  intro m hm
  unfold pm_nM at hm
  if h0 : m < 60 then exact List.all_eq_true.mp pm_M4_0 m (List.mem_map.mpr ⟨m - 0, List.mem_range.mpr (by omega), by omega⟩) else
  if h60 : m < 120 then exact List.all_eq_true.mp pm_M4_60 m (List.mem_map.mpr ⟨m - 60, List.mem_range.mpr (by omega), by omega⟩) else
  if h120 : m < 180 then exact List.all_eq_true.mp pm_M4_120 m (List.mem_map.mpr ⟨m - 120, List.mem_range.mpr (by omega), by omega⟩) else
  if h180 : m < 240 then exact List.all_eq_true.mp pm_M4_180 m (List.mem_map.mpr ⟨m - 180, List.mem_range.mpr (by omega), by omega⟩) else
  if h240 : m < 300 then exact List.all_eq_true.mp pm_M4_240 m (List.mem_map.mpr ⟨m - 240, List.mem_range.mpr (by omega), by omega⟩) else
  if h300 : m < 338 then exact List.all_eq_true.mp pm_M4_300 m (List.mem_map.mpr ⟨m - 300, List.mem_range.mpr (by omega), by omega⟩) else
  exact absurd hm (by omega)
def pm_ML : List (Nat × Nat × Nat × Nat × Nat) := [(10, 109, 96, 0, 143), (10, 130, 100, 0, 197), (10, 134, 101, 0, 201), (10, 138, 102, 0, 205), (10, 142, 103, 0, 209), (10, 146, 104, 0, 213), (10, 180, 114, 0, 217), (10, 184, 115, 0, 221), (10, 213, 124, 0, 225), (10, 217, 125, 0, 229), (10, 221, 126, 0, 233), (10, 249, 135, 0, 237), (10, 253, 136, 0, 241), (10, 257, 137, 0, 245), (10, 261, 138, 0, 249), (10, 265, 139, 0, 253), (10, 272, 141, 0, 257), (8, 67, 5, 0, 263), (8, 333, 7, 0, 494), (1, 69, 49, 0, 498), (3, 63, 44, 0, 505), (3, 67, 294, 0, 508), (1, 73, 2, 0, 511), (1, 76, 74, 0, 516), (1, 79, 63, 0, 521), (8, 337, 294, 0, 527), (8, 189, 16, 0, 528), (1, 192, 17, 0, 533), (1, 207, 295, 0, 537), (1, 216, 58, 0, 540), (3, 106, 42, 0, 545), (3, 116, 59, 0, 548), (3, 122, 60, 0, 552), (3, 126, 290, 0, 556), (3, 94, 50, 0, 559), (3, 120, 295, 0, 564), (1, 223, 293, 0, 565), (1, 195, 18, 0, 568), (1, 157, 4, 0, 572), (1, 226, 77, 0, 576), (5, 61, 45, 0, 580), (5, 71, 46, 0, 583), (5, 67, 47, 0, 586), (1, 175, 45, 0, 589), (1, 229, 69, 0, 590), (1, 232, 19, 0, 594), (1, 121, 64, 0, 598), (1, 239, 65, 0, 602), (1, 134, 42, 0, 606), (1, 148, 43, 0, 607), (1, 242, 53, 0, 610), (3, 90, 54, 0, 614), (1, 248, 24, 0, 618), (1, 289, 67, 0, 622), (4, 58, 289, 0, 626), (1, 263, 13, 0, 632), (1, 154, 70, 0, 636), (1, 144, 51, 0, 640), (3, 80, 293, 0, 645), (1, 179, 47, 0, 646), (1, 236, 20, 0, 647), (1, 260, 66, 0, 651), (1, 185, 78, 0, 655), (5, 74, 79, 0, 659), (5, 78, 292, 0, 663), (1, 198, 21, 0, 666), (1, 275, 9, 0, 670), (1, 82, 38, 0, 674), (1, 88, 39, 0, 678), (2, 104, 38, 0, 682), (2, 108, 40, 0, 683), (1, 91, 75, 0, 687), (1, 95, 10, 0, 691), (1, 105, 12, 0, 695), (1, 138, 44, 0, 699), (1, 99, 40, 0, 700), (1, 114, 11, 0, 701), (1, 128, 79, 0, 705), (1, 172, 22, 0, 706), (1, 285, 23, 0, 710), (1, 288, 68, 0, 714), (1, 201, 25, 0, 718), (1, 292, 57, 0, 722), (3, 112, 56, 0, 726), (1, 296, 26, 0, 730), (1, 169, 52, 0, 734), (1, 299, 3, 0, 738), (0, 45, 291, 0, 742), (1, 308, 55, 0, 745), (10, 276, 142, 0, 749), (8, 340, 71, 0, 753), (4, 64, 64, 0, 757), (8, 343, 292, 0, 758), (10, 113, 309, 0, 759), (10, 7, 97, 0, 763), (8, 38, 81, 0, 834), (10, 123, 310, 0, 838), (10, 15, 98, 0, 842), (8, 50, 82, 0, 922), (6, 37, 294, 0, 926), (6, 43, 84, 0, 927), (6, 46, 83, 0, 931), (8, 53, 28, 0, 934), (2, 47, 87, 0, 939), (6, 59, 86, 0, 943), (6, 50, 296, 0, 947), (13, 335, 298, 0, 951), (6, 55, 297, 0, 957), (13, 492, 299, 0, 961), (13, 495, 301, 0, 965), (14, 9, 300, 0, 968), (13, 1059, 308, 0, 973), (13, 498, 304, 0, 976), (15, 67, 305, 0, 979), (15, 48, 303, 0, 982), (15, 414, 300, 0, 985), (15, 71, 302, 0, 986), (6, 63, 85, 0, 995), (2, 53, 90, 0, 999), (6, 67, 92, 0, 1003), (2, 60, 88, 0, 1010), (2, 65, 30, 0, 1015), (2, 89, 91, 0, 1019), (2, 71, 29, 0, 1025), (2, 76, 86, 0, 1030), (2, 85, 85, 0, 1031), (2, 80, 89, 0, 1033), (8, 70, 6, 0, 1071), (1, 62, 48, 0, 1075), (3, 46, 307, 0, 1079), (3, 54, 306, 0, 1082), (1, 65, 1, 0, 1085), (0, 27, 307, 0, 1089), (1, 66, 73, 0, 1090), (5, 49, 307, 0, 1094), (1, 67, 62, 0, 1095), (4, 46, 307, 0, 1099), (10, 127, 311, 0, 1100), (10, 21, 99, 0, 1103), (8, 86, 94, 0, 1108), (7, 34, 86, 0, 1113), (7, 40, 95, 0, 1114), (7, 51, 87, 0, 1118), (7, 56, 90, 0, 1120), (7, 69, 36, 0, 1123), (7, 75, 88, 0, 1128), (7, 44, 85, 0, 1129), (7, 48, 89, 0, 1130), (8, 92, 8, 0, 1131), (10, 150, 312, 0, 1135), (10, 24, 105, 0, 1139), (8, 108, 37, 0, 1143), (2, 100, 36, 0, 1147), (8, 117, 38, 0, 1164), (10, 153, 313, 0, 1165), (10, 29, 106, 0, 1168), (8, 121, 39, 0, 1172), (10, 156, 314, 0, 1173), (10, 32, 107, 0, 1176), (8, 124, 35, 0, 1180), (8, 129, 40, 0, 1185), (10, 159, 315, 0, 1186), (10, 35, 108, 0, 1189), (8, 132, 33, 0, 1193), (10, 163, 316, 0, 1199), (10, 39, 109, 0, 1202), (8, 164, 9, 0, 1209), (10, 167, 317, 0, 1210), (10, 43, 110, 0, 1213), (8, 181, 14, 0, 1219), (1, 160, 15, 0, 1223), (10, 170, 318, 0, 1227), (10, 46, 111, 0, 1230), (8, 184, 114, 0, 1234), (10, 173, 319, 0, 1236), (10, 49, 112, 0, 1239), (10, 176, 320, 0, 1244), (10, 52, 113, 0, 1247), (8, 201, 31, 0, 1251), (10, 188, 321, 0, 1255), (10, 56, 116, 0, 1258), (8, 207, 34, 0, 1262), (2, 92, 32, 0, 1266), (2, 96, 33, 0, 1270), (8, 221, 42, 0, 1272), (10, 191, 322, 0, 1273), (10, 59, 117, 0, 1276), (8, 230, 50, 0, 1281), (10, 195, 323, 0, 1283), (10, 63, 118, 0, 1286), (8, 245, 32, 0, 1290), (8, 256, 76, 0, 1291), (10, 198, 324, 0, 1295), (10, 66, 119, 0, 1298), (10, 201, 325, 0, 1302), (10, 69, 120, 0, 1305), (10, 204, 326, 0, 1309), (10, 72, 121, 0, 1312), (10, 207, 327, 0, 1316), (10, 75, 122, 0, 1319), (8, 270, 290, 0, 1324), (10, 210, 328, 0, 1325), (10, 78, 123, 0, 1328), (10, 225, 329, 0, 1333), (10, 81, 127, 0, 1336), (10, 228, 330, 0, 1341), (10, 84, 128, 0, 1344), (10, 231, 331, 0, 1348), (10, 87, 129, 0, 1351), (10, 234, 332, 0, 1356), (10, 90, 130, 0, 1359), (10, 237, 333, 0, 1363), (10, 93, 131, 0, 1366), (10, 240, 334, 0, 1370), (10, 96, 132, 0, 1373), (10, 243, 335, 0, 1377), (10, 99, 133, 0, 1380), (10, 246, 336, 0, 1384), (10, 102, 134, 0, 1387), (8, 312, 64, 0, 1392), (10, 269, 337, 0, 1393), (10, 106, 140, 0, 1396), (8, 330, 70, 0, 1400), (10, 112, 143, 0, 1403), (9, 42, 148, 0, 1407), (10, 119, 144, 0, 1475), (10, 118, 158, 0, 1479), (9, 69, 145, 0, 1483), (9, 73, 159, 0, 1487), (10, 133, 160, 0, 1491), (9, 80, 146, 0, 1495), (10, 137, 161, 0, 1499), (10, 126, 181, 0, 1503), (9, 59, 147, 0, 1507), (9, 179, 176, 0, 1510), (9, 182, 180, 0, 1514), (9, 166, 177, 0, 1518), (9, 144, 172, 0, 1523), (9, 132, 169, 0, 1527), (9, 117, 167, 0, 1531), (9, 95, 165, 0, 1535), (9, 89, 162, 0, 1539), (9, 98, 163, 0, 1543), (9, 105, 166, 0, 1546), (9, 120, 168, 0, 1552), (9, 136, 171, 0, 1556), (9, 129, 170, 0, 1560), (9, 123, 164, 0, 1564), (9, 154, 173, 0, 1570), (9, 169, 178, 0, 1574), (9, 159, 175, 0, 1579), (9, 139, 174, 0, 1583), (9, 174, 179, 0, 1589), (10, 129, 184, 0, 1594), (9, 51, 149, 0, 1598), (9, 200, 183, 0, 1602), (9, 197, 182, 0, 1607), (9, 63, 154, 0, 1614), (9, 55, 150, 0, 1618), (10, 141, 185, 0, 1623), (10, 145, 186, 0, 1627), (10, 149, 187, 0, 1631), (10, 152, 191, 0, 1635), (9, 209, 155, 0, 1639), (9, 203, 188, 0, 1643), (10, 155, 192, 0, 1647), (9, 212, 190, 0, 1651), (9, 206, 189, 0, 1655), (10, 158, 193, 0, 1659), (9, 215, 152, 0, 1663), (10, 162, 194, 0, 1667), (9, 218, 153, 0, 1671), (9, 221, 157, 0, 1675), (10, 166, 225, 0, 1679), (9, 301, 224, 0, 1683), (9, 304, 223, 0, 1687), (9, 270, 212, 0, 1691), (9, 292, 221, 0, 1695), (9, 286, 219, 0, 1699), (9, 289, 220, 0, 1703), (9, 276, 216, 0, 1707), (9, 279, 217, 0, 1711), (9, 267, 211, 0, 1715), (9, 282, 207, 0, 1719), (9, 251, 197, 0, 1723), (9, 254, 200, 0, 1726), (9, 244, 201, 0, 1730), (9, 257, 206, 0, 1734), (9, 247, 205, 0, 1738), (9, 229, 204, 0, 1742), (9, 233, 198, 0, 1747), (9, 236, 203, 0, 1751), (9, 240, 199, 0, 1756), (9, 260, 213, 0, 1760), (9, 295, 222, 0, 1764), (9, 298, 215, 0, 1768), (9, 273, 214, 0, 1772), (10, 169, 241, 0, 1776), (9, 353, 195, 0, 1780), (9, 356, 240, 0, 1784), (9, 329, 210, 0, 1788), (9, 359, 196, 0, 1792), (9, 264, 208, 0, 1796), (9, 362, 232, 0, 1800), (9, 320, 230, 0, 1804), (9, 323, 231, 0, 1808), (9, 314, 229, 0, 1812), (9, 311, 226, 0, 1816), (9, 317, 228, 0, 1820), (9, 308, 227, 0, 1824), (10, 172, 252, 0, 1828), (9, 398, 251, 0, 1832), (9, 389, 249, 0, 1836), (9, 386, 239, 0, 1840), (9, 347, 238, 0, 1844), (9, 344, 237, 0, 1848), (9, 332, 218, 0, 1852), (9, 341, 236, 0, 1856), (9, 350, 235, 0, 1860), (9, 335, 234, 0, 1864), (9, 326, 209, 0, 1868), (9, 338, 233, 0, 1872), (9, 392, 250, 0, 1876), (9, 395, 248, 0, 1880), (9, 380, 245, 0, 1884), (9, 371, 243, 0, 1888), (9, 365, 242, 0, 1892), (9, 368, 202, 0, 1896), (9, 374, 244, 0, 1900), (9, 383, 247, 0, 1904), (9, 377, 246, 0, 1908), (10, 175, 253, 0, 1912), (10, 179, 254, 0, 1916), (10, 183, 255, 0, 1920), (10, 187, 256, 0, 1924), (10, 190, 257, 0, 1928), (9, 401, 151, 0, 1932), (10, 194, 259, 0, 1936), (9, 404, 258, 0, 1940), (10, 197, 260, 0, 1945), (10, 200, 262, 0, 1949), (9, 409, 261, 0, 1953), (10, 203, 263, 0, 1957), (10, 206, 264, 0, 1961), (10, 209, 266, 0, 1965), (9, 412, 265, 0, 1969), (10, 212, 268, 0, 1972), (9, 416, 267, 0, 1976), (10, 216, 269, 0, 1980), (10, 220, 270, 0, 1984), (10, 224, 271, 0, 1988), (10, 227, 272, 0, 1992), (9, 419, 156, 0, 1996), (10, 230, 273, 0, 2000), (10, 233, 275, 0, 2004), (9, 422, 274, 0, 2008), (10, 236, 276, 0, 2012), (10, 239, 277, 0, 2016), (10, 242, 278, 0, 2020), (10, 245, 279, 0, 2024), (10, 248, 280, 0, 2028), (10, 252, 281, 0, 2032), (10, 256, 282, 0, 2036), (10, 260, 283, 0, 2040), (10, 264, 284, 0, 2044), (10, 268, 285, 0, 2048), (10, 271, 286, 0, 2052), (10, 275, 287, 0, 2056), (10, 279, 288, 0, 2060), (8, 9, 80, 1, 151), (1, 23, 41, 1, 269), (1, 30, 0, 1, 317), (1, 37, 72, 1, 347), (1, 44, 61, 1, 403), (8, 49, 27, 1, 864), (8, 66, 93, 1, 1040)]
def pm_MLc (q : Nat × Nat × Nat × Nat × Nat) : Bool := Nat.blt q.2.2.1 pm_nM && (match q.2.2.2.1 with
  | 0 => decide (lw_tbl[q.2.2.2.2]? = some (Cond.methodLink (pm_cn q.1) q.2.1 (pm_y q.2.2.1)))
  | _ => decide (lw_tbl[q.2.2.2.2]? = some (Cond.methodLinkNest (pm_cn q.1) q.2.1 (pm_y q.2.2.1) (pm_cn 8))))
theorem pm_ML_ok : pm_ML.all pm_MLc = true := by decide +kernel
