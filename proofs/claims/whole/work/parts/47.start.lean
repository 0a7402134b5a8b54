/-! What the Statement gives at the law's start is what the pure machine stands on (wip/whole/start.py). -/
def ls_FL : List Cond := flatC (Jvm.Cond.and given_1 narrow_1)
def ls_T (k : Nat) : Term := .string (pm_cn (pm_SR.getD k (0, 0, "", 0)).1) (pm_SR.getD k (0, 0, "", 0)).2.1
def ls_V (k : Nat) : Term := .field (ls_T k) "java/lang/String" "value" "[B"
def ls_E (k : Nat) : List Cond := [Cond.exactly (ls_T k) "java/lang/String", Cond.eq (.field (ls_T k) "java/lang/String" "coder" "B") (.int 0), Cond.arrayOf (ls_V k) .byte, Cond.eq (.length (ls_V k)) (.int (Int32.ofNat (pm_tx k).length))] ++ (List.range (pm_tx k).length).map (fun j => Cond.eq (.elem (ls_V k) (.int (Int32.ofNat j))) (.int (pm_by (pm_tx k) j)))
def ls_ps : List Nat := [47, 69, 95, 104, 115, 123, 131, 142, 152, 161, 171, 180, 205, 226, 232, 242, 251, 257, 273, 291, 309, 333, 359, 387, 413, 429, 458, 479, 503, 532, 558, 580, 603, 622, 650]
theorem ls_e0 : (ls_FL.drop 47).take 22 = ls_E 0 := by decide +kernel
theorem ls_e1 : (ls_FL.drop 69).take 26 = ls_E 1 := by decide +kernel
theorem ls_e2 : (ls_FL.drop 95).take 9 = ls_E 2 := by decide +kernel
theorem ls_e3 : (ls_FL.drop 104).take 11 = ls_E 3 := by decide +kernel
theorem ls_e4 : (ls_FL.drop 115).take 8 = ls_E 4 := by decide +kernel
theorem ls_e5 : (ls_FL.drop 123).take 8 = ls_E 5 := by decide +kernel
theorem ls_e6 : (ls_FL.drop 131).take 11 = ls_E 6 := by decide +kernel
theorem ls_e7 : (ls_FL.drop 142).take 10 = ls_E 7 := by decide +kernel
theorem ls_e8 : (ls_FL.drop 152).take 9 = ls_E 8 := by decide +kernel
theorem ls_e9 : (ls_FL.drop 161).take 10 = ls_E 9 := by decide +kernel
theorem ls_e10 : (ls_FL.drop 171).take 9 = ls_E 10 := by decide +kernel
theorem ls_e11 : (ls_FL.drop 180).take 25 = ls_E 11 := by decide +kernel
theorem ls_e12 : (ls_FL.drop 205).take 21 = ls_E 12 := by decide +kernel
theorem ls_e13 : (ls_FL.drop 226).take 6 = ls_E 13 := by decide +kernel
theorem ls_e14 : (ls_FL.drop 232).take 10 = ls_E 14 := by decide +kernel
theorem ls_e15 : (ls_FL.drop 242).take 9 = ls_E 15 := by decide +kernel
theorem ls_e16 : (ls_FL.drop 251).take 6 = ls_E 16 := by decide +kernel
theorem ls_e17 : (ls_FL.drop 257).take 16 = ls_E 17 := by decide +kernel
theorem ls_e18 : (ls_FL.drop 273).take 18 = ls_E 18 := by decide +kernel
theorem ls_e19 : (ls_FL.drop 291).take 18 = ls_E 19 := by decide +kernel
theorem ls_e20 : (ls_FL.drop 309).take 24 = ls_E 20 := by decide +kernel
theorem ls_e21 : (ls_FL.drop 333).take 26 = ls_E 21 := by decide +kernel
theorem ls_e22 : (ls_FL.drop 359).take 28 = ls_E 22 := by decide +kernel
theorem ls_e23 : (ls_FL.drop 387).take 26 = ls_E 23 := by decide +kernel
theorem ls_e24 : (ls_FL.drop 413).take 16 = ls_E 24 := by decide +kernel
theorem ls_e25 : (ls_FL.drop 429).take 29 = ls_E 25 := by decide +kernel
theorem ls_e26 : (ls_FL.drop 458).take 21 = ls_E 26 := by decide +kernel
theorem ls_e27 : (ls_FL.drop 479).take 24 = ls_E 27 := by decide +kernel
theorem ls_e28 : (ls_FL.drop 503).take 29 = ls_E 28 := by decide +kernel
theorem ls_e29 : (ls_FL.drop 532).take 26 = ls_E 29 := by decide +kernel
theorem ls_e30 : (ls_FL.drop 558).take 22 = ls_E 30 := by decide +kernel
theorem ls_e31 : (ls_FL.drop 580).take 23 = ls_E 31 := by decide +kernel
theorem ls_e32 : (ls_FL.drop 603).take 19 = ls_E 32 := by decide +kernel
theorem ls_e33 : (ls_FL.drop 622).take 28 = ls_E 33 := by decide +kernel
theorem ls_e34 : (ls_FL.drop 650).take 26 = ls_E 34 := by decide +kernel
theorem ls_eA : ∀ k, k < 35 → ∃ a c : Nat, (ls_FL.drop a).take c = ls_E k := by
  intro k hk
  rcases (show k = 0 ∨ k = 1 ∨ k = 2 ∨ k = 3 ∨ k = 4 ∨ k = 5 ∨ k = 6 ∨ k = 7 ∨ k = 8 ∨ k = 9 ∨ k = 10 ∨ k = 11 ∨ k = 12 ∨ k = 13 ∨ k = 14 ∨ k = 15 ∨ k = 16 ∨ k = 17 ∨ k = 18 ∨ k = 19 ∨ k = 20 ∨ k = 21 ∨ k = 22 ∨ k = 23 ∨ k = 24 ∨ k = 25 ∨ k = 26 ∨ k = 27 ∨ k = 28 ∨ k = 29 ∨ k = 30 ∨ k = 31 ∨ k = 32 ∨ k = 33 ∨ k = 34 by omega) with rfl | rfl | rfl | rfl | rfl | rfl | rfl | rfl | rfl | rfl | rfl | rfl | rfl | rfl | rfl | rfl | rfl | rfl | rfl | rfl | rfl | rfl | rfl | rfl | rfl | rfl | rfl | rfl | rfl | rfl | rfl | rfl | rfl | rfl | rfl
  · exact ⟨_, _, ls_e0⟩
  · exact ⟨_, _, ls_e1⟩
  · exact ⟨_, _, ls_e2⟩
  · exact ⟨_, _, ls_e3⟩
  · exact ⟨_, _, ls_e4⟩
  · exact ⟨_, _, ls_e5⟩
  · exact ⟨_, _, ls_e6⟩
  · exact ⟨_, _, ls_e7⟩
  · exact ⟨_, _, ls_e8⟩
  · exact ⟨_, _, ls_e9⟩
  · exact ⟨_, _, ls_e10⟩
  · exact ⟨_, _, ls_e11⟩
  · exact ⟨_, _, ls_e12⟩
  · exact ⟨_, _, ls_e13⟩
  · exact ⟨_, _, ls_e14⟩
  · exact ⟨_, _, ls_e15⟩
  · exact ⟨_, _, ls_e16⟩
  · exact ⟨_, _, ls_e17⟩
  · exact ⟨_, _, ls_e18⟩
  · exact ⟨_, _, ls_e19⟩
  · exact ⟨_, _, ls_e20⟩
  · exact ⟨_, _, ls_e21⟩
  · exact ⟨_, _, ls_e22⟩
  · exact ⟨_, _, ls_e23⟩
  · exact ⟨_, _, ls_e24⟩
  · exact ⟨_, _, ls_e25⟩
  · exact ⟨_, _, ls_e26⟩
  · exact ⟨_, _, ls_e27⟩
  · exact ⟨_, _, ls_e28⟩
  · exact ⟨_, _, ls_e29⟩
  · exact ⟨_, _, ls_e30⟩
  · exact ⟨_, _, ls_e31⟩
  · exact ⟨_, _, ls_e32⟩
  · exact ⟨_, _, ls_e33⟩
  · exact ⟨_, _, ls_e34⟩
theorem ls_at {args : Array Value} {s : State} (hgv : (Jvm.Cond.and given_1 narrow_1).before args s = true) {w : Cond} (h : w ∈ ls_FL) : w.before args s = true := flat_of_before _ hgv w h
theorem ls_str {args : Array Value} {s : State} {A : Nat → Prop} {k : Nat} (hA : ∀ a : Nat, a < s.heap.size → ¬ A a) (hgv : (Jvm.Cond.and given_1 narrow_1).before args s = true) (hk : k < 35) : ∃ q : Nat × Nat, (ls_T k).eval args s none [] s = some (.ref q.1) ∧ va_O "java/lang/String" q.1 A s s.heap ∧ va_OF "java/lang/String" "coder" "B" (.int 0) q.1 A s s.heap ∧ va_OF "java/lang/String" "value" "[B" (.ref q.2) q.1 A s s.heap ∧ va_T .byte q.2 (pm_tx k).length (fun j => .int (pm_by (pm_tx k) j)) A s s.heap := by
  obtain ⟨a0, c0, e0⟩ := ls_eA k hk
  have hm : ∀ w ∈ ls_E k, w ∈ ls_FL := fun w hw => by
    rw [← e0] at hw
    exact List.mem_of_mem_drop (List.mem_of_mem_take hw)
  have h1 : Cond.exactly (ls_T k) "java/lang/String" ∈ ls_FL := hm _ (List.mem_append_left _ (by simp))
  have h2 : Cond.eq (.field (ls_T k) "java/lang/String" "coder" "B") (.int 0) ∈ ls_FL := hm _ (List.mem_append_left _ (by simp))
  have h3 : Cond.arrayOf (ls_V k) .byte ∈ ls_FL := hm _ (List.mem_append_left _ (by simp))
  have h4 : Cond.eq (.length (ls_V k)) (.int (Int32.ofNat (pm_tx k).length)) ∈ ls_FL := hm _ (List.mem_append_left _ (by simp))
  have h5 : ∀ j, j < (pm_tx k).length → Cond.eq (.elem (ls_V k) (.int (Int32.ofNat j))) (.int (pm_by (pm_tx k) j)) ∈ ls_FL := fun j hj => hm _ (List.mem_append_right _ (List.mem_map.mpr ⟨j, List.mem_range.mpr hj, rfl⟩))
  obtain ⟨a, c, cA, kA, q1, q2, q3, q4, q5, q6, -⟩ := Cond.exactly_spec (args := args) (first := s) (o := none) (s := s) (idx := []) (t := ls_T k) (cls := "java/lang/String") (ls_at hgv h1)
  obtain ⟨t, ht, hT⟩ := va_Tof (f := fun j => .int (pm_by (pm_tx k) j)) (A := A) (pm_SR_len k hk).1 (ls_at hgv h3) (va_eqt (ls_at hgv h4)) (fun j hj => va_eqt (ls_at hgv (h5 j hj))) hA
  exact ⟨(a, t), q1, ⟨cA, q3, q5, by rw [q6]; exact q2, hA a (Array.getElem?_eq_some_iff.mp q3).1⟩, vk_OFof q1 (va_eqt (ls_at hgv h2)) hA, vk_OFof q1 ht hA, hT⟩
theorem ls_arr {args : Array Value} {s : State} {ty : FieldType} (h : (Cond.arrayClass ty).before args s = true) : ∃ cA : ClassId, ArrOfT s cA ty ∧ s.vm.findClass ("[" ++ ty.toString) = some cA := by
  obtain ⟨cA, kA, comp, hfind, hk, hkind⟩ := Cond.arrayClass_spec h
  exact ⟨cA, fun n z => ⟨fun k h => (by cases h), kA, hk, comp, hkind⟩, hfind⟩
theorem ls_G {s : State} {b L : Nat} {xs : Nat → Int32} (hts : ∀ w ∈ lw_tbl, w.before #[Value.ref b] s = true) (hX : va_X b L xs s s.heap) (hbl : b < s.heap.size) (hgv : (Jvm.Cond.and given_1 narrow_1).before #[Value.ref b] s = true) : ∃ G : pm_G, pm_Wd G (fun q => s.heap.size ≤ q) s ∧ G.2.2.2.2.2 = (b, L, xs) := by
  have hA : ∀ a : Nat, a < s.heap.size → ¬ (fun q => s.heap.size ≤ q) a := fun a h => Nat.not_le.mpr h
  have hw : ∀ w ∈ pm_ws, w.before #[Value.ref b] s = true := fun w h => hts w (List.mem_filter.mp h).1
  have c1 : ∀ ci : Nat, ∃ q : ClassId × (Nat → Nat), ci < 10 → u_Kn s (pm_cn ci) (pm_T ci) (pm_N ci) q.1 q.2 := fun ci => by
    by_cases h : ci < 10
    · obtain ⟨cC, iS, hk⟩ := u_known (C := pm_cn ci) (T := pm_T ci) (N := pm_N ci) (n := pm_N ci) hw (pm_ly ci h) (hw _ (pm_inst ci h))
      exact ⟨(cC, iS), fun _ => hk⟩
    · obtain ⟨cC, iS, hk⟩ := u_known (C := pm_cn 0) (T := pm_T 0) (N := pm_N 0) (n := pm_N 0) hw (pm_ly 0 (by decide)) (hw _ (pm_inst 0 (by decide)))
      exact ⟨(cC, iS), fun z => absurd z h⟩
  obtain ⟨fc, hfc⟩ := Classical.axiomOfChoice c1
  obtain ⟨aI, aI1, aI2⟩ := ls_arr (hw _ pm_arI)
  obtain ⟨aJ, aJ1, aJ2⟩ := ls_arr (hw _ pm_arJ)
  obtain ⟨aB, aB1, aB2⟩ := ls_arr (hw _ pm_arB)
  obtain ⟨aZ, aZ1, aZ2⟩ := ls_arr (hw _ pm_arZ)
  have st : ∀ k : Nat, ∃ q : Nat × Nat, k < 35 → (ls_T k).eval #[Value.ref b] s none [] s = some (.ref q.1) ∧ va_O "java/lang/String" q.1 (fun q => s.heap.size ≤ q) s s.heap ∧ va_OF "java/lang/String" "coder" "B" (.int 0) q.1 (fun q => s.heap.size ≤ q) s s.heap ∧ va_OF "java/lang/String" "value" "[B" (.ref q.2) q.1 (fun q => s.heap.size ≤ q) s s.heap ∧ va_T .byte q.2 (pm_tx k).length (fun j => .int (pm_by (pm_tx k) j)) (fun q => s.heap.size ≤ q) s s.heap := fun k => by
    by_cases h : k < 35
    · obtain ⟨q, hq⟩ := ls_str (k := k) hA hgv h
      exact ⟨q, fun _ => hq⟩
    · exact ⟨(0, 0), fun z => absurd z h⟩
  obtain ⟨fs, hfs⟩ := Classical.axiomOfChoice st
  have zc := va_Zof (A := fun q => s.heap.size ≤ q) (hts (.laysStatic "java/lang/String" "COMPACT_STRINGS" "Z") (List.mem_of_getElem? (i := 956) (by decide +kernel))) (hts (.initialized "java/lang/String") (List.mem_of_getElem? (i := 127) (by decide +kernel))) (va_eqi (ls_at hgv (w := .eq (.static "java/lang/String" "COMPACT_STRINGS" "Z") (.int 1)) (List.mem_of_getElem? (i := 6) (by decide +kernel)))) hA
  have zf := va_Zqof (A := fun q => s.heap.size ≤ q) (hts (.laysStatic "jdk/internal/util/Preconditions" "SIOOBE_FORMATTER" "Ljava/util/function/BiFunction;") (List.mem_of_getElem? (i := 972) (by decide +kernel))) (hts (.initialized "jdk/internal/util/Preconditions") (List.mem_of_getElem? (i := 129) (by decide +kernel))) (ls_at hgv (w := .isRef (.static "jdk/internal/util/Preconditions" "SIOOBE_FORMATTER" "Ljava/util/function/BiFunction;")) (List.mem_of_getElem? (i := 7) (by decide +kernel))) hA
  have zu := vx_Zqof (A := fun q => s.heap.size ≤ q) (hts (.laysStatic Bundle.tN "UNASSIGNED_STACK" Bundle.steD) (List.mem_of_getElem? (i := 794) (by decide +kernel))) (hts (.initialized Bundle.tN) (List.mem_of_getElem? (i := 120) (by decide +kernel))) (ls_at hgv (w := .isRef (.static Bundle.tN "UNASSIGNED_STACK" Bundle.steD)) (List.mem_of_getElem? (i := 4) (by decide +kernel))) hA
  have zs := vx_Zqof (A := fun q => s.heap.size ≤ q) (hts (.laysStatic Bundle.tN "SUPPRESSED_SENTINEL" Bundle.listD) (List.mem_of_getElem? (i := 796) (by decide +kernel))) (hts (.initialized Bundle.tN) (List.mem_of_getElem? (i := 120) (by decide +kernel))) (ls_at hgv (w := .isRef (.static Bundle.tN "SUPPRESSED_SENTINEL" Bundle.listD)) (List.mem_of_getElem? (i := 5) (by decide +kernel))) hA
  obtain ⟨vf, hvf, hvz⟩ : ∃ v : Value, (v = .null ∨ ∃ a, v = .ref a) ∧ va_Z "jdk/internal/util/Preconditions" "SIOOBE_FORMATTER" "Ljava/util/function/BiFunction;" v (fun q => s.heap.size ≤ q) s s.heap := by
    rcases zf with z | ⟨t, z⟩
    · exact ⟨.null, Or.inl rfl, z⟩
    · exact ⟨.ref t, Or.inr ⟨t, rfl⟩, z⟩
  have lt35 : ∀ (k : Nat) (q : Nat × Nat × String × Nat), pm_SR[k]? = some q → k < 35 := fun k q hk => (List.getElem?_eq_some_iff.mp hk).1
  have getD9 : ∀ (k : Nat) (q : Nat × Nat × String × Nat), pm_SR[k]? = some q → pm_SR.getD k (0, 0, "", 0) = q := fun k q hk => by
    rw [List.getD_eq_getElem?_getD, hk]
    rfl
  refine ⟨((fun k => (fc k).1, fun k => (fc k).2), (fun t => if t = 0 then aI else if t = 1 then aJ else if t = 2 then aB else aZ), (fun k => (fs k).1), (fun k => (fs k).2), (fun _ => vf), b, L, xs), ⟨⟨fun k q hk => ?_, fun k q hk => ?_⟩, hX, hbl, hA b hbl, fun _ => hvf, fun q hq => hq, zu, zs, fun k q hk => ?_, fun w hwm => ?_, fun q hq => ?_, fun k q hk => ?_, zc, hvz⟩, rfl⟩
  · have h10 : k < 10 := (List.getElem?_eq_some_iff.mp hk).1
    have e := (pm_vw k h10).symm.trans hk
    cases e
    exact hfc k h10
  · match k, hk with
    | 0, hk => cases hk; exact ⟨aI1, aI2⟩
    | 1, hk => cases hk; exact ⟨aJ1, aJ2⟩
    | 2, hk => cases hk; exact ⟨aB1, aB2⟩
    | 3, hk => cases hk; exact ⟨aZ1, aZ2⟩
    | k + 4, hk => cases hk
  · have h1 := (hfs k (lt35 k q hk)).1
    unfold ls_T at h1
    rw [getD9 k q hk] at h1
    have h2 : (Cond.stringRef (pm_cn q.1) q.2.1 q.2.2.1).before #[Value.ref b] s = true := hts _ (List.mem_of_getElem? (of_decide_eq_true (List.all_eq_true.mp pm_SR_ok q (List.mem_of_getElem? hk))))
    exact vk_R.of h2 h1
  · exact va_tabs (px_ot w (List.mem_filter.mp hwm).2) rfl (hts w (List.mem_filter.mp hwm).1)
  · unfold pm_ncs at hq
    rcases List.mem_cons.mp hq with hq0 | hq
    · rw [hq0]; exact va_Nc.of (ls_at hgv (List.mem_of_getElem? (i := 26) (by decide +kernel)))
    rcases List.mem_cons.mp hq with hq1 | hq
    · rw [hq1]; exact va_Nc.of (ls_at hgv (List.mem_of_getElem? (i := 38) (by decide +kernel)))
    rcases List.mem_cons.mp hq with hq2 | hq
    · rw [hq2]; exact va_Nc.of (ls_at hgv (List.mem_of_getElem? (i := 14) (by decide +kernel)))
    rcases List.mem_cons.mp hq with hq3 | hq
    · rw [hq3]; exact va_Nc.of (ls_at hgv (List.mem_of_getElem? (i := 39) (by decide +kernel)))
    rcases List.mem_cons.mp hq with hq4 | hq
    · rw [hq4]; exact va_Nc.of (ls_at hgv (List.mem_of_getElem? (i := 22) (by decide +kernel)))
    rcases List.mem_cons.mp hq with hq5 | hq
    · rw [hq5]; exact va_Nc.of (ls_at hgv (List.mem_of_getElem? (i := 34) (by decide +kernel)))
    cases hq
  · have h1 := (hfs k (lt35 k q hk)).2
    rw [pm_tx_at hk] at h1
    exact h1
