/-! What the Statement gives at the law's start is what the pure machine stands on. -/
def ls_FL : List Cond := flatC (Jvm.Cond.and given_1 narrow_1)
def ls_T (k : Nat) : Term := .string (pm_cn (pm_SR.getD k (0, 0, "", 0)).1) (pm_SR.getD k (0, 0, "", 0)).2.1
def ls_V (k : Nat) : Term := .field (ls_T k) "java/lang/String" "value" "[B"
def ls_ok (k : Nat) : Bool := decide (Cond.exactly (ls_T k) "java/lang/String" ∈ ls_FL) && (decide (Cond.eq (.field (ls_T k) "java/lang/String" "coder" "B") (.int 0) ∈ ls_FL) && (decide (Cond.arrayOf (ls_V k) .byte ∈ ls_FL) && (decide (Cond.eq (.length (ls_V k)) (.int (Int32.ofNat (pm_tx k).length)) ∈ ls_FL) && (List.range (pm_tx k).length).all (fun j => decide (Cond.eq (.elem (ls_V k) (.int (Int32.ofNat j))) (.int (pm_by (pm_tx k) j)) ∈ ls_FL)))))
set_option maxRecDepth 20000 in
theorem ls_ok0 : ((List.range 5).map (· + 0)).all ls_ok = true := by decide +kernel
set_option maxRecDepth 20000 in
theorem ls_ok5 : ((List.range 5).map (· + 5)).all ls_ok = true := by decide +kernel
set_option maxRecDepth 20000 in
theorem ls_ok10 : ((List.range 5).map (· + 10)).all ls_ok = true := by decide +kernel
set_option maxRecDepth 20000 in
theorem ls_ok15 : ((List.range 5).map (· + 15)).all ls_ok = true := by decide +kernel
set_option maxRecDepth 20000 in
theorem ls_ok20 : ((List.range 5).map (· + 20)).all ls_ok = true := by decide +kernel
set_option maxRecDepth 20000 in
theorem ls_ok25 : ((List.range 5).map (· + 25)).all ls_ok = true := by decide +kernel
set_option maxRecDepth 20000 in
theorem ls_ok30 : ((List.range 5).map (· + 30)).all ls_ok = true := by decide +kernel
theorem ls_okA : ∀ k, k < 35 → ls_ok k = true := by
  intro k hk
  if h0 : k < 5 then exact List.all_eq_true.mp ls_ok0 k (List.mem_map.mpr ⟨k - 0, List.mem_range.mpr (by omega), by omega⟩) else
  if h5 : k < 10 then exact List.all_eq_true.mp ls_ok5 k (List.mem_map.mpr ⟨k - 5, List.mem_range.mpr (by omega), by omega⟩) else
  if h10 : k < 15 then exact List.all_eq_true.mp ls_ok10 k (List.mem_map.mpr ⟨k - 10, List.mem_range.mpr (by omega), by omega⟩) else
  if h15 : k < 20 then exact List.all_eq_true.mp ls_ok15 k (List.mem_map.mpr ⟨k - 15, List.mem_range.mpr (by omega), by omega⟩) else
  if h20 : k < 25 then exact List.all_eq_true.mp ls_ok20 k (List.mem_map.mpr ⟨k - 20, List.mem_range.mpr (by omega), by omega⟩) else
  if h25 : k < 30 then exact List.all_eq_true.mp ls_ok25 k (List.mem_map.mpr ⟨k - 25, List.mem_range.mpr (by omega), by omega⟩) else
  if h30 : k < 35 then exact List.all_eq_true.mp ls_ok30 k (List.mem_map.mpr ⟨k - 30, List.mem_range.mpr (by omega), by omega⟩) else
  exact absurd hk (by omega)
theorem ls_at {args : Array Value} {s : State} (hgv : (Jvm.Cond.and given_1 narrow_1).before args s = true) {w : Cond} (h : w ∈ ls_FL) : w.before args s = true := flat_of_before _ hgv w h
theorem ls_str {args : Array Value} {s : State} {A : Nat → Prop} {k : Nat} (hA : ∀ a : Nat, a < s.heap.size → ¬ A a) (hgv : (Jvm.Cond.and given_1 narrow_1).before args s = true) (hk : k < 35) : ∃ q : Nat × Nat, (ls_T k).eval args s none [] s = some (.ref q.1) ∧ va_O "java/lang/String" q.1 A s s.heap ∧ va_OF "java/lang/String" "coder" "B" (.int 0) q.1 A s s.heap ∧ va_OF "java/lang/String" "value" "[B" (.ref q.2) q.1 A s s.heap ∧ va_T .byte q.2 (pm_tx k).length (fun j => .int (pm_by (pm_tx k) j)) A s s.heap := by
  have h := ls_okA k hk
  unfold ls_ok at h
  simp only [Bool.and_eq_true, decide_eq_true_eq] at h
  obtain ⟨h1, h2, h3, h4, h5⟩ := h
  obtain ⟨a, c, cA, kA, q1, q2, q3, q4, q5, q6, -⟩ := Cond.exactly_spec (args := args) (first := s) (o := none) (s := s) (idx := []) (t := ls_T k) (cls := "java/lang/String") (ls_at hgv h1)
  obtain ⟨t, ht, hT⟩ := va_Tof (f := fun j => .int (pm_by (pm_tx k) j)) (A := A) (pm_SR_len k hk).1 (ls_at hgv h3) (va_eqt (ls_at hgv h4)) (fun j hj => va_eqt (ls_at hgv (of_decide_eq_true (List.all_eq_true.mp h5 j (List.mem_range.mpr hj))))) hA
  exact ⟨(a, t), q1, ⟨cA, q3, q5, by rw [q6]; exact q2, hA a (Array.getElem?_eq_some_iff.mp q3).1⟩, vk_OFof q1 (va_eqt (ls_at hgv h2)) hA, vk_OFof q1 ht hA, hT⟩
theorem ls_arr {args : Array Value} {s : State} {ty : FieldType} (h : (Cond.arrayClass ty).before args s = true) : ∃ cA : ClassId, ArrOfT s cA ty ∧ s.vm.findClass ("[" ++ ty.toString) = some cA := by
  obtain ⟨cA, kA, comp, hfind, hk, hkind⟩ := Cond.arrayClass_spec h
  exact ⟨cA, fun n z => ⟨fun k h => (by cases h), kA, hk, comp, hkind⟩, hfind⟩
theorem ls_G {s : State} {b L : Nat} {xs : Nat → Int32} (hts : ∀ w ∈ lw_tbl, w.before #[Value.ref b] s = true) (hX : va_X b L xs s s.heap) (hbl : b < s.heap.size) (hgv : (Jvm.Cond.and given_1 narrow_1).before #[Value.ref b] s = true) : ∃ G : pm_G, pm_Wd G (fun q => s.heap.size ≤ q) s ∧ G.2.2.2.2.2 = (b, L, xs) := by
  have hA : ∀ a : Nat, a < s.heap.size → ¬ (fun q => s.heap.size ≤ q) a := fun a h => Nat.not_le.mpr h
  have hw : ∀ w ∈ pm_ws, w.before #[Value.ref b] s = true := fun w h => hts w (List.mem_filter.mp h).1
  have c1 : ∀ ci : Nat, ∃ q : ClassId × (Nat → Nat), ci < 10 → u_Kn s (pm_cn ci) (pm_T ci) (pm_N ci) q.1 q.2 := fun ci => by
    by_cases h : ci < 10
    · obtain ⟨cC, iS, hk⟩ := u_known (C := pm_cn ci) (T := pm_T ci) (N := pm_N ci) (n := pm_N ci) hw (pm_ly ci h) (hw _ (pm_inst ci h))
      exact ⟨(cC, iS), fun _ => hk⟩
    · obtain ⟨cC, iS, hk⟩ := u_known (C := pm_cn 0) (T := pm_T 0) (N := pm_N 0) (n := pm_N 0) hw (pm_ly 0 (by decide)) (hw _ (pm_inst 0 (by decide)))
      exact ⟨(cC, iS), fun z => absurd z h⟩
  obtain ⟨fc, hfc⟩ := Classical.axiomOfChoice c1
  obtain ⟨aI, aI1, aI2⟩ := ls_arr (hw _ pm_arI)
  obtain ⟨aJ, aJ1, aJ2⟩ := ls_arr (hw _ pm_arJ)
  obtain ⟨aB, aB1, aB2⟩ := ls_arr (hw _ pm_arB)
  obtain ⟨aZ, aZ1, aZ2⟩ := ls_arr (hw _ pm_arZ)
  have st : ∀ k : Nat, ∃ q : Nat × Nat, k < 35 → (ls_T k).eval #[Value.ref b] s none [] s = some (.ref q.1) ∧ va_O "java/lang/String" q.1 (fun q => s.heap.size ≤ q) s s.heap ∧ va_OF "java/lang/String" "coder" "B" (.int 0) q.1 (fun q => s.heap.size ≤ q) s s.heap ∧ va_OF "java/lang/String" "value" "[B" (.ref q.2) q.1 (fun q => s.heap.size ≤ q) s s.heap ∧ va_T .byte q.2 (pm_tx k).length (fun j => .int (pm_by (pm_tx k) j)) (fun q => s.heap.size ≤ q) s s.heap := fun k => by
    by_cases h : k < 35
    · obtain ⟨q, hq⟩ := ls_str (k := k) hA hgv h
      exact ⟨q, fun _ => hq⟩
    · exact ⟨(0, 0), fun z => absurd z h⟩
  obtain ⟨fs, hfs⟩ := Classical.axiomOfChoice st
  have zc := va_Zof (A := fun q => s.heap.size ≤ q) (hw (.laysStatic "java/lang/String" "COMPACT_STRINGS" "Z") (pm_mem2 (by decide +kernel) rfl)) (hw (.initialized "java/lang/String") (pm_mem2 (by decide +kernel) rfl)) (va_eqi (ls_at hgv (w := .eq (.static "java/lang/String" "COMPACT_STRINGS" "Z") (.int 1)) (of_decide_eq_true (by decide +kernel)))) hA
  have zf := va_Zqof (A := fun q => s.heap.size ≤ q) (hw (.laysStatic "jdk/internal/util/Preconditions" "SIOOBE_FORMATTER" "Ljava/util/function/BiFunction;") (pm_mem2 (by decide +kernel) rfl)) (hw (.initialized "jdk/internal/util/Preconditions") (pm_mem2 (by decide +kernel) rfl)) (ls_at hgv (w := .isRef (.static "jdk/internal/util/Preconditions" "SIOOBE_FORMATTER" "Ljava/util/function/BiFunction;")) (of_decide_eq_true (by decide +kernel))) hA
  have zu := vx_Zqof (A := fun q => s.heap.size ≤ q) (hw (.laysStatic Bundle.tN "UNASSIGNED_STACK" Bundle.steD) (pm_mem2 (by decide +kernel) rfl)) (hw (.initialized Bundle.tN) (pm_mem2 (by decide +kernel) rfl)) (ls_at hgv (w := .isRef (.static Bundle.tN "UNASSIGNED_STACK" Bundle.steD)) (of_decide_eq_true (by decide +kernel))) hA
  have zs := vx_Zqof (A := fun q => s.heap.size ≤ q) (hw (.laysStatic Bundle.tN "SUPPRESSED_SENTINEL" Bundle.listD) (pm_mem2 (by decide +kernel) rfl)) (hw (.initialized Bundle.tN) (pm_mem2 (by decide +kernel) rfl)) (ls_at hgv (w := .isRef (.static Bundle.tN "SUPPRESSED_SENTINEL" Bundle.listD)) (of_decide_eq_true (by decide +kernel))) hA
  obtain ⟨vf, hvf, hvz⟩ : ∃ v : Value, (v = .null ∨ ∃ a, v = .ref a) ∧ va_Z "jdk/internal/util/Preconditions" "SIOOBE_FORMATTER" "Ljava/util/function/BiFunction;" v (fun q => s.heap.size ≤ q) s s.heap := by
    rcases zf with z | ⟨t, z⟩
    · exact ⟨.null, Or.inl rfl, z⟩
    · exact ⟨.ref t, Or.inr ⟨t, rfl⟩, z⟩
  have lt35 : ∀ (k : Nat) (q : Nat × Nat × String × Nat), pm_SR[k]? = some q → k < 35 := fun k q hk => (List.getElem?_eq_some_iff.mp hk).1
  have getD9 : ∀ (k : Nat) (q : Nat × Nat × String × Nat), pm_SR[k]? = some q → pm_SR.getD k (0, 0, "", 0) = q := fun k q hk => by
    rw [List.getD_eq_getElem?_getD, hk]
    rfl
  refine ⟨((fun k => (fc k).1, fun k => (fc k).2), (fun t => if t = 0 then aI else if t = 1 then aJ else if t = 2 then aB else aZ), (fun k => (fs k).1), (fun k => (fs k).2), (fun _ => vf), b, L, xs), ⟨⟨fun k q hk => ?_, fun k q hk => ?_⟩, hX, hbl, hA b hbl, fun _ => hvf, fun q hq => hq, zu, zs, fun k q hk => ?_, fun w hwm => ?_, fun q hq => ?_, fun k q hk => ?_, zc, hvz⟩, rfl⟩
  · have h10 : k < 10 := (List.getElem?_eq_some_iff.mp hk).1
    have e := (pm_vw k h10).symm.trans hk
    cases e
    exact hfc k h10
  · match k, hk with
    | 0, hk => cases hk; exact ⟨aI1, aI2⟩
    | 1, hk => cases hk; exact ⟨aJ1, aJ2⟩
    | 2, hk => cases hk; exact ⟨aB1, aB2⟩
    | 3, hk => cases hk; exact ⟨aZ1, aZ2⟩
    | k + 4, hk => cases hk
  · have h1 := (hfs k (lt35 k q hk)).1
    unfold ls_T at h1
    rw [getD9 k q hk] at h1
    have h2 : (Cond.stringRef (pm_cn q.1) q.2.1 q.2.2.1).before #[Value.ref b] s = true := hts _ (List.mem_of_getElem? (of_decide_eq_true (List.all_eq_true.mp pm_SR_ok q (List.mem_of_getElem? hk))))
    exact ⟨va_tabs rfl rfl h2, by rw [← h1]; exact Term.string_eval_of_vm (args := #[]) rfl⟩
  · exact va_tabs (px_ot w (List.mem_filter.mp hwm).2) rfl (hts w (List.mem_filter.mp hwm).1)
  · have hn : ∀ q ∈ pm_ncs, Cond.not (.castable q.1 q.2) ∈ ls_FL := by decide +kernel
    exact va_Nc.of (ls_at hgv (hn q hq))
  · have h1 := (hfs k (lt35 k q hk)).2
    rw [pm_tx_at hk] at h1
    exact h1
