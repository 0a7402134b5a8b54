/-! One instruction of the pure machine is one of the real one's. -/
def pm_lv (f : Value → Value) (L : List (Option Value)) : List (Nat × Value) := (List.range L.length).filterMap (fun i => match L[i]? with
  | some (some v) => some (i, f v)
  | _ => none)
theorem pm_lv_mem {f : Value → Value} {L : List (Option Value)} {i : Nat} {v : Value} (h : L[i]? = some (some v)) : (i, f v) ∈ pm_lv f L :=
  List.mem_filterMap.mpr ⟨i, List.mem_range.mpr (List.getElem?_eq_some_iff.mp h).1, by rw [h]⟩
theorem pm_lc_has {f : Value → Value} {L : List (Option Value)} {ls : Array Slot} (h : pm_lc f L ls) : lv_has ls L.length (pm_lv f L) := by
  refine ⟨h.1, h.2.1, fun q hq => ?_⟩
  obtain ⟨i, -, hi⟩ := List.mem_filterMap.mp hq
  split at hi
  · rename_i v hv
    cases hi
    exact h.2.2 i v hv
  · cases hi
theorem pm_s1_len (L : List (Option Value)) (i : Nat) (v : Value) : (pm_s1 L i v).length = L.length := by
  unfold pm_s1
  split <;> simp
theorem pm_s1_get {L : List (Option Value)} {i j : Nat} {v w : Value} (hi : i < L.length) (h : (pm_s1 L i v)[j]? = some (some w)) : (j = i ∧ w = v) ∨ (j ≠ i ∧ L[j]? = some (some w) ∧ ¬ (j + 1 = i ∧ ∃ x, w = .long x)) := by
  unfold pm_s1 at h
  by_cases hj : j = i
  · subst hj
    left
    refine ⟨rfl, ?_⟩
    split at h
    · rw [List.getElem?_set_self (by simpa using hi)] at h
      exact (Option.some.inj (Option.some.inj h)).symm
    · rw [List.getElem?_set_self hi] at h
      exact (Option.some.inj (Option.some.inj h)).symm
  · right
    refine ⟨hj, ?_⟩
    split at h
    · rw [List.getElem?_set_ne (fun e => hj e.symm)] at h
      by_cases hk : j = i - 1
      · subst hk
        rw [List.getElem?_set_self (by omega)] at h
        cases h
      · rw [List.getElem?_set_ne (fun e => hk e.symm)] at h
        exact ⟨h, fun q => hk (by omega)⟩
    · rename_i hnl
      rw [List.getElem?_set_ne (fun e => hj e.symm)] at h
      refine ⟨h, fun q => ?_⟩
      obtain ⟨q1, x, q2⟩ := q
      subst q2
      exact hnl x (by rw [show i - 1 = j by omega]; exact h)
theorem pm_lc_s1 {f : Value → Value} {L : List (Option Value)} {ls : Array Slot} {i : Nat} {v : Value} (hcat : ∀ w, (f w).category = 2 → ∃ x, w = .long x) (hi : i < L.length) (h : lv_has ls L.length ((i, f v) :: (pm_lv f L).filter (fun q => !(q.1 == i) && !(q.1 + 1 == i && q.2.category == 2)))) : pm_lc f (pm_s1 L i v) ls := by
  refine ⟨by rw [pm_s1_len]; exact h.1, h.2.1, fun j w hw => ?_⟩
  rcases pm_s1_get hi hw with ⟨rfl, rfl⟩ | ⟨h1, h2, h3⟩
  · exact h.2.2 (j, f w) List.mem_cons_self
  · refine h.2.2 (j, f w) (List.mem_cons_of_mem _ (List.mem_filter.mpr ⟨pm_lv_mem h2, ?_⟩))
    have a1 : (j == i) = false := by simpa using h1
    by_cases e : j + 1 = i
    · have a2 : ((f w).category == 2) = false := by
        rcases lv_cat (f w) with q | q
        · rw [q]; rfl
        · exact absurd ⟨e, hcat w q⟩ h3
      simp [a1, a2]
    · simp [a1, e]
theorem pm_lc_s2 {f : Value → Value} {L : List (Option Value)} {ls : Array Slot} {i : Nat} {v : Value} (hcat : ∀ w, (f w).category = 2 → ∃ x, w = .long x) (hi : i + 1 < L.length) (h : lv_has ls L.length ((i, f v) :: (pm_lv f L).filter (fun q => !(q.1 == i) && (!(q.1 == i + 1) && !(q.1 + 1 == i && q.2.category == 2))))) : pm_lc f (pm_s2 L i v) ls := by
  refine ⟨by unfold pm_s2; rw [List.length_set, pm_s1_len]; exact h.1, h.2.1, fun j w hw => ?_⟩
  unfold pm_s2 at hw
  by_cases hj : j = i + 1
  · subst hj
    rw [List.getElem?_set_self (by rw [pm_s1_len]; exact hi)] at hw
    cases hw
  · rw [List.getElem?_set_ne (fun e => hj e.symm)] at hw
    rcases pm_s1_get (by omega) hw with ⟨rfl, rfl⟩ | ⟨h1, h2, h3⟩
    · exact h.2.2 (j, f w) List.mem_cons_self
    · refine h.2.2 (j, f w) (List.mem_cons_of_mem _ (List.mem_filter.mpr ⟨pm_lv_mem h2, ?_⟩))
      have a1 : (j == i) = false := by simpa using h1
      have a3 : (j == i + 1) = false := by simpa using hj
      by_cases e : j + 1 = i
      · have a2 : ((f w).category == 2) = false := by
          rcases lv_cat (f w) with q | q
          · rw [q]; rfl
          · exact absurd ⟨e, hcat w q⟩ h3
        simp [a1, a2, a3]
      · simp [a1, a3, e]
/-- a method's body: the machine, the code, the words; its room -/
def pm_Cx (m d : Nat) (p : Program) (R : Room) (s : State) (mid : MethodId) (args : Array Value) (meth : Method) (c : Code) : Prop :=
  p.tables.exec = Jvm.exec ∧ c.code = pm_cd m ∧ c.maxLocals = pm_ml m ∧ meth.sig.returnType = pm_rt m ∧ meth.locks = false ∧ s.vm.findClass (pm_cn (pm_oc m)) = some mid.cls ∧ (∀ w ∈ pm_ws, w.before args s = true) ∧ c.exceptionTable.toList = tableOf (pm_hh m) ∧ ((pm_y m).name = "<init>" → meth.name = "<init>") ∧ d ≤ R.frames ∧ 40 * d ≤ R.locals
/-- words that a change of the tables could spoil, as far as the kinds tell: they are carried along -/
def pm_isn (w : Cond) : Bool := match w with
  | .declares _ => true
  | .castable _ _ => true
  | .methodLinkNest _ _ _ _ => true
  | _ => false
def pm_nb : List Cond := lw_tbl.filter pm_isn
def pm_ncs : List (String × String) := [("java/lang/IllegalStateException", "java/lang/IllegalArgumentException"), ("java/lang/IllegalStateException", "java/util/NoSuchElementException"), ("java/lang/IllegalArgumentException", "java/lang/IllegalStateException"), ("java/lang/IllegalArgumentException", "java/util/NoSuchElementException"), ("java/util/NoSuchElementException", "java/lang/IllegalStateException"), ("java/util/NoSuchElementException", "java/lang/IllegalArgumentException")]
/-- the byte at j of a text -/
def pm_by (t : String) (j : Nat) : Int32 := Int32.ofNat ((t.toList.getD j 'a').toNat)
/-- what the String constants hold, and two statics of the library -/
def pm_stx (G : pm_G) (A : Nat → Prop) (s : State) : Prop :=
  (∀ (k : Nat) (q : Nat × Nat × String × Nat), pm_SR[k]? = some q → va_O "java/lang/String" (G.2.2.1 k) A s s.heap ∧ va_OF "java/lang/String" "coder" "B" (.int 0) (G.2.2.1 k) A s s.heap ∧ va_OF "java/lang/String" "value" "[B" (.ref (G.2.2.2.1 k)) (G.2.2.1 k) A s s.heap ∧ va_T .byte (G.2.2.2.1 k) q.2.2.1.length (fun j => .int (pm_by q.2.2.1 j)) A s s.heap) ∧
  va_Z "java/lang/String" "COMPACT_STRINGS" "Z" (.int 1) A s s.heap ∧ va_Z "jdk/internal/util/Preconditions" "SIOOBE_FORMATTER" "Ljava/util/function/BiFunction;" (G.2.2.2.2.1 0) A s s.heap
theorem pm_stx.to {G : pm_G} {A B : Nat → Prop} {u U : State} (hal : u.vm.Alike U.vm) (keep : ∀ a : Nat, a < u.heap.size → ¬ A a → U.heap[a]? = u.heap[a]?) (hAB : ∀ q, B q → A q) (h : pm_stx G A u) : pm_stx G B U := by
  obtain ⟨h1, h2, h3⟩ := h
  refine ⟨fun k q hk => ?_, va_Z.moved hal ((h2.kept keep).narrow hAB), va_Z.moved hal ((h3.kept keep).narrow hAB)⟩
  obtain ⟨g1, g2, g3, g4⟩ := h1 k q hk
  exact ⟨va_O.moved hal ((g1.kept keep).narrow hAB), va_OF.moved hal ((g2.kept keep).narrow hAB), va_OF.moved hal ((g3.kept keep).narrow hAB), va_T.moved hal ((g4.kept keep).narrow hAB)⟩
/-- the String constants are theirs for ever, and what a throw asks of the library -/
def pm_sx (G : pm_G) (A : Nat → Prop) (s : State) : Prop :=
  vx_Zq Bundle.tN "UNASSIGNED_STACK" Bundle.steD A s s.heap ∧ vx_Zq Bundle.tN "SUPPRESSED_SENTINEL" Bundle.listD A s s.heap ∧
  (∀ (k : Nat) (q : Nat × Nat × String × Nat), pm_SR[k]? = some q → vk_R (pm_cn q.1) q.2.1 q.2.2.1 (G.2.2.1 k) s) ∧ (∀ w ∈ pm_nb, va_Nw w s) ∧ (∀ q ∈ pm_ncs, va_Nc q.1 q.2 s) ∧ pm_stx G A s
/-- what a body stands on beside its cells -/
def pm_Wd (G : pm_G) (A : Nat → Prop) (s : State) : Prop :=
  va_K G.1 vwCl (pm_tl G) s ∧ va_X G.2.2.2.2.2.1 G.2.2.2.2.2.2.1 G.2.2.2.2.2.2.2 s s.heap ∧ G.2.2.2.2.2.1 < s.heap.size ∧ ¬ A G.2.2.2.2.2.1 ∧ (∀ w, G.2.2.2.2.1 w = .null ∨ ∃ a, G.2.2.2.2.1 w = .ref a) ∧ (∀ q, s.heap.size ≤ q → A q) ∧ pm_sx G A s
/-- the state of a body: its locals, its stack, its cells -/
def pm_rel (G : pm_G) (ad : Nat → Nat) (A : Nat → Prop) (s : State) (L : List (Option Value)) (S : List Value) (h : pm_H) (ls : Array Slot) (H : Heap) (locs : List Loc) (ws : va_W) : Prop :=
  pm_lc (pm_cv G ad) L ls ∧ (∀ (i : Nat) (v : Value), L[i]? = some (some v) → pm_ok h v) ∧ (∀ v ∈ S, pm_ok h v) ∧ pm_hp G ad h ws ∧ va_P G.1 vwCl ws H ∧ va_D A ws ∧ va_S A s.heap H locs
theorem pm_cat {G : pm_G} {ad : Nat → Nat} (hj : ∀ w, G.2.2.2.2.1 w = .null ∨ ∃ a, G.2.2.2.2.1 w = .ref a) : ∀ w, (pm_cv G ad w).category = 2 → ∃ x, w = .long x := by
  intro w h
  cases w with
  | long x => exact ⟨x, rfl⟩
  | float b =>
    rcases hj b with q | ⟨a, q⟩
    · have h : (G.2.2.2.2.1 b).category = 2 := h
      rw [q] at h; cases h
    · have h : (G.2.2.2.2.1 b).category = 2 := h
      rw [q] at h; cases h
  | int x => cases h
  | ref x => cases h
  | retAddr x => cases h
  | double x => cases h
  | null => cases h
theorem pm_sum_eq {G : pm_G} {ad : Nat → Nat} (hj : ∀ w, G.2.2.2.2.1 w = .null ∨ ∃ a, G.2.2.2.2.1 w = .ref a) : ∀ S : List Value, ((S.map (pm_cv G ad)).map fun v => v.category).sum ≤ pm_sum S := by
  intro S
  induction S with
  | nil => exact Nat.le_refl _
  | cons v t ih =>
    show (pm_cv G ad v).category + _ ≤ (match v with | .long _ => 2 | .double _ => 2 | _ => 1) + pm_sum t
    have h1 : (pm_cv G ad v).category ≤ (match v with | .long _ => 2 | .double _ => 2 | _ => 1) := by
      cases v with
      | float b =>
        rcases hj b with q | ⟨a, q⟩
        · show (G.2.2.2.2.1 b).category ≤ 1
          rw [q]; exact Nat.le_refl _
        · show (G.2.2.2.2.1 b).category ≤ 1
          rw [q]; exact Nat.le_refl _
      | int x => exact Nat.le_refl _
      | long x => exact Nat.le_refl _
      | ref x => exact Nat.le_refl _
      | retAddr x => exact Nat.le_refl _
      | double x => exact Nat.le_succ _
      | null => exact Nat.le_refl _
    exact Nat.add_le_add h1 ih
