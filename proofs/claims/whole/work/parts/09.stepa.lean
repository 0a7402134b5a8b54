section PMS
variable {m d : Nat} {p : Program} {l : Launch} {e : Env} {R : Room} {s : State} {mid : MethodId} {args : Array Value} {below : List Frame} {meth : Method} {c : Code} {Q : State → Prop} {G : pm_G} {A : Nat → Prop} {c0 s0 : Nat} {ad : Nat → Nat}
/-- the frame f comes to Q from every state that it stands for -/
def pm_at (p : Program) (l : Launch) (e : Env) (R : Room) (s : State) (mid : MethodId) (args : Array Value) (below : List Frame) (meth : Method) (c : Code) (Q : State → Prop) (G : pm_G) (A : Nat → Prop) (c0 s0 : Nat) (ad : Nat → Nat) (f : pm_F) : Prop :=
  ∀ (ls : Array Slot) (H : Heap) (locs : List Loc) (ws : va_W), pm_rel G ad A s f.2.1 f.2.2.1 f.2.2.2 ls H locs ws → W p l e R s mid args below meth c H locs (f.2.2.2.2.2.1 - c0) (f.2.2.2.2.2.2 - s0) Q (F0 mid f.1 ls (f.2.2.1.map (pm_cv G ad)))
theorem pm_rel.stk {L : List (Option Value)} {S S' : List Value} {h : pm_H} {ls : Array Slot} {H : Heap} {locs : List Loc} {ws : va_W} (hr : pm_rel G ad A s L S h ls H locs ws) (hS : ∀ v ∈ S', pm_ok h v) : pm_rel G ad A s L S' h ls H locs ws := ⟨hr.1, hr.2.1, hS, hr.2.2.2⟩
theorem pm_ok_int {h : pm_H} (x : Int32) : pm_ok h (.int x) := fun i e => by cases e
theorem pm_ok_long {h : pm_H} (x : Int64) : pm_ok h (.long x) := fun i e => by cases e
theorem pm_ok_null {h : pm_H} : pm_ok h .null := fun i e => by cases e
theorem pm_ok_ra {h : pm_H} (x : Nat) : pm_ok h (.retAddr x) := fun i e => by cases e
theorem pm_oks {h : pm_H} {v : Value} {S : List Value} (hv : pm_ok h v) (hS : ∀ v ∈ S, pm_ok h v) : ∀ w ∈ v :: S, pm_ok h w := fun w hw => by
  rcases List.mem_cons.mp hw with q | q
  · rw [q]; exact hv
  · exact hS w q
theorem pm_okt {h : pm_H} {v : Value} {S : List Value} (hS : ∀ w ∈ v :: S, pm_ok h w) : ∀ w ∈ S, pm_ok h w := fun w hw => hS w (List.mem_cons_of_mem _ hw)
theorem pm_lda_ok {i pc pc' : Nat} {L : List (Option Value)} {S : List Value} {h : pm_H} {P : Option Prop} {f : pm_F}
    (row : ∀ {ls : Array Slot} {H : Heap} {locs : List Loc} {cells slots x : Nat} {rest : List Value}, ls[i]? = some (.val (.ref x)) → W p l e R s mid args below meth c H locs cells slots Q (F0 mid pc' ls (.ref x :: rest)) → W p l e R s mid args below meth c H locs cells slots Q (F0 mid pc ls rest))
    (rowN : ∀ {ls : Array Slot} {H : Heap} {locs : List Loc} {cells slots : Nat} {rest : List Value}, ls[i]? = some (.val .null) → W p l e R s mid args below meth c H locs cells slots Q (F0 mid pc' ls (.null :: rest)) → W p l e R s mid args below meth c H locs cells slots Q (F0 mid pc ls rest))
    (hx : pm_lda i pc' L S h = some (P, f)) (kk : pm_at p l e R s mid args below meth c Q G A c0 s0 ad f) : pm_at p l e R s mid args below meth c Q G A c0 s0 ad (pc, L, S, h) := by
  unfold pm_lda at hx
  split at hx
  · rename_i x hL
    cases hx
    intro ls H locs ws hr
    exact row (hr.1.2.2 i _ hL) (kk ls H locs ws (hr.stk (pm_oks (hr.2.1 i _ hL) hr.2.2.1)))
  · rename_i x hL
    cases hx
    intro ls H locs ws hr
    exact row (hr.1.2.2 i _ hL) (kk ls H locs ws (hr.stk (pm_oks (pm_ok_ra x) hr.2.2.1)))
  · rename_i hL
    cases hx
    intro ls H locs ws hr
    exact rowN (hr.1.2.2 i _ hL) (kk ls H locs ws (hr.stk (pm_oks pm_ok_null hr.2.2.1)))
  · cases hx
theorem pm_ldi_ok {i pc pc' : Nat} {L : List (Option Value)} {S : List Value} {h : pm_H} {P : Option Prop} {f : pm_F}
    (row : ∀ {ls : Array Slot} {H : Heap} {locs : List Loc} {cells slots : Nat} {x : Int32} {rest : List Value}, ls[i]? = some (.val (.int x)) → W p l e R s mid args below meth c H locs cells slots Q (F0 mid pc' ls (.int x :: rest)) → W p l e R s mid args below meth c H locs cells slots Q (F0 mid pc ls rest))
    (hx : pm_ldi i pc' L S h = some (P, f)) (kk : pm_at p l e R s mid args below meth c Q G A c0 s0 ad f) : pm_at p l e R s mid args below meth c Q G A c0 s0 ad (pc, L, S, h) := by
  unfold pm_ldi at hx
  split at hx
  · rename_i x hL
    cases hx
    intro ls H locs ws hr
    exact row (hr.1.2.2 i _ hL) (kk ls H locs ws (hr.stk (pm_oks (pm_ok_int x) hr.2.2.1)))
  · cases hx
theorem pm_ldl_ok {i pc pc' : Nat} {L : List (Option Value)} {S : List Value} {h : pm_H} {P : Option Prop} {f : pm_F}
    (row : ∀ {ls : Array Slot} {H : Heap} {locs : List Loc} {cells slots : Nat} {x : Int64} {rest : List Value}, ls[i]? = some (.val (.long x)) → W p l e R s mid args below meth c H locs cells slots Q (F0 mid pc' ls (.long x :: rest)) → W p l e R s mid args below meth c H locs cells slots Q (F0 mid pc ls rest))
    (hx : pm_ldl i pc' L S h = some (P, f)) (kk : pm_at p l e R s mid args below meth c Q G A c0 s0 ad f) : pm_at p l e R s mid args below meth c Q G A c0 s0 ad (pc, L, S, h) := by
  unfold pm_ldl at hx
  split at hx
  · rename_i x hL
    cases hx
    intro ls H locs ws hr
    exact row (hr.1.2.2 i _ hL) (kk ls H locs ws (hr.stk (pm_oks (pm_ok_long x) hr.2.2.1)))
  · cases hx
/-- locals and their heap behind a store -/
theorem pm_s1_ok {L : List (Option Value)} {h : pm_H} {i : Nat} {v : Value} (hi : i < L.length) (hL : ∀ (j : Nat) (w : Value), L[j]? = some (some w) → pm_ok h w) (hv : pm_ok h v) : ∀ (j : Nat) (w : Value), (pm_s1 L i v)[j]? = some (some w) → pm_ok h w := fun j w hw => by
  rcases pm_s1_get hi hw with ⟨-, rfl⟩ | ⟨-, q, -⟩
  · exact hv
  · exact hL j w q
theorem pm_s2_ok {L : List (Option Value)} {h : pm_H} {i : Nat} {v : Value} (hi : i + 1 < L.length) (hL : ∀ (j : Nat) (w : Value), L[j]? = some (some w) → pm_ok h w) (hv : pm_ok h v) : ∀ (j : Nat) (w : Value), (pm_s2 L i v)[j]? = some (some w) → pm_ok h w := fun j w hw => by
  unfold pm_s2 at hw
  by_cases hj : j = i + 1
  · subst hj
    rw [List.getElem?_set_self (by rw [pm_s1_len]; exact hi)] at hw
    cases hw
  · rw [List.getElem?_set_ne (fun e => hj e.symm)] at hw
    exact pm_s1_ok (by omega) hL hv j w hw
/-- a store of one word -/
theorem pm_sto {i pc pc' : Nat} {L : List (Option Value)} {S : List Value} {h : pm_H} {v : Value} (hj : ∀ w, G.2.2.2.2.1 w = .null ∨ ∃ a, G.2.2.2.2.1 w = .ref a) (hi : i < L.length)
    (row : ∀ {ls : Array Slot} {H : Heap} {locs : List Loc} {cells slots nL : Nat} {lv : List (Nat × Value)} {rest : List Value}, lv_has ls nL lv → i < nL → (∀ ls' : Array Slot, lv_has ls' nL ((i, pm_cv G ad v) :: lv.filter (fun q => !(q.1 == i) && !(q.1 + 1 == i && q.2.category == 2))) → W p l e R s mid args below meth c H locs cells slots Q (F0 mid pc' ls' rest)) → W p l e R s mid args below meth c H locs cells slots Q (F0 mid pc ls (pm_cv G ad v :: rest)))
    (kk : pm_at p l e R s mid args below meth c Q G A c0 s0 ad (pc', pm_s1 L i v, S, h)) : pm_at p l e R s mid args below meth c Q G A c0 s0 ad (pc, L, v :: S, h) := by
  intro ls H locs ws hr
  refine row (pm_lc_has hr.1) hi (fun ls' h' => ?_)
  exact kk ls' H locs ws ⟨pm_lc_s1 (pm_cat hj) hi h', pm_s1_ok hi hr.2.1 (hr.2.2.1 v List.mem_cons_self), pm_okt hr.2.2.1, hr.2.2.2⟩
theorem pm_sti_ok {i pc pc' : Nat} {L : List (Option Value)} {S : List Value} {h : pm_H} {P : Option Prop} {f : pm_F} (hj : ∀ w, G.2.2.2.2.1 w = .null ∨ ∃ a, G.2.2.2.2.1 w = .ref a)
    (row : ∀ {ls : Array Slot} {H : Heap} {locs : List Loc} {cells slots nL : Nat} {x : Int32} {lv : List (Nat × Value)} {rest : List Value}, lv_has ls nL lv → i < nL → (∀ ls' : Array Slot, lv_has ls' nL ((i, Value.int x) :: lv.filter (fun q => !(q.1 == i) && !(q.1 + 1 == i && q.2.category == 2))) → W p l e R s mid args below meth c H locs cells slots Q (F0 mid pc' ls' rest)) → W p l e R s mid args below meth c H locs cells slots Q (F0 mid pc ls (.int x :: rest)))
    (hx : pm_sti i pc' L S h = some (P, f)) (kk : pm_at p l e R s mid args below meth c Q G A c0 s0 ad f) : pm_at p l e R s mid args below meth c Q G A c0 s0 ad (pc, L, S, h) := by
  unfold pm_sti at hx
  split at hx
  · split at hx
    · rename_i hi
      cases hx
      exact pm_sto hj (by simpa [Nat.blt_eq] using hi) (fun a b k => row a b k) kk
    · cases hx
  · cases hx
theorem pm_sta_ok {i pc pc' : Nat} {L : List (Option Value)} {S : List Value} {h : pm_H} {P : Option Prop} {f : pm_F} (hj : ∀ w, G.2.2.2.2.1 w = .null ∨ ∃ a, G.2.2.2.2.1 w = .ref a)
    (row : ∀ {ls : Array Slot} {H : Heap} {locs : List Loc} {cells slots nL x : Nat} {lv : List (Nat × Value)} {rest : List Value}, lv_has ls nL lv → i < nL → (∀ ls' : Array Slot, lv_has ls' nL ((i, Value.ref x) :: lv.filter (fun q => !(q.1 == i) && !(q.1 + 1 == i && q.2.category == 2))) → W p l e R s mid args below meth c H locs cells slots Q (F0 mid pc' ls' rest)) → W p l e R s mid args below meth c H locs cells slots Q (F0 mid pc ls (.ref x :: rest)))
    (rowN : ∀ {ls : Array Slot} {H : Heap} {locs : List Loc} {cells slots nL : Nat} {lv : List (Nat × Value)} {rest : List Value}, lv_has ls nL lv → i < nL → (∀ ls' : Array Slot, lv_has ls' nL ((i, Value.null) :: lv.filter (fun q => !(q.1 == i) && !(q.1 + 1 == i && q.2.category == 2))) → W p l e R s mid args below meth c H locs cells slots Q (F0 mid pc' ls' rest)) → W p l e R s mid args below meth c H locs cells slots Q (F0 mid pc ls (.null :: rest)))
    (hx : pm_sta i pc' L S h = some (P, f)) (kk : pm_at p l e R s mid args below meth c Q G A c0 s0 ad f) : pm_at p l e R s mid args below meth c Q G A c0 s0 ad (pc, L, S, h) := by
  unfold pm_sta at hx
  split at hx
  · rename_i hi
    have hi : i < L.length := by simpa [Nat.blt_eq] using hi
    split at hx
    · cases hx
      exact pm_sto hj hi (fun a b k => row a b k) kk
    · cases hx
      exact pm_sto hj hi (fun a b k => row a b k) kk
    · cases hx
      exact pm_sto hj hi (fun a b k => rowN a b k) kk
    · cases hx
  · cases hx
theorem pm_stl_ok {i pc pc' : Nat} {L : List (Option Value)} {S : List Value} {h : pm_H} {P : Option Prop} {f : pm_F} (hj : ∀ w, G.2.2.2.2.1 w = .null ∨ ∃ a, G.2.2.2.2.1 w = .ref a)
    (row : ∀ {ls : Array Slot} {H : Heap} {locs : List Loc} {cells slots nL : Nat} {x : Int64} {lv : List (Nat × Value)} {rest : List Value}, lv_has ls nL lv → i + 1 < nL → (∀ ls' : Array Slot, lv_has ls' nL ((i, Value.long x) :: lv.filter (fun q => !(q.1 == i) && (!(q.1 == i + 1) && !(q.1 + 1 == i && q.2.category == 2)))) → W p l e R s mid args below meth c H locs cells slots Q (F0 mid pc' ls' rest)) → W p l e R s mid args below meth c H locs cells slots Q (F0 mid pc ls (.long x :: rest)))
    (hx : pm_stl i pc' L S h = some (P, f)) (kk : pm_at p l e R s mid args below meth c Q G A c0 s0 ad f) : pm_at p l e R s mid args below meth c Q G A c0 s0 ad (pc, L, S, h) := by
  unfold pm_stl at hx
  split at hx
  · rename_i x S'
    split at hx
    · rename_i hi
      have hi : i + 1 < L.length := by simpa [Nat.blt_eq] using hi
      cases hx
      intro ls H locs ws hr
      refine row (pm_lc_has hr.1) hi (fun ls' h' => ?_)
      exact kk ls' H locs ws ⟨pm_lc_s2 (pm_cat hj) hi h', pm_s2_ok hi hr.2.1 (hr.2.2.1 _ List.mem_cons_self), pm_okt hr.2.2.1, hr.2.2.2⟩
    · cases hx
  · cases hx
theorem pm_i1_ok {pc pc' : Nat} {g : Int32 → Int32} {L : List (Option Value)} {S : List Value} {h : pm_H} {P : Option Prop} {f : pm_F}
    (row : ∀ {ls : Array Slot} {H : Heap} {locs : List Loc} {cells slots : Nat} {x : Int32} {rest : List Value}, W p l e R s mid args below meth c H locs cells slots Q (F0 mid pc' ls (.int (g x) :: rest)) → W p l e R s mid args below meth c H locs cells slots Q (F0 mid pc ls (.int x :: rest)))
    (hx : pm_i1 g pc' L S h = some (P, f)) (kk : pm_at p l e R s mid args below meth c Q G A c0 s0 ad f) : pm_at p l e R s mid args below meth c Q G A c0 s0 ad (pc, L, S, h) := by
  unfold pm_i1 at hx
  split at hx
  · cases hx
    intro ls H locs ws hr
    exact row (kk ls H locs ws (hr.stk (pm_oks (pm_ok_int _) (pm_okt hr.2.2.1))))
  · cases hx
theorem pm_i2_ok {pc pc' : Nat} {g : Int32 → Int32 → Int32} {L : List (Option Value)} {S : List Value} {h : pm_H} {P : Option Prop} {f : pm_F}
    (row : ∀ {ls : Array Slot} {H : Heap} {locs : List Loc} {cells slots : Nat} {x y : Int32} {rest : List Value}, W p l e R s mid args below meth c H locs cells slots Q (F0 mid pc' ls (.int (g x y) :: rest)) → W p l e R s mid args below meth c H locs cells slots Q (F0 mid pc ls (.int y :: .int x :: rest)))
    (hx : pm_i2 g pc' L S h = some (P, f)) (kk : pm_at p l e R s mid args below meth c Q G A c0 s0 ad f) : pm_at p l e R s mid args below meth c Q G A c0 s0 ad (pc, L, S, h) := by
  unfold pm_i2 at hx
  split at hx
  · cases hx
    intro ls H locs ws hr
    exact row (kk ls H locs ws (hr.stk (pm_oks (pm_ok_int _) (pm_okt (pm_okt hr.2.2.1)))))
  · cases hx
theorem pm_d2_ok {pc pc' : Nat} {g : Int32 → Int32 → Int32} {L : List (Option Value)} {S : List Value} {h : pm_H} {P : Option Prop} {f : pm_F}
    (row : ∀ {ls : Array Slot} {H : Heap} {locs : List Loc} {cells slots : Nat} {x y : Int32} {rest : List Value}, ¬ y = 0 → W p l e R s mid args below meth c H locs cells slots Q (F0 mid pc' ls (.int (g x y) :: rest)) → W p l e R s mid args below meth c H locs cells slots Q (F0 mid pc ls (.int y :: .int x :: rest)))
    (hx : pm_d2 g pc' L S h = some (P, f)) (hP : ∀ q, P = some q → q) (kk : pm_at p l e R s mid args below meth c Q G A c0 s0 ad f) : pm_at p l e R s mid args below meth c Q G A c0 s0 ad (pc, L, S, h) := by
  unfold pm_d2 at hx
  split at hx
  · cases hx
    intro ls H locs ws hr
    exact row (hP _ rfl) (kk ls H locs ws (hr.stk (pm_oks (pm_ok_int _) (pm_okt (pm_okt hr.2.2.1)))))
  · cases hx
theorem pm_l2_ok {pc pc' : Nat} {g : Int64 → Int64 → Int64} {L : List (Option Value)} {S : List Value} {h : pm_H} {P : Option Prop} {f : pm_F}
    (row : ∀ {ls : Array Slot} {H : Heap} {locs : List Loc} {cells slots : Nat} {x y : Int64} {rest : List Value}, W p l e R s mid args below meth c H locs cells slots Q (F0 mid pc' ls (.long (g x y) :: rest)) → W p l e R s mid args below meth c H locs cells slots Q (F0 mid pc ls (.long y :: .long x :: rest)))
    (hx : pm_l2 g pc' L S h = some (P, f)) (kk : pm_at p l e R s mid args below meth c Q G A c0 s0 ad f) : pm_at p l e R s mid args below meth c Q G A c0 s0 ad (pc, L, S, h) := by
  unfold pm_l2 at hx
  split at hx
  · cases hx
    intro ls H locs ws hr
    exact row (kk ls H locs ws (hr.stk (pm_oks (pm_ok_long _) (pm_okt (pm_okt hr.2.2.1)))))
  · cases hx
theorem pm_dl2_ok {pc pc' : Nat} {g : Int64 → Int64 → Int64} {L : List (Option Value)} {S : List Value} {h : pm_H} {P : Option Prop} {f : pm_F}
    (row : ∀ {ls : Array Slot} {H : Heap} {locs : List Loc} {cells slots : Nat} {x y : Int64} {rest : List Value}, ¬ y = 0 → W p l e R s mid args below meth c H locs cells slots Q (F0 mid pc' ls (.long (g x y) :: rest)) → W p l e R s mid args below meth c H locs cells slots Q (F0 mid pc ls (.long y :: .long x :: rest)))
    (hx : pm_dl2 g pc' L S h = some (P, f)) (hP : ∀ q, P = some q → q) (kk : pm_at p l e R s mid args below meth c Q G A c0 s0 ad f) : pm_at p l e R s mid args below meth c Q G A c0 s0 ad (pc, L, S, h) := by
  unfold pm_dl2 at hx
  split at hx
  · cases hx
    intro ls H locs ws hr
    exact row (hP _ rfl) (kk ls H locs ws (hr.stk (pm_oks (pm_ok_long _) (pm_okt (pm_okt hr.2.2.1)))))
  · cases hx
end PMS
