section PMS
variable {m d : Nat} {p : Program} {l : Launch} {e : Env} {R : Room} {s : State} {mid : MethodId} {args : Array Value} {below : List Frame} {meth : Method} {c : Code} {Q : State → Prop} {G : pm_G} {A : Nat → Prop} {c0 s0 : Nat} {ad : Nat → Nat}
theorem pm_nscr_a {u : Nat} {x : vp_A} (h : u ≠ 9) : ¬ pm_scr (.inl (u, x)) := fun ⟨_, q⟩ => by
  injection q with q
  injection q with q
  exact h q
theorem pm_al0_ok {cc : ByteArray} (hexec : p.tables.exec = Jvm.exec) (hb : c.code = cc) (hW : pm_Wd G A s) {pc : Nat} {L : List (Option Value)} {S : List Value} {h : pm_H} {P : Option Prop} {f : pm_F} (hd : decode cc pc = .ok (.iaload, 1))
    (hx : pm_al 0 (pc + 1) L S h = some (P, f)) (hP : ∀ q, P = some q → q) (kk : pm_at p l e R s mid args below meth c Q G A c0 s0 ad f) : pm_at p l e R s mid args below meth c Q G A c0 s0 ad (pc, L, S, h) := by
  unfold pm_al at hx
  split at hx
  · rename_i i a S'
    split at hx
    · rename_i u n g hlk
      split at hx
      · rename_i hbq
        simp only [Nat.beq_eq, Bool.or_eq_true, Bool.and_eq_true] at hbq
        cases hx
        intro ls H locs ws hr
        have hr' := hr.stk (S' := .int (g i.toNatClampNeg) :: S') (pm_oks (pm_ok_int _) (pm_okt (pm_okt hr.2.2.1)))
        have hin : vp_in i n := hP _ rfl
        by_cases hu : u = 9
        · subst hu
          obtain ⟨q1, q2⟩ := hr.2.2.2.1.2.1 a _ hlk ⟨_, rfl⟩
          injection q2 with q2
          injection q2 with _ q2
          injection q2 with q2 q3
          injection q3 with q3
          subst q2 q3
          have key := va_sld (A := A) hexec hb hW.2.1 hW.2.2.1 hW.2.2.2.1 hr.2.2.2.2.2.2 hin hd (kk ls H locs ws hr')
          show W p l e R s mid args below meth c H locs (h.2.2.1 - c0) (h.2.2.2 - s0) Q (F0 mid pc ls (.int i :: .ref (ad a) :: S'.map (pm_cv G ad)))
          rw [q1]
          exact key
        · have hu0 : u = 0 := by omega
          subst hu0
          obtain ⟨k9, hk9⟩ := hr.2.2.2.1.1 a _ hlk (pm_nscr_a hu)
          exact va_iald (D := G.1) (cl := vwCl) hexec hb hW.1 hr.2.2.2.2.1 k9 0 hk9 rfl hin hd (kk ls H locs ws hr')
      · cases hx
    · rename_i u n g hlk
      split at hx
      · rename_i hbq
        simp only [Nat.beq_eq, Bool.and_eq_true] at hbq
        omega
      · cases hx
    · cases hx
  · cases hx
theorem pm_al1_ok {cc : ByteArray} (hexec : p.tables.exec = Jvm.exec) (hb : c.code = cc) (hW : pm_Wd G A s) {pc : Nat} {L : List (Option Value)} {S : List Value} {h : pm_H} {P : Option Prop} {f : pm_F} (hd : decode cc pc = .ok (.laload, 1))
    (hx : pm_al 1 (pc + 1) L S h = some (P, f)) (hP : ∀ q, P = some q → q) (kk : pm_at p l e R s mid args below meth c Q G A c0 s0 ad f) : pm_at p l e R s mid args below meth c Q G A c0 s0 ad (pc, L, S, h) := by
  unfold pm_al at hx
  split at hx
  · rename_i i a S'
    split at hx
    · rename_i u n g hlk
      split at hx
      · rename_i hbq
        simp only [Nat.beq_eq, Bool.or_eq_true, Bool.and_eq_true] at hbq
        omega
      · cases hx
    · rename_i u n g hlk
      split at hx
      · rename_i hbq
        simp only [Nat.beq_eq, Bool.and_eq_true] at hbq
        cases hx
        intro ls H locs ws hr
        have hr' := hr.stk (S' := .long (g i.toNatClampNeg) :: S') (pm_oks (pm_ok_long _) (pm_okt (pm_okt hr.2.2.1)))
        have hu0 : u = 1 := by omega
        subst hu0
        obtain ⟨k9, hk9⟩ := hr.2.2.2.1.1 a _ hlk (pm_nscr_a (by decide))
        exact va_lald (D := G.1) (cl := vwCl) hexec hb hW.1 hr.2.2.2.2.1 k9 1 hk9 rfl (hP _ rfl) hd (kk ls H locs ws hr')
      · cases hx
    · cases hx
  · cases hx
theorem pm_al2_ok {cc : ByteArray} (hexec : p.tables.exec = Jvm.exec) (hb : c.code = cc) (hW : pm_Wd G A s) {pc : Nat} {L : List (Option Value)} {S : List Value} {h : pm_H} {P : Option Prop} {f : pm_F} (hd : decode cc pc = .ok (.baload, 1))
    (hx : pm_al 2 (pc + 1) L S h = some (P, f)) (hP : ∀ q, P = some q → q) (kk : pm_at p l e R s mid args below meth c Q G A c0 s0 ad f) : pm_at p l e R s mid args below meth c Q G A c0 s0 ad (pc, L, S, h) := by
  unfold pm_al at hx
  split at hx
  · rename_i i a S'
    split at hx
    · rename_i u n g hlk
      split at hx
      · rename_i hbq
        simp only [Nat.beq_eq, Bool.or_eq_true, Bool.and_eq_true] at hbq
        cases hx
        intro ls H locs ws hr
        have hr' := hr.stk (S' := .int (g i.toNatClampNeg) :: S') (pm_oks (pm_ok_int _) (pm_okt (pm_okt hr.2.2.1)))
        rcases (show u = 2 ∨ u = 3 by omega) with hu | hu
        · subst hu
          obtain ⟨k9, hk9⟩ := hr.2.2.2.1.1 a _ hlk (pm_nscr_a (by decide))
          exact va_bald (D := G.1) (cl := vwCl) hexec hb hW.1 hr.2.2.2.2.1 k9 2 hk9 rfl (hP _ rfl) hd (kk ls H locs ws hr')
        · subst hu
          obtain ⟨k9, hk9⟩ := hr.2.2.2.1.1 a _ hlk (pm_nscr_a (by decide))
          exact va_zald (D := G.1) (cl := vwCl) hexec hb hW.1 hr.2.2.2.2.1 k9 3 hk9 rfl (hP _ rfl) hd (kk ls H locs ws hr')
      · cases hx
    · rename_i u n g hlk
      split at hx
      · rename_i hbq
        simp only [Nat.beq_eq, Bool.and_eq_true] at hbq
        omega
      · cases hx
    · cases hx
  · cases hx
/-- the state behind a store into an array -/
theorem pm_sta_next {a k9 : Nat} {L : List (Option Value)} {S S' : List Value} {h : pm_H} {u : Nat} {x x' : vp_A} {ls : Array Slot} {H H1 : Heap} {locs locs1 : List Loc} {ws : va_W} (hr : pm_rel G ad A s L S h ls H locs ws) (hlk : pm_lk h a = some (.inl (u, x))) (hu : u ≠ 9) (hk9 : ws[k9]? = some (ad a, pm_ce G ad (.inl (u, x)))) (hS : ∀ v ∈ S', pm_ok h v)
    (hP1 : va_P G.1 vwCl (ws.set k9 (ad a, .inl (G.2.1 u, x'))) H1) (hD1 : va_D A (ws.set k9 (ad a, .inl (G.2.1 u, x')))) (hS1 : va_S A s.heap H1 locs1) : pm_rel G ad A s L S' (pm_st h a (.inl (u, x'))) ls H1 locs1 (ws.set k9 (ad a, pm_ce G ad (.inl (u, x')))) := by
  have live : ∀ w, pm_ok h w → pm_ok (pm_st h a (.inl (u, x'))) w := fun w hw j ej => by
    obtain ⟨c', hc'⟩ := hw j ej
    rw [pm_lk_st hlk]
    by_cases q : j = a
    · rw [if_pos q]; exact ⟨_, rfl⟩
    · rw [if_neg q]; exact ⟨_, hc'⟩
  exact ⟨hr.1, fun j w hw => live w (hr.2.1 j w hw), fun w hw => live w (hS w hw), pm_hp_st hr.2.2.2.1 hlk (pm_nscr_a hu) (pm_nscr_a hu) hk9 (fun ci fs e => by cases e), hP1, hD1, hS1⟩
theorem pm_as0_ok {cc : ByteArray} (hexec : p.tables.exec = Jvm.exec) (hb : c.code = cc) (hW : pm_Wd G A s) {pc : Nat} {L : List (Option Value)} {S : List Value} {h : pm_H} {P : Option Prop} {f : pm_F} (hd : decode cc pc = .ok (.iastore, 1))
    (hx : pm_as 0 (pc + 1) L S h = some (P, f)) (hP : ∀ q, P = some q → q) (kk : pm_at p l e R s mid args below meth c Q G A c0 s0 ad f) : pm_at p l e R s mid args below meth c Q G A c0 s0 ad (pc, L, S, h) := by
  unfold pm_as at hx
  split at hx
  · rename_i x i a S'
    split at hx
    · rename_i u n g hlk
      split at hx
      · cases hx
        intro ls H locs ws hr
        obtain ⟨k9, hk9⟩ := hr.2.2.2.1.1 a _ hlk (pm_nscr_a (by decide))
        exact va_iast (D := G.1) (cl := vwCl) hexec hb hW.1 hr.2.2.2.2.1 hr.2.2.2.2.2.1 hr.2.2.2.2.2.2 k9 0 hk9 rfl (hP _ rfl) hd (fun H1 locs1 hP1 hD1 hS1 => kk ls H1 locs1 _ (pm_sta_next hr hlk (by decide) hk9 (pm_okt (pm_okt (pm_okt hr.2.2.1))) hP1 hD1 hS1))
      · omega
      · omega
      · cases hx
    · cases hx
  · rename_i x i a S'
    split at hx
    · split at hx
      · omega
      · cases hx
    · cases hx
  · cases hx
theorem pm_as1_ok {cc : ByteArray} (hexec : p.tables.exec = Jvm.exec) (hb : c.code = cc) (hW : pm_Wd G A s) {pc : Nat} {L : List (Option Value)} {S : List Value} {h : pm_H} {P : Option Prop} {f : pm_F} (hd : decode cc pc = .ok (.lastore, 1))
    (hx : pm_as 1 (pc + 1) L S h = some (P, f)) (hP : ∀ q, P = some q → q) (kk : pm_at p l e R s mid args below meth c Q G A c0 s0 ad f) : pm_at p l e R s mid args below meth c Q G A c0 s0 ad (pc, L, S, h) := by
  unfold pm_as at hx
  split at hx
  · rename_i x i a S'
    split at hx
    · rename_i u n g hlk
      split at hx
      · omega
      · omega
      · omega
      · cases hx
    · cases hx
  · rename_i x i a S'
    split at hx
    · rename_i u n g hlk
      split at hx
      · cases hx
        intro ls H locs ws hr
        obtain ⟨k9, hk9⟩ := hr.2.2.2.1.1 a _ hlk (pm_nscr_a (by decide))
        exact va_last (D := G.1) (cl := vwCl) hexec hb hW.1 hr.2.2.2.2.1 hr.2.2.2.2.2.1 hr.2.2.2.2.2.2 k9 1 hk9 rfl (hP _ rfl) hd (fun H1 locs1 hP1 hD1 hS1 => kk ls H1 locs1 _ (pm_sta_next hr hlk (by decide) hk9 (pm_okt (pm_okt (pm_okt hr.2.2.1))) hP1 hD1 hS1))
      · cases hx
    · cases hx
  · cases hx
theorem pm_as2_ok {cc : ByteArray} (hexec : p.tables.exec = Jvm.exec) (hb : c.code = cc) (hW : pm_Wd G A s) {pc : Nat} {L : List (Option Value)} {S : List Value} {h : pm_H} {P : Option Prop} {f : pm_F} (hd : decode cc pc = .ok (.bastore, 1))
    (hx : pm_as 2 (pc + 1) L S h = some (P, f)) (hP : ∀ q, P = some q → q) (kk : pm_at p l e R s mid args below meth c Q G A c0 s0 ad f) : pm_at p l e R s mid args below meth c Q G A c0 s0 ad (pc, L, S, h) := by
  unfold pm_as at hx
  split at hx
  · rename_i x i a S'
    split at hx
    · rename_i u n g hlk
      split at hx
      · omega
      · cases hx
        intro ls H locs ws hr
        obtain ⟨k9, hk9⟩ := hr.2.2.2.1.1 a _ hlk (pm_nscr_a (by decide))
        exact va_bast (D := G.1) (cl := vwCl) hexec hb hW.1 hr.2.2.2.2.1 hr.2.2.2.2.2.1 hr.2.2.2.2.2.2 k9 2 hk9 rfl (hP _ rfl) hd (fun H1 locs1 hP1 hD1 hS1 => kk ls H1 locs1 _ (pm_sta_next hr hlk (by decide) hk9 (pm_okt (pm_okt (pm_okt hr.2.2.1))) hP1 hD1 hS1))
      · cases hx
        intro ls H locs ws hr
        obtain ⟨k9, hk9⟩ := hr.2.2.2.1.1 a _ hlk (pm_nscr_a (by decide))
        exact va_zast (D := G.1) (cl := vwCl) hexec hb hW.1 hr.2.2.2.2.1 hr.2.2.2.2.2.1 hr.2.2.2.2.2.2 k9 3 hk9 rfl (hP _ rfl) hd (fun H1 locs1 hP1 hD1 hS1 => kk ls H1 locs1 _ (pm_sta_next hr hlk (by decide) hk9 (pm_okt (pm_okt (pm_okt hr.2.2.1))) hP1 hD1 hS1))
      · cases hx
    · cases hx
  · rename_i x i a S'
    split at hx
    · split at hx
      · omega
      · cases hx
    · cases hx
  · cases hx
end PMS
