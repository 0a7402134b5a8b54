section PMS
variable {m d : Nat} {p : Program} {l : Launch} {e : Env} {R : Room} {s : State} {mid : MethodId} {args : Array Value} {below : List Frame} {meth : Method} {c : Code} {Q : State → Prop} {G : pm_G} {A : Nat → Prop} {c0 s0 : Nat} {ad : Nat → Nat}
/-- one word off the stack, and somewhere else -/
theorem pm_if_ok {cc : ByteArray} (hexec : p.tables.exec = Jvm.exec) (hb : c.code = cc) {cd : ClassFile.Cond} {off : Int} {dir pc t : Nat} {L : List (Option Value)} {S : List Value} {h : pm_H} {P : Option Prop} {f : pm_F} (hd : decode cc pc = .ok (.ifCond cd off, 3)) (ht : (pc : Int) + off = (t : Int))
    (hx : pm_if cd dir t (pc + 3) L S h = some (P, f)) (hP : ∀ q, P = some q → q) (kk : pm_at p l e R s mid args below meth c Q G A c0 s0 ad f) : pm_at p l e R s mid args below meth c Q G A c0 s0 ad (pc, L, S, h) := by
  unfold pm_if at hx
  split at hx
  · rename_i x S'
    intro ls H locs ws hr
    have hr' := hr.stk (S' := S') (pm_okt hr.2.2.1)
    unfold pm_br at hx
    split at hx <;> split at hx <;> cases hx
    · exact lv_if_eq hexec hb hd ht (fun q => absurd q (hP _ rfl)) (fun _ => kk ls H locs ws hr')
    · exact lv_if_eq hexec hb hd ht (fun _ => kk ls H locs ws hr') (fun q => absurd (hP _ rfl) q)
    · exact lv_if_ne hexec hb hd ht (fun q => absurd (hP _ rfl) q) (fun _ => kk ls H locs ws hr')
    · exact lv_if_ne hexec hb hd ht (fun _ => kk ls H locs ws hr') (fun q => absurd q (hP _ rfl))
    · exact lv_if_lt hexec hb hd ht (fun q => absurd q (hP _ rfl)) (fun _ => kk ls H locs ws hr')
    · exact lv_if_lt hexec hb hd ht (fun _ => kk ls H locs ws hr') (fun q => absurd (hP _ rfl) q)
    · exact lv_if_ge hexec hb hd ht (fun q => absurd q (hP _ rfl)) (fun _ => kk ls H locs ws hr')
    · exact lv_if_ge hexec hb hd ht (fun _ => kk ls H locs ws hr') (fun q => absurd (hP _ rfl) q)
    · exact lv_if_gt hexec hb hd ht (fun q => absurd q (hP _ rfl)) (fun _ => kk ls H locs ws hr')
    · exact lv_if_gt hexec hb hd ht (fun _ => kk ls H locs ws hr') (fun q => absurd (hP _ rfl) q)
    · exact lv_if_le hexec hb hd ht (fun q => absurd q (hP _ rfl)) (fun _ => kk ls H locs ws hr')
    · exact lv_if_le hexec hb hd ht (fun _ => kk ls H locs ws hr') (fun q => absurd (hP _ rfl) q)
  · cases hx
theorem pm_ic_ok {cc : ByteArray} (hexec : p.tables.exec = Jvm.exec) (hb : c.code = cc) {cd : ClassFile.Cond} {off : Int} {dir pc t : Nat} {L : List (Option Value)} {S : List Value} {h : pm_H} {P : Option Prop} {f : pm_F} (hd : decode cc pc = .ok (.if_icmp cd off, 3)) (ht : (pc : Int) + off = (t : Int))
    (hx : pm_ic cd dir t (pc + 3) L S h = some (P, f)) (hP : ∀ q, P = some q → q) (kk : pm_at p l e R s mid args below meth c Q G A c0 s0 ad f) : pm_at p l e R s mid args below meth c Q G A c0 s0 ad (pc, L, S, h) := by
  unfold pm_ic at hx
  split at hx
  · rename_i y x S'
    intro ls H locs ws hr
    have hr' := hr.stk (S' := S') (pm_okt (pm_okt hr.2.2.1))
    unfold pm_br at hx
    split at hx <;> split at hx <;> cases hx
    · exact lv_icmp_eq hexec hb hd ht (fun q => absurd q (hP _ rfl)) (fun _ => kk ls H locs ws hr')
    · exact lv_icmp_eq hexec hb hd ht (fun _ => kk ls H locs ws hr') (fun q => absurd (hP _ rfl) q)
    · exact lv_icmp_ne hexec hb hd ht (fun q => absurd (hP _ rfl) q) (fun _ => kk ls H locs ws hr')
    · exact lv_icmp_ne hexec hb hd ht (fun _ => kk ls H locs ws hr') (fun q => absurd q (hP _ rfl))
    · exact lv_icmp_lt hexec hb hd ht (fun q => absurd q (hP _ rfl)) (fun _ => kk ls H locs ws hr')
    · exact lv_icmp_lt hexec hb hd ht (fun _ => kk ls H locs ws hr') (fun q => absurd (hP _ rfl) q)
    · exact lv_icmp_ge hexec hb hd ht (fun q => absurd q (hP _ rfl)) (fun _ => kk ls H locs ws hr')
    · exact lv_icmp_ge hexec hb hd ht (fun _ => kk ls H locs ws hr') (fun q => absurd (hP _ rfl) q)
    · exact lv_icmp_gt hexec hb hd ht (fun q => absurd q (hP _ rfl)) (fun _ => kk ls H locs ws hr')
    · exact lv_icmp_gt hexec hb hd ht (fun _ => kk ls H locs ws hr') (fun q => absurd (hP _ rfl) q)
    · exact lv_icmp_le hexec hb hd ht (fun q => absurd q (hP _ rfl)) (fun _ => kk ls H locs ws hr')
    · exact lv_icmp_le hexec hb hd ht (fun _ => kk ls H locs ws hr') (fun q => absurd (hP _ rfl) q)
  · cases hx
theorem pm_tsw_ok {cc : ByteArray} (hexec : p.tables.exec = Jvm.exec) (hb : c.code = cc) {df lo hi : Int} {offs : Array Int} {dir pc len : Nat} {L : List (Option Value)} {S : List Value} {h : pm_H} {P : Option Prop} {f : pm_F} (hd : decode cc pc = .ok (.tableswitch df lo hi offs, len)) (h0 : 0 ≤ (pc : Int) + df) (h1 : ∀ o ∈ offs.toList, 0 ≤ (pc : Int) + o)
    (hx : pm_tsw df lo hi offs dir pc L S h = some (P, f)) (hP : ∀ q, P = some q → q) (kk : pm_at p l e R s mid args below meth c Q G A c0 s0 ad f) : pm_at p l e R s mid args below meth c Q G A c0 s0 ad (pc, L, S, h) := by
  unfold pm_tsw at hx
  split at hx
  · rename_i x S'
    intro ls H locs ws hr
    have hr' := hr.stk (S' := S') (pm_okt hr.2.2.1)
    split at hx
    · rename_i o ho
      cases hx
      obtain ⟨q1, q2⟩ := hP _ rfl
      have ho' : offs[(x.toInt - lo).toNat]? = some o := by
        rw [show (x.toInt - lo).toNat = dir by omega, ← Array.getElem?_toList]
        exact ho
      exact lv_tableIn hexec hb hd (by omega) q2 ho' (Int.toNat_of_nonneg (h1 o (List.mem_of_getElem? ho))).symm (kk ls H locs ws hr')
    · cases hx
      exact lv_tableOut hexec hb hd (hP _ rfl) (Int.toNat_of_nonneg h0).symm (kk ls H locs ws hr')
  · cases hx
theorem pm_FL_at {r : Nat} {q : Nat × Nat × Nat × Nat × Nat} (hq : pm_FL[r]? = some q) : Cond.fieldLink (pm_cn q.1) q.2.1 (pm_T q.2.2.1 q.2.2.2.1).1 (pm_T q.2.2.1 q.2.2.2.1).2.1 (pm_T q.2.2.1 q.2.2.2.1).2.2.1 ∈ pm_ws ∧ q.2.2.2.1 < pm_N q.2.2.1 ∧ q.2.2.1 < 10 := by
  have h := List.all_eq_true.mp pm_FL_ok q (List.mem_of_getElem? hq)
  unfold pm_FLc at h
  simp only [Bool.and_eq_true, decide_eq_true_eq, Nat.blt_eq] at h
  exact ⟨pm_mem h.1 rfl, h.2.1, h.2.2⟩
theorem pm_nscr_o {ci : Nat} {fs : List Value} : ¬ pm_scr (.inr (ci, fs)) := fun ⟨_, h⟩ => by cases h
theorem pm_gf_ok {cc : ByteArray} (hexec : p.tables.exec = Jvm.exec) (hb : c.code = cc) (hown : s.vm.findClass (pm_cn (pm_oc m)) = some mid.cls) (hts : ∀ w ∈ pm_ws, w.before args s = true) (hW : pm_Wd G A s) {ix r pc : Nat} {L : List (Option Value)} {S : List Value} {h : pm_H} {P : Option Prop} {f : pm_F} (hd : decode cc pc = .ok (.getfield ix, 3))
    (hck : ∀ q, pm_FL[r]? = some q → q.1 = pm_oc m ∧ q.2.1 = ix)
    (hx : pm_gf r (pc + 3) L S h = some (P, f)) (kk : pm_at p l e R s mid args below meth c Q G A c0 s0 ad f) : pm_at p l e R s mid args below meth c Q G A c0 s0 ad (pc, L, S, h) := by
  unfold pm_gf at hx
  split at hx
  · rename_i i S'
    split at hx
    · rename_i ci fs hlk
      split at hx
      · rename_i oc ix' cj k pl hFL
        split at hx
        · rename_i hbeq
          have hci : ci = cj := Nat.eq_of_beq_eq_true hbeq
          subst hci
          split at hx
          · rename_i v hv
            cases hx
            intro ls H locs ws hr
            obtain ⟨w1, w2, w3⟩ := pm_FL_at hFL
            obtain ⟨e1, e2⟩ := hck _ hFL
            dsimp only at w1 w2 w3 e1 e2
            subst e1 e2
            obtain ⟨k9, hk9⟩ := hr.2.2.2.1.1 i _ hlk pm_nscr_o
            have hok : pm_ok h v := hr.2.2.2.1.2.2.2 i ci fs hlk v (List.mem_of_getElem? hv)
            exact va_get (D := G.1) (ci := ci) (C := pm_cn ci) (T := pm_T ci) (N := pm_N ci) (v := pm_cv G ad v) (Ts := pm_ws) hexec hb hts (pm_ly ci w3) hown hW.1 hr.2.2.2.2.1 k9 hk9 (pm_vw ci w3) k w2 (hts _ w1) (fun _ h9 => h9) (by rw [List.getElem?_map, hv]; rfl) hd (kk ls H locs ws (hr.stk (pm_oks hok (pm_okt hr.2.2.1))))
          · cases hx
        · cases hx
      · cases hx
    · cases hx
  · cases hx
theorem pm_fit {G : pm_G} {ad : Nat → Nat} {v : Value} {ty : FieldType} (h : pm_vk v = pm_kt ty) : narrow ty (pm_cv G ad v) = pm_cv G ad v ∧ fits ty (pm_cv G ad v) = true := by
  cases v <;> cases ty <;> first | exact ⟨rfl, rfl⟩ | (exact absurd h (by simp [pm_vk, pm_kt]))
theorem pm_pf_ok {cc : ByteArray} (hexec : p.tables.exec = Jvm.exec) (hb : c.code = cc) (hown : s.vm.findClass (pm_cn (pm_oc m)) = some mid.cls) (hts : ∀ w ∈ pm_ws, w.before args s = true) (hin : (pm_y m).name = "<init>" → meth.name = "<init>") (hW : pm_Wd G A s) {ix r pc : Nat} {L : List (Option Value)} {S : List Value} {h : pm_H} {P : Option Prop} {f : pm_F} (hd : decode cc pc = .ok (.putfield ix, 3))
    (hck : ∀ q, pm_FL[r]? = some q → q.1 = pm_oc m ∧ q.2.1 = ix ∧ ((pm_T q.2.2.1 q.2.2.2.1).2.2.2 = false ∨ ((pm_y m).name = "<init>" ∧ (pm_T q.2.2.1 q.2.2.2.1).1 = pm_cn (pm_oc m))))
    (hx : pm_pf r (pc + 3) L S h = some (P, f)) (kk : pm_at p l e R s mid args below meth c Q G A c0 s0 ad f) : pm_at p l e R s mid args below meth c Q G A c0 s0 ad (pc, L, S, h) := by
  unfold pm_pf at hx
  split at hx
  · rename_i v i S'
    split at hx
    · rename_i ci fs hlk
      split at hx
      · rename_i oc ix' cj k pl hFL
        split at hx
        · rename_i hbeq
          simp only [Bool.and_eq_true, Nat.blt_eq] at hbeq
          have hci : ci = cj := Nat.eq_of_beq_eq_true hbeq.1
          subst hci
          have hvk := Nat.eq_of_beq_eq_true hbeq.2.2
          have hkl := hbeq.2.1
          cases hx
          intro ls H locs ws hr
          obtain ⟨w1, w2, w3⟩ := pm_FL_at hFL
          obtain ⟨e1, e2, e3⟩ := hck _ hFL
          dsimp only at w1 w2 w3 e1 e2 e3
          subst e1 e2
          obtain ⟨k9, hk9⟩ := hr.2.2.2.1.1 i _ hlk pm_nscr_o
          obtain ⟨f1, f2⟩ := pm_fit (G := G) (ad := ad) hvk
          have hv : pm_ok h v := hr.2.2.1 v List.mem_cons_self
          have live : ∀ w, pm_ok h w → pm_ok (pm_st h i (.inr (ci, fs.set k v))) w := fun w hw j ej => by
            obtain ⟨c', hc'⟩ := hw j ej
            rw [pm_lk_st hlk]
            by_cases q : j = i
            · rw [if_pos q]; exact ⟨_, rfl⟩
            · rw [if_neg q]; exact ⟨_, hc'⟩
          have next : ∀ (H1 : Heap) (locs1 : List Loc), va_P G.1 vwCl (ws.set k9 (ad i, .inr (ci, (fs.map (pm_cv G ad)).set k (pm_cv G ad v)))) H1 → va_D A (ws.set k9 (ad i, .inr (ci, (fs.map (pm_cv G ad)).set k (pm_cv G ad v)))) → va_S A s.heap H1 locs1 → W p l e R s mid args below meth c H1 locs1 (h.2.2.1 - c0) (h.2.2.2 - s0) Q (F0 mid (pc + 3) ls (S'.map (pm_cv G ad))) := by
            intro H1 locs1 hP1 hD1 hS1
            have e9 : (fs.map (pm_cv G ad)).set k (pm_cv G ad v) = (fs.set k v).map (pm_cv G ad) := by rw [List.map_set]
            rw [e9] at hP1 hD1
            refine kk ls H1 locs1 (ws.set k9 (ad i, pm_ce G ad (.inr (ci, fs.set k v)))) ⟨hr.1, fun j w hw => live w (hr.2.1 j w hw), fun w hw => live w (pm_okt (pm_okt hr.2.2.1) w hw), pm_hp_st hr.2.2.2.1 hlk pm_nscr_o pm_nscr_o hk9 ?_, hP1, hD1, hS1⟩
            intro ci' fs' e' w hw
            cases e'
            rcases List.mem_or_eq_of_mem_set hw with q | q
            · exact hr.2.2.2.1.2.2.2 i ci fs hlk w q
            · rw [q]; exact hv
          rcases e3 with e3 | ⟨e3, e4⟩
          · exact va_put (D := G.1) (ci := ci) (C := pm_cn ci) (T := pm_T ci) (N := pm_N ci) (v := pm_cv G ad v) (ty := pm_ty ci k) (Ts := pm_ws) hexec hb hts (pm_ly ci w3) (pm_ty ci) (pm_tk ci w3) (pm_nm ci w3) hown hW.1 hr.2.2.2.2.1 hr.2.2.2.2.2.1 hr.2.2.2.2.2.2 k9 hk9 (pm_vw ci w3) k w2 (hts _ w1) (fun _ h9 => h9) e3 (pm_tk ci w3 k w2) f1 f2 (by rw [List.length_map]; exact hkl) hd next
          · by_cases e5 : (pm_T ci k).2.2.2 = true
            · exact va_putF (D := G.1) (ci := ci) (C := pm_cn ci) (T := pm_T ci) (N := pm_N ci) (v := pm_cv G ad v) (ty := pm_ty ci k) (Ts := pm_ws) hexec hb hts (pm_ly ci w3) (pm_ty ci) (pm_tk ci w3) (pm_nm ci w3) hown hW.1 hr.2.2.2.2.1 hr.2.2.2.2.2.1 hr.2.2.2.2.2.2 k9 hk9 (pm_vw ci w3) k w2 (hts _ w1) (fun _ h9 => h9) e5 (hin e3) e4 (pm_tk ci w3 k w2) f1 f2 (by rw [List.length_map]; exact hkl) hd next
            · exact va_put (D := G.1) (ci := ci) (C := pm_cn ci) (T := pm_T ci) (N := pm_N ci) (v := pm_cv G ad v) (ty := pm_ty ci k) (Ts := pm_ws) hexec hb hts (pm_ly ci w3) (pm_ty ci) (pm_tk ci w3) (pm_nm ci w3) hown hW.1 hr.2.2.2.2.1 hr.2.2.2.2.2.1 hr.2.2.2.2.2.2 k9 hk9 (pm_vw ci w3) k w2 (hts _ w1) (fun _ h9 => h9) (by simpa using e5) (pm_tk ci w3 k w2) f1 f2 (by rw [List.length_map]; exact hkl) hd next
        · cases hx
      · cases hx
    · cases hx
  · cases hx
end PMS
