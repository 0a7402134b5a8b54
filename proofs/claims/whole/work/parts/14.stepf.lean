section PMS
variable {m d : Nat} {p : Program} {l : Launch} {e : Env} {R : Room} {s : State} {mid : MethodId} {args : Array Value} {below : List Frame} {meth : Method} {c : Code} {Q : State → Prop} {G : pm_G} {A : Nat → Prop} {c0 s0 : Nat} {ad : Nat → Nat}
theorem pm_KI_at {r : Nat} {q : Nat × Nat × Int32 × Nat} (hq : pm_KI[r]? = some q) : Cond.constant (pm_cn q.1) q.2.1 q.2.2.1 ∈ pm_ws := by
  have h := List.all_eq_true.mp pm_KI_ok q (List.mem_of_getElem? hq)
  exact pm_mem (of_decide_eq_true h) rfl
theorem pm_KJ_at {r : Nat} {q : Nat × Nat × Int64 × Nat} (hq : pm_KJ[r]? = some q) : Cond.constantLong (pm_cn q.1) q.2.1 q.2.2.1 ∈ pm_ws := by
  have h := List.all_eq_true.mp pm_KJ_ok q (List.mem_of_getElem? hq)
  exact pm_mem (of_decide_eq_true h) rfl
theorem pm_OI_at {r : Nat} {q : Nat × Nat × Nat} (hq : pm_OI[r]? = some q) : Cond.methodLink (pm_cn q.1) q.2.1 Lib.objectInit ∈ pm_ws := by
  have h := List.all_eq_true.mp pm_OI_ok q (List.mem_of_getElem? hq)
  exact pm_mem (of_decide_eq_true h) rfl
/-- ONE INSTRUCTION -/
theorem pm_step (C : pm_Cx m d p R s mid args meth c) (hd1 : 1 ≤ d) (hW : pm_Wd G A s) {I : Instr} {r r2 dir pc : Nat} {L : List (Option Value)} {S : List Value} {h : pm_H} {P : Option Prop} {f : pm_F} (hlen : L.length = pm_ml m)
    (hck : pm_ck m (pc, I, r, r2) = true) (hc0 : c0 ≤ h.2.2.1) (hs0 : s0 ≤ h.2.2.2) (hcr : f.2.2.2.2.2.1 - c0 ≤ R.cells) (hsr : f.2.2.2.2.2.2 - s0 ≤ R.slots) (hch : h.2.2.1 ≤ f.2.2.2.2.2.1) (hsh : h.2.2.2 ≤ f.2.2.2.2.2.2)
    (hx : pm_ex I r r2 dir pc L S h = some (P, f)) (hP : ∀ q, P = some q → q) (kk : ∀ ad', (∀ i c', pm_lk h i = some c' → ad' i = ad i) → pm_at p l e R s mid args below meth c Q G A c0 s0 ad' f) : pm_at p l e R s mid args below meth c Q G A c0 s0 ad (pc, L, S, h) := by
  have C9 := C
  obtain ⟨hexec, hb, hml, hrt, hlk0, hown, hts, -, hin, hfr, hlo⟩ := C
  unfold pm_ck at hck
  simp only [Bool.and_eq_true, decide_eq_true_eq] at hck
  obtain ⟨hd, hcs⟩ := hck
  have k0 := kk ad (fun _ _ _ => rfl)
  have hj := hW.2.2.2.2.1
  cases I
  case aconst_null =>
    cases hx
    intro ls H locs ws hr
    exact lv_null hexec hb hd (k0 ls H locs ws (hr.stk (pm_oks pm_ok_null hr.2.2.1)))
  case aload i => exact pm_lda_ok (fun hl k => lv_aload hexec hb hd hl k) (fun hl k => lv_aloadN hexec hb hd hl k) hx k0
  case aload_n i => exact pm_lda_ok (fun hl k => lv_aload_n hexec hb hd rfl hl k) (fun hl k => lv_aload_nN hexec hb hd rfl hl k) hx k0
  case iload i => exact pm_ldi_ok (fun hl k => lv_iload hexec hb hd hl k) hx k0
  case iload_n i => exact pm_ldi_ok (fun hl k => lv_iload_n hexec hb hd rfl hl k) hx k0
  case lload i => exact pm_ldl_ok (fun hl k => lv_lload hexec hb hd hl k) hx k0
  case lload_n i => exact pm_ldl_ok (fun hl k => lv_lload_n hexec hb hd rfl hl k) hx k0
  case astore i => exact pm_sta_ok hj (fun a b k => lv_astore hexec hb hd a b rfl k) (fun a b k => lv_astoreN hexec hb hd a b rfl k) hx k0
  case astore_n i => exact pm_sta_ok hj (fun a b k => lv_astore_n hexec hb hd rfl a b rfl k) (fun a b k => lv_astore_nN hexec hb hd rfl a b rfl k) hx k0
  case istore i => exact pm_sti_ok hj (fun a b k => lv_istore hexec hb hd a b rfl k) hx k0
  case istore_n i => exact pm_sti_ok hj (fun a b k => lv_istore_n hexec hb hd rfl a b rfl k) hx k0
  case lstore i => exact pm_stl_ok hj (fun a b k => lv_lstore hexec hb hd a b rfl k) hx k0
  case lstore_n i => exact pm_stl_ok hj (fun a b k => lv_lstore_n hexec hb hd rfl a b rfl k) hx k0
  case iinc i n =>
    dsimp only [pm_ex] at hx
    split at hx
    · rename_i x hL
      cases hx
      have hi := (List.getElem?_eq_some_iff.mp hL).1
      have hv : Int32.ofInt n = pm_CI.getD r 0 := of_decide_eq_true hcs
      intro ls H locs ws hr
      have hmem := pm_lv_mem (f := pm_cv G ad) hL
      obtain ⟨k9, hk9⟩ := List.getElem?_of_mem hmem
      refine lv_iinc (v := x + pm_CI.getD r 0) hexec hb hd (pm_lc_has hr.1) hk9 (by rw [hv]) hi rfl (fun ls' h' => ?_)
      exact k0 ls' H locs ws ⟨pm_lc_s1 (v := .int (x + pm_CI.getD r 0)) (pm_cat hj) hi h', pm_s1_ok hi hr.2.1 (pm_ok_int _), hr.2.2⟩
    · cases hx
  case iconst n =>
    cases hx
    have hv : Int32.ofInt n = pm_CI.getD r 0 := of_decide_eq_true hcs
    intro ls H locs ws hr
    exact lv_iconst hexec hb hd hv (k0 ls H locs ws (hr.stk (pm_oks (pm_ok_int _) hr.2.2.1)))
  case bipush n =>
    cases hx
    have hv : (Int8.ofInt n).toInt32 = pm_CI.getD r 0 := of_decide_eq_true hcs
    intro ls H locs ws hr
    exact lv_bipush hexec hb hd hv (k0 ls H locs ws (hr.stk (pm_oks (pm_ok_int _) hr.2.2.1)))
  case sipush n =>
    cases hx
    have hv : (Int16.ofInt n).toInt32 = pm_CI.getD r 0 := of_decide_eq_true hcs
    intro ls H locs ws hr
    exact lv_sipush hexec hb hd hv (k0 ls H locs ws (hr.stk (pm_oks (pm_ok_int _) hr.2.2.1)))
  case lconst n =>
    dsimp only [pm_ex] at hx
    split at hx
    · cases hx
      have hv : Int64.ofNat n.val = 0 := of_decide_eq_true hcs
      intro ls H locs ws hr
      exact lv_lconst hexec hb hd hv (k0 ls H locs ws (hr.stk (pm_oks (pm_ok_long _) hr.2.2.1)))
    · rename_i hne
      cases hx
      obtain ⟨r', rfl⟩ : ∃ r', r = r' + 1 := ⟨r - 1, by have : r ≠ 0 := hne; omega⟩
      have hv : Int64.ofNat n.val = 1 := of_decide_eq_true hcs
      intro ls H locs ws hr
      exact lv_lconst hexec hb hd hv (k0 ls H locs ws (hr.stk (pm_oks (pm_ok_long _) hr.2.2.1)))
  case ldc i =>
    dsimp only [pm_ex] at hx
    split at hx
    · have hcs : (match pm_KI[r]? with
        | some (oc, ix, _, _) => Nat.beq oc (pm_oc m) && Nat.beq ix i
        | none => false) = true := hcs
      split at hx
      · rename_i oc ix v pl hK
        cases hx
        rw [hK] at hcs
        simp only [Bool.and_eq_true, Nat.beq_eq] at hcs
        have hc := pm_KI_at hK
        dsimp only at hc
        rw [hcs.1, hcs.2] at hc
        intro ls H locs ws hr
        exact lv_ldc hexec hb hown (hts _ hc) hd (k0 ls H locs ws (hr.stk (pm_oks (pm_ok_int _) hr.2.2.1)))
      · cases hx
    · rename_i hne
      cases hx
      obtain ⟨r3, rfl⟩ : ∃ r3, r2 = r3 + 1 := ⟨r2 - 1, by have : r2 ≠ 0 := hne; omega⟩
      have hcs : (match pm_SR[r]? with
        | some (oc, ix, _, _) => Nat.beq oc (pm_oc m) && Nat.beq ix i
        | none => false) = true := hcs
      split at hcs
      · rename_i oc ix tx pl hS
        simp only [Bool.and_eq_true, Nat.beq_eq] at hcs
        have hR := hW.2.2.2.2.2.2.2.2.1 r _ hS
        dsimp only at hR
        rw [hcs.1, hcs.2] at hR
        intro ls H locs ws hr
        exact va_ldcS hexec hb hown hR hd (k0 ls H locs ws (hr.stk (pm_oks (pm_ok_ra r) hr.2.2.1)))
      · cases hcs
  case ldc_w i =>
    dsimp only [pm_ex] at hx
    have hcs : (match pm_KI[r]? with
      | some (oc, ix, _, _) => Nat.beq oc (pm_oc m) && Nat.beq ix i
      | none => false) = true := hcs
    split at hx
    · rename_i oc ix v pl hK
      cases hx
      rw [hK] at hcs
      simp only [Bool.and_eq_true, Nat.beq_eq] at hcs
      have hc := pm_KI_at hK
      dsimp only at hc
      rw [hcs.1, hcs.2] at hc
      intro ls H locs ws hr
      exact lv_ldcw hexec hb hown (hts _ hc) hd (k0 ls H locs ws (hr.stk (pm_oks (pm_ok_int _) hr.2.2.1)))
    · cases hx
  case ldc2_w i =>
    dsimp only [pm_ex] at hx
    have hcs : (match pm_KJ[r]? with
      | some (oc, ix, _, _) => Nat.beq oc (pm_oc m) && Nat.beq ix i
      | none => false) = true := hcs
    split at hx
    · rename_i oc ix v pl hK
      cases hx
      rw [hK] at hcs
      simp only [Bool.and_eq_true, Nat.beq_eq] at hcs
      have hc := pm_KJ_at hK
      dsimp only at hc
      rw [hcs.1, hcs.2] at hc
      intro ls H locs ws hr
      exact lv_ldc2 hexec hb hown (hts _ hc) hd (k0 ls H locs ws (hr.stk (pm_oks (pm_ok_long _) hr.2.2.1)))
    · cases hx
  case iadd => exact pm_i2_ok (fun k => lv_iadd hexec hb hd k) hx k0
  case isub => exact pm_i2_ok (fun k => lv_isub hexec hb hd k) hx k0
  case imul => exact pm_i2_ok (fun k => lv_imul hexec hb hd k) hx k0
  case iand => exact pm_i2_ok (fun k => lv_iand hexec hb hd k) hx k0
  case ior => exact pm_i2_ok (fun k => lv_ior hexec hb hd k) hx k0
  case ixor => exact pm_i2_ok (fun k => lv_ixor hexec hb hd k) hx k0
  case ishl => exact pm_i2_ok (fun k => lv_ishl hexec hb hd k) hx k0
  case ishr => exact pm_i2_ok (fun k => lv_ishr hexec hb hd k) hx k0
  case iushr => exact pm_i2_ok (fun k => lv_iushr hexec hb hd rfl k) hx k0
  case idiv => exact pm_d2_ok (fun hn k => lv_idiv hexec hb hd hn k) hx hP k0
  case irem => exact pm_d2_ok (fun hn k => lv_irem hexec hb hd hn k) hx hP k0
  case ineg => exact pm_i1_ok (fun k => lv_ineg hexec hb hd k) hx k0
  case i2b => exact pm_i1_ok (fun k => lv_i2b hexec hb hd rfl k) hx k0
  case i2l =>
    dsimp only [pm_ex] at hx
    split at hx <;> cases hx
    intro ls H locs ws hr
    exact lv_i2l hexec hb hd rfl (k0 ls H locs ws (hr.stk (pm_oks (pm_ok_long _) (pm_okt hr.2.2.1))))
  case l2i =>
    dsimp only [pm_ex] at hx
    split at hx <;> cases hx
    intro ls H locs ws hr
    exact lv_l2i hexec hb hd rfl (k0 ls H locs ws (hr.stk (pm_oks (pm_ok_int _) (pm_okt hr.2.2.1))))
  case ladd => exact pm_l2_ok (fun k => lv_ladd hexec hb hd k) hx k0
  case lsub => exact pm_l2_ok (fun k => lv_lsub hexec hb hd k) hx k0
  case lmul => exact pm_l2_ok (fun k => lv_lmul hexec hb hd k) hx k0
  case lxor => exact pm_l2_ok (fun k => lv_lxor hexec hb hd k) hx k0
  case ldiv => exact pm_dl2_ok (fun hn k => lv_ldiv hexec hb hd hn k) hx hP k0
  case lrem => exact pm_dl2_ok (fun hn k => lv_lrem hexec hb hd hn k) hx hP k0
  case lneg =>
    dsimp only [pm_ex] at hx
    split at hx <;> cases hx
    intro ls H locs ws hr
    exact lv_lneg hexec hb hd (k0 ls H locs ws (hr.stk (pm_oks (pm_ok_long _) (pm_okt hr.2.2.1))))
  case lcmp =>
    dsimp only [pm_ex] at hx
    split at hx <;> cases hx
    intro ls H locs ws hr
    exact W.lcmp hexec hb hd (k0 ls H locs ws (hr.stk (pm_oks (pm_ok_int _) (pm_okt (pm_okt hr.2.2.1)))))
  case dup =>
    dsimp only [pm_ex] at hx
    split at hx <;> cases hx
    · intro ls H locs ws hr
      exact lv_dup hexec hb hd rfl (k0 ls H locs ws (hr.stk (pm_oks (pm_ok_int _) hr.2.2.1)))
    · intro ls H locs ws hr
      exact lv_dup hexec hb hd rfl (k0 ls H locs ws (hr.stk (pm_oks (hr.2.2.1 _ List.mem_cons_self) hr.2.2.1)))
  case dup2 =>
    dsimp only [pm_ex] at hx
    split at hx <;> cases hx
    intro ls H locs ws hr
    exact lv_dup2_11 hexec hb hd rfl rfl (k0 ls H locs ws (hr.stk (pm_oks (pm_ok_int _) (pm_oks (hr.2.2.1 _ (List.mem_cons_of_mem _ List.mem_cons_self)) hr.2.2.1))))
  case pop =>
    dsimp only [pm_ex] at hx
    split at hx <;> cases hx
    · intro ls H locs ws hr
      exact lv_pop hexec hb hd rfl (k0 ls H locs ws (hr.stk (pm_okt hr.2.2.1)))
    · intro ls H locs ws hr
      exact lv_pop hexec hb hd rfl (k0 ls H locs ws (hr.stk (pm_okt hr.2.2.1)))
  case goto o =>
    cases hx
    have ht : (pc : Int) + o = (r : Int) := of_decide_eq_true hcs
    intro ls H locs ws hr
    exact lv_goto hexec hb hd ht (k0 ls H locs ws hr)
  case ifCond cd o => exact pm_if_ok hexec hb hd (of_decide_eq_true hcs) hx hP k0
  case if_icmp cd o => exact pm_ic_ok hexec hb hd (of_decide_eq_true hcs) hx hP k0
  case ifnull o =>
    have ht : (pc : Int) + o = (r : Int) := of_decide_eq_true hcs
    dsimp only [pm_ex] at hx
    split at hx <;> cases hx
    · intro ls H locs ws hr
      exact lv_ifnullN hexec hb hd ht (k0 ls H locs ws (hr.stk (pm_okt hr.2.2.1)))
    · intro ls H locs ws hr
      exact lv_ifnull hexec hb hd (k0 ls H locs ws (hr.stk (pm_okt hr.2.2.1)))
  case ifnonnull o =>
    have ht : (pc : Int) + o = (r : Int) := of_decide_eq_true hcs
    dsimp only [pm_ex] at hx
    split at hx <;> cases hx
    · intro ls H locs ws hr
      exact lv_ifnonnullN hexec hb hd (k0 ls H locs ws (hr.stk (pm_okt hr.2.2.1)))
    · intro ls H locs ws hr
      exact lv_ifnonnull hexec hb hd ht (k0 ls H locs ws (hr.stk (pm_okt hr.2.2.1)))
  case tableswitch df lo hi offs =>
    have hcs : (decide (0 ≤ (pc : Int) + df) && offs.toList.all (fun o => decide (0 ≤ (pc : Int) + o))) = true := hcs
    simp only [Bool.and_eq_true, decide_eq_true_eq] at hcs
    exact pm_tsw_ok hexec hb hd hcs.1 (fun o ho => of_decide_eq_true (List.all_eq_true.mp hcs.2 o ho)) hx hP k0
  case getfield i =>
    refine pm_gf_ok hexec hb hown hts hW hd (fun q hq => ?_) hx k0
    have hcs : (match pm_FL[r]? with
      | some (oc, ix, _, _, _) => Nat.beq oc (pm_oc m) && Nat.beq ix i
      | none => false) = true := hcs
    rw [hq] at hcs
    simp only [Bool.and_eq_true, Nat.beq_eq] at hcs
    exact hcs
  case putfield i =>
    refine pm_pf_ok hexec hb hown hts hin hW hd (fun q hq => ?_) hx k0
    have hcs : (match pm_FL[r]? with
      | some (oc, ix, ci, k, _) => Nat.beq oc (pm_oc m) && (Nat.beq ix i && (!(pm_T ci k).2.2.2 || (decide ((pm_y m).name = "<init>") && decide ((pm_T ci k).1 = pm_cn (pm_oc m)))))
      | none => false) = true := hcs
    rw [hq] at hcs
    simp only [Bool.and_eq_true, Bool.or_eq_true, Nat.beq_eq, Bool.not_eq_true', decide_eq_true_eq] at hcs
    exact hcs
  case iaload => exact pm_al0_ok hexec hb hW hd hx hP k0
  case laload => exact pm_al1_ok hexec hb hW hd hx hP k0
  case baload => exact pm_al2_ok hexec hb hW hd hx hP k0
  case iastore => exact pm_as0_ok hexec hb hW hd hx hP k0
  case lastore => exact pm_as1_ok hexec hb hW hd hx hP k0
  case bastore => exact pm_as2_ok hexec hb hW hd hx hP k0
  case arraylength => exact pm_len_ok hexec hb hW hd hx k0
  case new i =>
    refine pm_new_ok hexec hb hown hts hW hd (fun q hq => ?_) hc0 hs0 hcr hsr hx kk
    have hcs : (match pm_CL[r]? with
      | some (oc, ix, _, _) => Nat.beq oc (pm_oc m) && Nat.beq ix i
      | none => false) = true := hcs
    rw [hq] at hcs
    simp only [Bool.and_eq_true, Nat.beq_eq] at hcs
    exact hcs
  case newarray t => exact pm_nar_ok hexec hb hts hW hd hc0 hs0 hcr hsr hx hP kk
  case invokespecial i =>
    dsimp only [pm_ex] at hx
    split at hx
    · have hcs : (match pm_OI[r]? with
        | some (oc, ix, _) => Nat.beq oc (pm_oc m) && Nat.beq ix i
        | none => false) = true := hcs
      split at hx
      · split at hx
        · rename_i hs8
          cases hx
          split at hcs
          · rename_i oc ix pl hO
            simp only [Bool.and_eq_true, Nat.beq_eq] at hcs
            have hl := pm_OI_at hO
            dsimp only at hl
            rw [hcs.1, hcs.2] at hl
            intro ls H locs ws hr
            have hroom := pm_room8 (S := _) (ad := ad) (n := 12) hW hd1 hlo (Nat.le_of_ble_eq_true hs8) (by decide)
            exact W.objInit hexec hb hown (hts _ hl) (hts _ pm_OI_inst) (hts _ pm_OI_code) rfl (by rw [hml]; exact hr.1.1.trans hlen) rfl hd (by omega) (by show 2 * 0 + _ + 12 ≤ _; omega) (k0 ls H locs ws (hr.stk (pm_okt hr.2.2.1)))
          · cases hcs
        · cases hx
      · cases hx
    · cases hx
  case invokestatic i => exact pm_lib_ok C9 hd1 hW hd hlen hcs (by omega) (by omega) hx hP k0
  all_goals cases hx
end PMS
