section PMS
variable {m d : Nat} {p : Program} {l : Launch} {e : Env} {R : Room} {s : State} {mid : MethodId} {args : Array Value} {below : List Frame} {meth : Method} {c : Code} {Q : State → Prop} {G : pm_G} {A : Nat → Prop} {c0 s0 : Nat} {ad : Nat → Nat}
theorem pm_room8 {S : List Value} {n : Nat} (hW : pm_Wd G A s) (hd1 : 1 ≤ d) (hl : 40 * d ≤ R.locals) (h8 : pm_sum S ≤ 8) (hn : n ≤ 32) : ((S.map (pm_cv G ad)).map fun v => v.category).sum + n ≤ R.locals := by
  have := pm_sum_eq (G := G) (ad := ad) hW.2.2.2.2.1 S
  omega
theorem pm_cpy_ok (C : pm_Cx m d p R s mid args meth c) (hd1 : 1 ≤ d) (hW : pm_Wd G A s) {ix r pc : Nat} {L : List (Option Value)} {S : List Value} {h : pm_H} {P : Option Prop} {f : pm_F} (hd : decode (pm_cd m) pc = .ok (.invokestatic ix, 3)) (hlen : L.length = pm_ml m)
    (hck : ∃ q, pm_AC[r]? = some q ∧ q.1 = pm_oc m ∧ q.2.1 = ix)
    (hx : pm_cpy (pc + 3) L S h = some (P, f)) (hP : ∀ q, P = some q → q) (kk : pm_at p l e R s mid args below meth c Q G A c0 s0 ad f) : pm_at p l e R s mid args below meth c Q G A c0 s0 ad (pc, L, S, h) := by
  obtain ⟨hexec, hb, hml, hrt, hlk0, hown, hts, -, -, hfr, hlo⟩ := C
  obtain ⟨q9, hq9, e1, e2⟩ := hck
  have hlink : Cond.methodLink (pm_cn (pm_oc m)) ix arraycopyName ∈ pm_ws := by
    have h9 := List.all_eq_true.mp pm_AC_ok q9 (List.mem_of_getElem? hq9)
    unfold pm_ACc at h9
    have h9 := of_decide_eq_true h9
    rw [e1, e2] at h9
    exact pm_mem h9 rfl
  unfold pm_cpy at hx
  split at hx
  · rename_i n dp a sp a0 S'
    split at hx
    · rename_i hs8
      have hs8 := Nat.le_of_ble_eq_true hs8
      split at hx
      · rename_i n0 f0 n1 g0 hl0 hl1
        cases hx
        obtain ⟨q1, q2, q3, q4, q5⟩ := hP _ rfl
        intro ls H locs ws hr
        obtain ⟨k0, hk0⟩ := hr.2.2.2.1.1 a0 _ hl0 (pm_nscr_a (by decide))
        obtain ⟨k1, hk1⟩ := hr.2.2.2.1.1 a _ hl1 (pm_nscr_a (by decide))
        exact va_copyi (D := G.1) (cl := vwCl) (ty := .int) hexec hb (by rw [hml, hr.1.1, hlen]) hown (hts _ hlink) (hts _ pm_AC_nat) (hts _ pm_AC_stat) (hts _ pm_sys_ini) hW.1 hr.2.2.2.2.1 hr.2.2.2.2.2.1 hr.2.2.2.2.2.2 k0 k1 0 0 hk0 hk1 rfl rfl rfl q1 q2 q3 q4 q5 (fun _ _ => rfl) (by omega) (pm_room8 hW hd1 hlo hs8 (by decide)) hd (fun H1 locs1 hP1 hD1 hS1 => kk ls H1 locs1 _ (pm_sta_next hr hl1 (by decide) hk1 (pm_okt (pm_okt (pm_okt (pm_okt (pm_okt hr.2.2.1))))) hP1 hD1 hS1))
      · rename_i n0 f0 n1 g0 hl0 hl1
        cases hx
        obtain ⟨q1, q2, q3, q4, q5⟩ := hP _ rfl
        intro ls H locs ws hr
        obtain ⟨k0, hk0⟩ := hr.2.2.2.1.1 a0 _ hl0 (pm_nscr_a (by decide))
        obtain ⟨k1, hk1⟩ := hr.2.2.2.1.1 a _ hl1 (pm_nscr_a (by decide))
        exact va_copyl (D := G.1) (cl := vwCl) (ty := .long) hexec hb (by rw [hml, hr.1.1, hlen]) hown (hts _ hlink) (hts _ pm_AC_nat) (hts _ pm_AC_stat) (hts _ pm_sys_ini) hW.1 hr.2.2.2.2.1 hr.2.2.2.2.2.1 hr.2.2.2.2.2.2 k0 k1 1 1 hk0 hk1 rfl rfl rfl q1 q2 q3 q4 q5 (fun _ _ => rfl) (by omega) (pm_room8 hW hd1 hlo hs8 (by decide)) hd (fun H1 locs1 hP1 hD1 hS1 => kk ls H1 locs1 _ (pm_sta_next hr hl1 (by decide) hk1 (pm_okt (pm_okt (pm_okt (pm_okt (pm_okt hr.2.2.1))))) hP1 hD1 hS1))
      · cases hx
    · cases hx
  · cases hx
theorem pm_lib_ok (C : pm_Cx m d p R s mid args meth c) (hd1 : 1 ≤ d) (hW : pm_Wd G A s) {ix r r2 pc : Nat} {L : List (Option Value)} {S : List Value} {h : pm_H} {P : Option Prop} {f : pm_F} (hd : decode (pm_cd m) pc = .ok (.invokestatic ix, 3)) (hlen : L.length = pm_ml m)
    (hck : pm_cs m pc (.invokestatic ix) r r2 = true) (hcr : h.2.2.1 - c0 ≤ R.cells) (hsr : h.2.2.2 - s0 ≤ R.slots)
    (hx : pm_lib r2 (pc + 3) L S h = some (P, f)) (hP : ∀ q, P = some q → q) (kk : pm_at p l e R s mid args below meth c Q G A c0 s0 ad f) : pm_at p l e R s mid args below meth c Q G A c0 s0 ad (pc, L, S, h) := by
  have C9 := C
  obtain ⟨hexec, hb, hml, hrt, hlk0, hown, hts, -, -, hfr, hlo⟩ := C
  unfold pm_lib at hx
  split at hx
  · have hck : (match pm_AC[r]? with
      | some (oc, ix', _) => Nat.beq oc (pm_oc m) && Nat.beq ix' ix
      | none => false) = true := hck
    split at hck
    · rename_i oc ix' pl hAC
      simp only [Bool.and_eq_true, Nat.beq_eq] at hck
      exact pm_cpy_ok C9 hd1 hW hd hlen ⟨_, hAC, hck.1, hck.2⟩ hx hP kk
    · cases hck
  · have hck : (match pm_ML[r]? with
      | some (oc, ix', y, z, _) => Nat.beq oc (pm_oc m) && (Nat.beq ix' ix && (Nat.beq z 0 && Nat.beq y (pm_mth 2)))
      | none => false) = true := hck
    split at hck
    · rename_i oc ix' y z pl hML
      simp only [Bool.and_eq_true, Nat.beq_eq] at hck
      obtain ⟨e1, e2, e3, e4⟩ := hck
      have hl := (pm_ML_at hML e3).1
      dsimp only at hl
      rw [e1, e2, e4, show pm_mth 2 = 292 from rfl, pm_max_y] at hl
      split at hx
      · split at hx
        · rename_i hs8
          cases hx
          intro ls H locs ws hr
          exact va_mmax hexec hb (by rw [hml, hr.1.1, hlen]) hown (hts _ hl) (hts _ pm_max_stat) (hts _ pm_math_ini) (hts _ pm_max_code) (by omega) (pm_room8 hW hd1 hlo (Nat.le_of_ble_eq_true hs8) (by decide)) hcr hsr hd (kk ls H locs ws (hr.stk (pm_oks (pm_ok_int _) (pm_okt (pm_okt hr.2.2.1)))))
        · cases hx
      · cases hx
    · cases hck
  · have hck : (match pm_ML[r]? with
      | some (oc, ix', y, z, _) => Nat.beq oc (pm_oc m) && (Nat.beq ix' ix && (Nat.beq z 0 && Nat.beq y (pm_mth 3)))
      | none => false) = true := hck
    split at hck
    · rename_i oc ix' y z pl hML
      simp only [Bool.and_eq_true, Nat.beq_eq] at hck
      obtain ⟨e1, e2, e3, e4⟩ := hck
      have hl := (pm_ML_at hML e3).1
      dsimp only at hl
      rw [e1, e2, e4, show pm_mth 3 = 294 from rfl, pm_min_y] at hl
      split at hx
      · split at hx
        · rename_i hs8
          cases hx
          intro ls H locs ws hr
          exact va_mmin hexec hb (by rw [hml, hr.1.1, hlen]) hown (hts _ hl) (hts _ pm_min_stat) (hts _ pm_math_ini) (hts _ pm_min_code) (by omega) (pm_room8 hW hd1 hlo (Nat.le_of_ble_eq_true hs8) (by decide)) hcr hsr hd (kk ls H locs ws (hr.stk (pm_oks (pm_ok_int _) (pm_okt (pm_okt hr.2.2.1)))))
        · cases hx
      · cases hx
    · cases hck
  · have hck : (match pm_ML[r]? with
      | some (oc, ix', y, z, _) => Nat.beq oc (pm_oc m) && (Nat.beq ix' ix && (Nat.beq z 0 && Nat.beq y (pm_mth 4)))
      | none => false) = true := hck
    split at hck
    · rename_i oc ix' y z pl hML
      simp only [Bool.and_eq_true, Nat.beq_eq] at hck
      obtain ⟨e1, e2, e3, e4⟩ := hck
      have hl := (pm_ML_at hML e3).1
      dsimp only at hl
      rw [e1, e2, e4, show pm_mth 4 = 291 from rfl, pm_abs_y] at hl
      split at hx
      · split at hx
        · rename_i hs8
          cases hx
          intro ls H locs ws hr
          exact va_mabs hexec hb (by rw [hml, hr.1.1, hlen]) hown (hts _ hl) (hts _ pm_abs_stat) (hts _ pm_math_ini) (hts _ pm_abs_code) (by omega) (pm_room8 hW hd1 hlo (Nat.le_of_ble_eq_true hs8) (by decide)) hcr hsr hd (kk ls H locs ws (hr.stk (pm_oks (pm_ok_int _) (pm_okt hr.2.2.1))))
        · cases hx
      · cases hx
    · cases hck
  · have hck : (match pm_ML[r]? with
      | some (oc, ix', y, z, _) => Nat.beq oc (pm_oc m) && (Nat.beq ix' ix && (Nat.beq z 0 && Nat.beq y (pm_mth 5)))
      | none => false) = true := hck
    split at hck
    · rename_i oc ix' y z pl hML
      simp only [Bool.and_eq_true, Nat.beq_eq] at hck
      obtain ⟨e1, e2, e3, e4⟩ := hck
      have hl := (pm_ML_at hML e3).1
      dsimp only at hl
      rw [e1, e2, e4, show pm_mth 5 = 293 from rfl, pm_maxl_y] at hl
      split at hx
      · split at hx
        · rename_i hs8
          cases hx
          intro ls H locs ws hr
          exact va_mmax_long hexec hb (by rw [hml, hr.1.1, hlen]) hown (hts _ hl) (hts _ pm_maxl_stat) (hts _ pm_math_ini) (hts _ pm_maxl_code) (by omega) (pm_room8 hW hd1 hlo (Nat.le_of_ble_eq_true hs8) (by decide)) hcr hsr hd (kk ls H locs ws (hr.stk (pm_oks (pm_ok_long _) (pm_okt (pm_okt hr.2.2.1)))))
        · cases hx
      · cases hx
    · cases hck
  · have hck : (match pm_ML[r]? with
      | some (oc, ix', y, z, _) => Nat.beq oc (pm_oc m) && (Nat.beq ix' ix && (Nat.beq z 0 && Nat.beq y (pm_mth 6)))
      | none => false) = true := hck
    split at hck
    · rename_i oc ix' y z pl hML
      simp only [Bool.and_eq_true, Nat.beq_eq] at hck
      obtain ⟨e1, e2, e3, e4⟩ := hck
      have hl := (pm_ML_at hML e3).1
      dsimp only at hl
      rw [e1, e2, e4, show pm_mth 6 = 295 from rfl, pm_minl_y] at hl
      split at hx
      · split at hx
        · rename_i hs8
          cases hx
          intro ls H locs ws hr
          exact va_mmin_long hexec hb (by rw [hml, hr.1.1, hlen]) hown (hts _ hl) (hts _ pm_minl_stat) (hts _ pm_math_ini) (hts _ pm_minl_code) (by omega) (pm_room8 hW hd1 hlo (Nat.le_of_ble_eq_true hs8) (by decide)) hcr hsr hd (kk ls H locs ws (hr.stk (pm_oks (pm_ok_long _) (pm_okt (pm_okt hr.2.2.1)))))
        · cases hx
      · cases hx
    · cases hck
  · cases hx
end PMS
