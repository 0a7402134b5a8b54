/-! Throws of the class's three exceptions. -/
def pm_nms : List String := ["java/lang/RuntimeException", "java/lang/Exception"]
def px_ok (E : String) (ik ic ix : Nat) (rx : ByteArray) : Prop :=
  (Bundle.fit E = true ∧ decode rx 0 = .ok (.aload_n 0, 1) ∧ decode rx 1 = .ok (.aload_n 1, 1) ∧ decode rx 2 = .ok (.invokespecial ix, 3) ∧ decode rx 5 = .ok (.return_, 1)) ∧
  Cond.classLink (pm_cn 8) ik E ∈ pm_ws ∧ Cond.initialized E ∈ pm_ws ∧ (∀ w ∈ px_at (pm_cn 8) ic E ix rx pm_nms, w ∈ pm_ws ∨ w ∈ pm_nb) ∧ ∀ w ∈ Cond.classLink (pm_cn 8) ik E :: Cond.initialized E :: px_at (pm_cn 8) ic E ix rx pm_nms, vx_ot w = true
theorem px_nms : ∀ n ∈ pm_nms, Bundle.fit n = true := by decide +kernel
theorem px_ot (w : Cond) (h : pm_isn w = true) : w.onTables = true := by
  cases w <;> first
    | rfl
    | (cases h; done)
theorem px_next {P : Cond → Bool} {L : List Cond} {n : Nat} (h : ((L.drop n).take 10).all P = true) (t : (L.drop (n + 10)).all P = true) : (L.drop n).all P = true := by
  rw [← List.take_append_drop 10 (L.drop n), List.all_append, h, List.drop_drop]
  exact t
theorem px_two {L : List Cond} (h1 : L.all (fun w => goodWord w || pm_isn w) = true) (h2 : (L.drop 0).all (fun w => decide (w ∈ lw_tbl)) = true) : ∀ w ∈ L, w ∈ pm_ws ∨ w ∈ pm_nb := fun w hw => by
  have a1 := List.all_eq_true.mp h1 w hw
  have a2 := of_decide_eq_true (List.all_eq_true.mp h2 w hw)
  simp only [Bool.or_eq_true] at a1
  rcases a1 with a1 | a1
  · exact Or.inl (List.mem_filter.mpr ⟨a2, a1⟩)
  · exact Or.inr (List.mem_filter.mpr ⟨a2, a1⟩)
theorem pm_Wg.throw {m d pc k ik ic ix : Nat} {E : String} {rx : ByteArray} {q : Nat × Nat × String × Nat} {L : List (Option Value)} {S : List Value} {h : pm_H} (ho : pm_oc m = 8) (hh : pm_hh m = []) (hd6 : 6 ≤ d) (hE : px_ok E ik ic ix rx) (hk : pm_SR[k]? = some q) (hq1 : q.1 = 8) (d0 : decode (pm_cd m) pc = .ok (.new ik, 3)) (d3 : decode (pm_cd m) (pc + 3) = .ok (.dup, 1)) (d4 : decode (pm_cd m) (pc + 4) = .ok (.ldc q.2.1, 2)) (d6 : decode (pm_cd m) (pc + 6) = .ok (.invokespecial ic, 3)) (d9 : decode (pm_cd m) (pc + 9) = .ok (.athrow, 1)) (h8 : pm_sum S ≤ 8) : pm_Wg m d (.inr E) (h.1, h.2.1, h.2.2.1 + 1, h.2.2.2 + 6) (pc, L, S, h) := by
  refine ⟨⟨Nat.le_succ _, Nat.le_add_right _ _, fun i c hc => ⟨c, hc⟩⟩, Nat.le_succ _, Nat.le_add_right _ _, fun l hl p e R s mid args below meth c G A ad c0 s0 C hW hlen hc0 hs0 hcr hsr => ?_⟩
  obtain ⟨hexec, hb, hml, hrt, hlk0, hown, hts, htab, hin, hfr, hlo⟩ := C
  intro ls H locs ws hr
  obtain ⟨⟨e1, x0, x1, x2, x5⟩, e2, e3, e4, e5⟩ := hE
  rw [ho] at hown
  dsimp only at hc0 hs0 hlen hcr hsr
  have hstr := hW.2.2.2.2.2.2.2.2.1 k q hk
  rw [hq1] at hstr
  have hS := hr.2.2.2.2.2.2
  have hP := hr.2.2.2.2.1
  have hsum := Nat.le_trans (pm_sum_eq (ad := ad) hW.2.2.2.2.1 S) h8
  have hn2 : pm_nms.length = 2 := rfl
  refine px_makeS (own := pm_cn 8) (cls := E) (names := pm_nms) (ik := ik) (ic := ic) (sa := G.2.2.1 k) (text := q.2.2.1) (A := A) hexec hb hl x0 x1 x2 x5 hown e1 px_nms (hts _ e2) (hts _ e3) hstr (fun w hw => (e4 w hw).elim (fun z => hts w z) (fun z => va_Nw.use (px_ot w (List.mem_filter.mp z).2) (hW.2.2.2.2.2.2.2.2.2.1 w z))) e5 hW.2.2.2.2.2.2.1 hW.2.2.2.2.2.2.2.1 hS ((hr.1.1.trans hlen).trans hml.symm) d0 d3 d4 d6 (by rw [hn2]; omega) (by rw [hn2]; dsimp only at hsum ⊢; omega) (by dsimp only; omega) (by dsimp only; omega) (fun q9 H1 ce g1 g2 g3 g4 g5 => ?_)
  refine px_athrow hexec hb d9 ?_
  refine vx_out (E := E) (ce := ce) (fun x hx => by rw [htab, hh] at hx; cases hx) hlk0 g3 g4 g5 (fun t ht hal => ?_) hS.2.2 (by dsimp only; omega) (by dsimp only; omega)
  refine ⟨rfl, ad, ws, fun _ _ _ => rfl, hr.2.2.2.1, ?_, hr.2.2.2.2.2.1, ?_⟩
  · rw [ht]
    exact hP.kept (fun k9 x hx => g2 x.1 ((hP k9 x hx).lt))
  · exact ⟨by rw [ht]; exact Nat.le_trans hS.1 g1, fun z h1 h2 => by rw [ht]; exact (g2 z (Nat.lt_of_lt_of_le h1 hS.1)).trans (hS.2.1 z h1 h2)⟩
theorem pm_mem2 {w : Cond} (h : decide (w ∈ lw_tbl) = true) (g : goodWord w = true) : w ∈ pm_ws := List.mem_filter.mpr ⟨of_decide_eq_true h, g⟩
def px_rx13 : ByteArray := ⟨#[0x2a, 0x2b, 0xb7, 0x00, 0x0d, 0xb1]⟩
set_option maxRecDepth 20000 in
theorem px_ISE_0 : (((px_at (pm_cn 8) 35 "java/lang/IllegalStateException" 7 Bundle.six pm_nms).drop 0).take 10).all (fun w => decide (w ∈ lw_tbl)) = true := by decide +kernel
set_option maxRecDepth 20000 in
theorem px_ISE_1 : (((px_at (pm_cn 8) 35 "java/lang/IllegalStateException" 7 Bundle.six pm_nms).drop 10).take 10).all (fun w => decide (w ∈ lw_tbl)) = true := by decide +kernel
set_option maxRecDepth 20000 in
theorem px_ISE_2 : (((px_at (pm_cn 8) 35 "java/lang/IllegalStateException" 7 Bundle.six pm_nms).drop 20).take 10).all (fun w => decide (w ∈ lw_tbl)) = true := by decide +kernel
set_option maxRecDepth 20000 in
theorem px_ISE_3 : (((px_at (pm_cn 8) 35 "java/lang/IllegalStateException" 7 Bundle.six pm_nms).drop 30).take 10).all (fun w => decide (w ∈ lw_tbl)) = true := by decide +kernel
set_option maxRecDepth 20000 in
theorem px_ISE_4 : (((px_at (pm_cn 8) 35 "java/lang/IllegalStateException" 7 Bundle.six pm_nms).drop 40).take 10).all (fun w => decide (w ∈ lw_tbl)) = true := by decide +kernel
set_option maxRecDepth 20000 in
theorem px_ISE_5 : (((px_at (pm_cn 8) 35 "java/lang/IllegalStateException" 7 Bundle.six pm_nms).drop 50).take 10).all (fun w => decide (w ∈ lw_tbl)) = true := by decide +kernel
set_option maxRecDepth 20000 in
theorem px_ISE_6 : (((px_at (pm_cn 8) 35 "java/lang/IllegalStateException" 7 Bundle.six pm_nms).drop 60).take 10).all (fun w => decide (w ∈ lw_tbl)) = true := by decide +kernel
theorem px_ISE_e : ((px_at (pm_cn 8) 35 "java/lang/IllegalStateException" 7 Bundle.six pm_nms).drop 70).all (fun w => decide (w ∈ lw_tbl)) = true := by decide +kernel
theorem px_ISE : px_ok "java/lang/IllegalStateException" 31 35 7 Bundle.six := ⟨⟨by decide +kernel, by decide +kernel, by decide +kernel, by decide +kernel, by decide +kernel⟩, pm_mem2 (by decide +kernel) rfl, pm_mem2 (by decide +kernel) rfl, px_two (by decide +kernel) (px_next px_ISE_0 (px_next px_ISE_1 (px_next px_ISE_2 (px_next px_ISE_3 (px_next px_ISE_4 (px_next px_ISE_5 (px_next px_ISE_6 ( px_ISE_e)))))))), List.all_eq_true.mp (by decide +kernel)⟩
set_option maxRecDepth 20000 in
theorem px_IAE_0 : (((px_at (pm_cn 8) 46 "java/lang/IllegalArgumentException" 7 Bundle.six pm_nms).drop 0).take 10).all (fun w => decide (w ∈ lw_tbl)) = true := by decide +kernel
set_option maxRecDepth 20000 in
theorem px_IAE_1 : (((px_at (pm_cn 8) 46 "java/lang/IllegalArgumentException" 7 Bundle.six pm_nms).drop 10).take 10).all (fun w => decide (w ∈ lw_tbl)) = true := by decide +kernel
set_option maxRecDepth 20000 in
theorem px_IAE_2 : (((px_at (pm_cn 8) 46 "java/lang/IllegalArgumentException" 7 Bundle.six pm_nms).drop 20).take 10).all (fun w => decide (w ∈ lw_tbl)) = true := by decide +kernel
set_option maxRecDepth 20000 in
theorem px_IAE_3 : (((px_at (pm_cn 8) 46 "java/lang/IllegalArgumentException" 7 Bundle.six pm_nms).drop 30).take 10).all (fun w => decide (w ∈ lw_tbl)) = true := by decide +kernel
set_option maxRecDepth 20000 in
theorem px_IAE_4 : (((px_at (pm_cn 8) 46 "java/lang/IllegalArgumentException" 7 Bundle.six pm_nms).drop 40).take 10).all (fun w => decide (w ∈ lw_tbl)) = true := by decide +kernel
set_option maxRecDepth 20000 in
theorem px_IAE_5 : (((px_at (pm_cn 8) 46 "java/lang/IllegalArgumentException" 7 Bundle.six pm_nms).drop 50).take 10).all (fun w => decide (w ∈ lw_tbl)) = true := by decide +kernel
set_option maxRecDepth 20000 in
theorem px_IAE_6 : (((px_at (pm_cn 8) 46 "java/lang/IllegalArgumentException" 7 Bundle.six pm_nms).drop 60).take 10).all (fun w => decide (w ∈ lw_tbl)) = true := by decide +kernel
theorem px_IAE_e : ((px_at (pm_cn 8) 46 "java/lang/IllegalArgumentException" 7 Bundle.six pm_nms).drop 70).all (fun w => decide (w ∈ lw_tbl)) = true := by decide +kernel
theorem px_IAE : px_ok "java/lang/IllegalArgumentException" 42 46 7 Bundle.six := ⟨⟨by decide +kernel, by decide +kernel, by decide +kernel, by decide +kernel, by decide +kernel⟩, pm_mem2 (by decide +kernel) rfl, pm_mem2 (by decide +kernel) rfl, px_two (by decide +kernel) (px_next px_IAE_0 (px_next px_IAE_1 (px_next px_IAE_2 (px_next px_IAE_3 (px_next px_IAE_4 (px_next px_IAE_5 (px_next px_IAE_6 ( px_IAE_e)))))))), List.all_eq_true.mp (by decide +kernel)⟩
set_option maxRecDepth 20000 in
theorem px_NSE_0 : (((px_at (pm_cn 8) 116 "java/util/NoSuchElementException" 13 px_rx13 pm_nms).drop 0).take 10).all (fun w => decide (w ∈ lw_tbl)) = true := by decide +kernel
set_option maxRecDepth 20000 in
theorem px_NSE_1 : (((px_at (pm_cn 8) 116 "java/util/NoSuchElementException" 13 px_rx13 pm_nms).drop 10).take 10).all (fun w => decide (w ∈ lw_tbl)) = true := by decide +kernel
set_option maxRecDepth 20000 in
theorem px_NSE_2 : (((px_at (pm_cn 8) 116 "java/util/NoSuchElementException" 13 px_rx13 pm_nms).drop 20).take 10).all (fun w => decide (w ∈ lw_tbl)) = true := by decide +kernel
set_option maxRecDepth 20000 in
theorem px_NSE_3 : (((px_at (pm_cn 8) 116 "java/util/NoSuchElementException" 13 px_rx13 pm_nms).drop 30).take 10).all (fun w => decide (w ∈ lw_tbl)) = true := by decide +kernel
set_option maxRecDepth 20000 in
theorem px_NSE_4 : (((px_at (pm_cn 8) 116 "java/util/NoSuchElementException" 13 px_rx13 pm_nms).drop 40).take 10).all (fun w => decide (w ∈ lw_tbl)) = true := by decide +kernel
set_option maxRecDepth 20000 in
theorem px_NSE_5 : (((px_at (pm_cn 8) 116 "java/util/NoSuchElementException" 13 px_rx13 pm_nms).drop 50).take 10).all (fun w => decide (w ∈ lw_tbl)) = true := by decide +kernel
set_option maxRecDepth 20000 in
theorem px_NSE_6 : (((px_at (pm_cn 8) 116 "java/util/NoSuchElementException" 13 px_rx13 pm_nms).drop 60).take 10).all (fun w => decide (w ∈ lw_tbl)) = true := by decide +kernel
theorem px_NSE_e : ((px_at (pm_cn 8) 116 "java/util/NoSuchElementException" 13 px_rx13 pm_nms).drop 70).all (fun w => decide (w ∈ lw_tbl)) = true := by decide +kernel
theorem px_NSE : px_ok "java/util/NoSuchElementException" 112 116 13 px_rx13 := ⟨⟨by decide +kernel, by decide +kernel, by decide +kernel, by decide +kernel, by decide +kernel⟩, pm_mem2 (by decide +kernel) rfl, pm_mem2 (by decide +kernel) rfl, px_two (by decide +kernel) (px_next px_NSE_0 (px_next px_NSE_1 (px_next px_NSE_2 (px_next px_NSE_3 (px_next px_NSE_4 (px_next px_NSE_5 (px_next px_NSE_6 ( px_NSE_e)))))))), List.all_eq_true.mp (by decide +kernel)⟩
