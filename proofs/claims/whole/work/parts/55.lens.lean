/-! The reference's flat arrays by region (wip/whole/lens.py): 0 scalars, 1 disks, 2 queues, 3 held units, 4 stripes' states, 5 requests, 6 statistics, 7 operations. -/
def en (g i w : Nat) : Nat := match g with
  | 0 => w
  | 1 => 16 + 4 * i + w
  | 2 => 44 + 6 * i + w
  | 3 => 296 + 64 * i + w
  | 4 => 680 + i
  | 5 => 744 + 5 * i + w
  | 6 => 2744 + 7 * i + w
  | 7 => 2786 + 7 * i + w
  | _ => 0
def eb (g i w : Nat) : Bool := match g with
  | 0 => decide (i = 0 ∧ w < 16)
  | 1 => decide (i < 7 ∧ w < 4)
  | 2 => decide (i < 42 ∧ w < 6)
  | 3 => decide (i < 6 ∧ w < 64)
  | 4 => decide (i < 64 ∧ w = 0)
  | 5 => decide (i < 400 ∧ w < 5)
  | 6 => decide (i < 6 ∧ w < 7)
  | 7 => decide (i < 2200 ∧ w < 7)
  | _ => false
theorem eb_8 {g i w : Nat} (h : eb g i w = true) : g < 8 := by
  unfold eb at h
  split at h <;> first | omega | cases h
theorem en_lt {g i w : Nat} (h : eb g i w = true) : en g i w < 18186 := by
  have hg := eb_8 h
  have c : g = 0 ∨ g = 1 ∨ g = 2 ∨ g = 3 ∨ g = 4 ∨ g = 5 ∨ g = 6 ∨ g = 7 := by omega
  rcases c with c | c | c | c | c | c | c | c <;> subst c <;> simp only [en, eb, decide_eq_true_eq] at h ⊢ <;> omega
theorem en_inj {g i w g' i' w' : Nat} (h : eb g i w = true) (h' : eb g' i' w' = true) (e : en g i w = en g' i' w') : g = g' ∧ i = i' ∧ w = w' := by
  have hg := eb_8 h
  have hg' := eb_8 h'
  have c : g = 0 ∨ g = 1 ∨ g = 2 ∨ g = 3 ∨ g = 4 ∨ g = 5 ∨ g = 6 ∨ g = 7 := by omega
  have c' : g' = 0 ∨ g' = 1 ∨ g' = 2 ∨ g' = 3 ∨ g' = 4 ∨ g' = 5 ∨ g' = 6 ∨ g' = 7 := by omega
  rcases c with c | c | c | c | c | c | c | c <;> subst c <;> rcases c' with c | c | c | c | c | c | c | c <;> subst c <;> simp only [en, eb, decide_eq_true_eq] at h h' e <;> omega
/-- what lies there (0 outside) -/
def vn (s : mo_S) (g i w : Nat) : Int32 := if eb g i w = true then s.2.2.1 3 (en g i w) else 0
def us (s : mo_S) (g i w : Nat) (v : Int32) : mo_S := mo_a s 3 (nI (en g i w)) v
theorem vn_us {s : mo_S} {g i w : Nat} {v : Int32} (h : eb g i w = true) (g' i' w' : Nat) : vn (us s g i w v) g' i' w' = if g' = g ∧ i' = i ∧ w' = w then v else vn s g' i' w' := by
  unfold vn us
  by_cases h' : eb g' i' w' = true
  · rw [if_pos h', if_pos h', mo_a_k _ _ _ (en_lt h)]
    by_cases e : en g' i' w' = en g i w
    · rw [if_pos e, if_pos (en_inj h' h e)]
    · rw [if_neg e, if_neg (fun c => e (by rw [c.1, c.2.1, c.2.2]))]
  · rw [if_neg h', if_neg h', if_neg (fun c => h' (by rw [c.1, c.2.1, c.2.2]; exact h))]
theorem us_1 (s : mo_S) (g i w : Nat) (v : Int32) : (us s g i w v).1 = s.1 := rfl
theorem us_2 (s : mo_S) (g i w : Nat) (v : Int32) : (us s g i w v).2.1 = s.2.1 := rfl
theorem us_3 (s : mo_S) (g i w : Nat) (v : Int32) {p : Nat} (h : p ≠ 3) : (us s g i w v).2.2.1 p = s.2.2.1 p := (bg_F.a s _ v).2.2.1 p h
theorem us_30 (s : mo_S) (g i w : Nat) (v : Int32) : (us s g i w v).2.2.1 0 = s.2.2.1 0 := us_3 s g i w v (by decide)
theorem us_317 (s : mo_S) (g i w : Nat) (v : Int32) : (us s g i w v).2.2.1 17 = s.2.2.1 17 := us_3 s g i w v (by decide)
theorem us_4 (s : mo_S) (g i w : Nat) (v : Int32) : (us s g i w v).2.2.2 = s.2.2.2 := rfl
theorem vn_i (s : mo_S) (k : Nat) (v : Int32) (g i w : Nat) : vn (mo_i s k v) g i w = vn s g i w := rfl
/-- an operation's tags, a queue's tags -/
def vt (s : mo_S) (o w : Nat) : Int64 := if o < 2200 ∧ w < 3 then s.2.2.2 5 (3 * o + w) else 0
def vq (s : mo_S) (q w : Nat) : Int64 := if q < 42 ∧ w < 3 then s.2.2.2 5 (6600 + 3 * q + w) else 0
def ut (s : mo_S) (o w : Nat) (v : Int64) : mo_S := mo_l s 5 (nI (3 * o + w)) v
def uq (s : mo_S) (q w : Nat) (v : Int64) : mo_S := mo_l s 5 (nI (6600 + 3 * q + w)) v
theorem mo_l_4 (s : mo_S) (p p' : Nat) (i : Int32) (v : Int64) (k : Nat) : (mo_l s p i v).2.2.2 p' k = if p' = p ∧ k = i.toNatClampNeg then v else s.2.2.2 p' k := by
  unfold mo_l va_up vp_updL
  by_cases h : p' = p
  · subst h; simp
  · simp [h]
theorem mo_l_k (s : mo_S) {i : Nat} (v : Int64) (k : Nat) (h : i < 6726) : (mo_l s 5 (nI i) v).2.2.2 5 k = if k = i then v else s.2.2.2 5 k := by
  rw [mo_l_4, nI_clamp (by omega)]
  by_cases hk : k = i
  · rw [if_pos ⟨rfl, hk⟩, if_pos hk]
  · rw [if_neg (fun h => hk h.2), if_neg hk]
theorem vt_ut {s : mo_S} {o w : Nat} {v : Int64} (h : o < 2200) (hw : w < 3) (o' w' : Nat) : vt (ut s o w v) o' w' = if o' = o ∧ w' = w then v else vt s o' w' := by
  unfold vt ut
  by_cases c : o' < 2200 ∧ w' < 3
  · rw [if_pos c, if_pos c, mo_l_k _ _ _ (by omega)]
    by_cases e : 3 * o' + w' = 3 * o + w
    · rw [if_pos e, if_pos (by omega)]
    · rw [if_neg e, if_neg (by omega)]
  · rw [if_neg c, if_neg c, if_neg (by omega)]
theorem vq_uq {s : mo_S} {q w : Nat} {v : Int64} (h : q < 42) (hw : w < 3) (q' w' : Nat) : vq (uq s q w v) q' w' = if q' = q ∧ w' = w then v else vq s q' w' := by
  unfold vq uq
  by_cases c : q' < 42 ∧ w' < 3
  · rw [if_pos c, if_pos c, mo_l_k _ _ _ (by omega)]
    by_cases e : 6600 + 3 * q' + w' = 6600 + 3 * q + w
    · rw [if_pos e, if_pos (by omega)]
    · rw [if_neg e, if_neg (by omega)]
  · rw [if_neg c, if_neg c, if_neg (by omega)]
theorem vt_uq {s : mo_S} {q w : Nat} {v : Int64} (h : q < 42) (hw : w < 3) (o' w' : Nat) : vt (uq s q w v) o' w' = vt s o' w' := by
  unfold vt uq
  by_cases c : o' < 2200 ∧ w' < 3
  · rw [if_pos c, if_pos c, mo_l_k _ _ _ (by omega), if_neg (by omega)]
  · rw [if_neg c, if_neg c]
theorem vq_ut {s : mo_S} {o w : Nat} {v : Int64} (h : o < 2200) (hw : w < 3) (q' w' : Nat) : vq (ut s o w v) q' w' = vq s q' w' := by
  unfold vq ut
  by_cases c : q' < 42 ∧ w' < 3
  · rw [if_pos c, if_pos c, mo_l_k _ _ _ (by omega), if_neg (by omega)]
  · rw [if_neg c, if_neg c]
theorem vt_us (s : mo_S) (g i w : Nat) (v : Int32) (o' w' : Nat) : vt (us s g i w v) o' w' = vt s o' w' := rfl
theorem vq_us (s : mo_S) (g i w : Nat) (v : Int32) (o' w' : Nat) : vq (us s g i w v) o' w' = vq s o' w' := rfl
theorem vt_i (s : mo_S) (k : Nat) (v : Int32) (o' w' : Nat) : vt (mo_i s k v) o' w' = vt s o' w' := rfl
theorem vq_i (s : mo_S) (k : Nat) (v : Int32) (o' w' : Nat) : vq (mo_i s k v) o' w' = vq s o' w' := rfl
theorem vn_ut (s : mo_S) (o w : Nat) (v : Int64) (g i w' : Nat) : vn (ut s o w v) g i w' = vn s g i w' := rfl
theorem vn_uq (s : mo_S) (o w : Nat) (v : Int64) (g i w' : Nat) : vn (uq s o w v) g i w' = vn s g i w' := rfl
theorem ut_1 (s : mo_S) (o w : Nat) (v : Int64) : (ut s o w v).1 = s.1 := rfl
theorem uq_1 (s : mo_S) (o w : Nat) (v : Int64) : (uq s o w v).1 = s.1 := rfl
theorem ut_3 (s : mo_S) (o w : Nat) (v : Int64) : (ut s o w v).2.2.1 = s.2.2.1 := rfl
theorem uq_3 (s : mo_S) (o w : Nat) (v : Int64) : (uq s o w v).2.2.1 = s.2.2.1 := rfl
theorem ix_of (a b i w : Nat) : (nI a + nI b * nI i) + nI w = nI (a + b * i + w) := by
  rw [nI_mul, nI_add, nI_add]
theorem ofDisk_w (s : mo_S) {i w : Nat} (h : i < 7) (hw : w < 4) : f_X9_ofDisk s (nI i) (nI w) = some (vn s 1 i w) := by
  have e : ((16 : Int32) + 4 * nI i) + nI w = nI (16 + 4 * i + w) := ix_of 16 4 i w
  unfold f_X9_ofDisk vn
  rw [e, nb_nI (by omega) (by decide), nI_clamp (by omega), if_pos (show eb 1 i w = true from decide_eq_true ⟨h, hw⟩)]
  rfl
theorem ofDisk_0 (s : mo_S) {i : Nat} (h : i < 7) : f_X9_ofDisk s (nI i) 0 = some (vn s 1 i 0) := ofDisk_w s (w := 0) h (by decide)
theorem ofDisk_1 (s : mo_S) {i : Nat} (h : i < 7) : f_X9_ofDisk s (nI i) 1 = some (vn s 1 i 1) := ofDisk_w s (w := 1) h (by decide)
theorem ofDisk_2 (s : mo_S) {i : Nat} (h : i < 7) : f_X9_ofDisk s (nI i) 2 = some (vn s 1 i 2) := ofDisk_w s (w := 2) h (by decide)
theorem ofDisk_3 (s : mo_S) {i : Nat} (h : i < 7) : f_X9_ofDisk s (nI i) 3 = some (vn s 1 i 3) := ofDisk_w s (w := 3) h (by decide)
theorem setDisk_w (s : mo_S) {i w : Nat} {v : Int32} (h : i < 7) (hw : w < 4) : f_X9_setDisk s (nI i) (nI w) v = some (us s 1 i w v) := by
  have e : ((16 : Int32) + 4 * nI i) + nI w = nI (16 + 4 * i + w) := ix_of 16 4 i w
  unfold f_X9_setDisk us
  rw [e, nb_nI (by omega) (by decide)]
  rfl
theorem setDisk_0 (s : mo_S) {i : Nat} {v : Int32} (h : i < 7) : f_X9_setDisk s (nI i) 0 v = some (us s 1 i 0 v) := setDisk_w s (w := 0) h (by decide)
theorem setDisk_1 (s : mo_S) {i : Nat} {v : Int32} (h : i < 7) : f_X9_setDisk s (nI i) 1 v = some (us s 1 i 1 v) := setDisk_w s (w := 1) h (by decide)
theorem setDisk_2 (s : mo_S) {i : Nat} {v : Int32} (h : i < 7) : f_X9_setDisk s (nI i) 2 v = some (us s 1 i 2 v) := setDisk_w s (w := 2) h (by decide)
theorem setDisk_3 (s : mo_S) {i : Nat} {v : Int32} (h : i < 7) : f_X9_setDisk s (nI i) 3 v = some (us s 1 i 3 v) := setDisk_w s (w := 3) h (by decide)
theorem ofQueue_w (s : mo_S) {i w : Nat} (h : i < 42) (hw : w < 6) : f_X9_ofQueue s (nI i) (nI w) = some (vn s 2 i w) := by
  have e : ((44 : Int32) + 6 * nI i) + nI w = nI (44 + 6 * i + w) := ix_of 44 6 i w
  unfold f_X9_ofQueue vn
  rw [e, nb_nI (by omega) (by decide), nI_clamp (by omega), if_pos (show eb 2 i w = true from decide_eq_true ⟨h, hw⟩)]
  rfl
theorem ofQueue_0 (s : mo_S) {i : Nat} (h : i < 42) : f_X9_ofQueue s (nI i) 0 = some (vn s 2 i 0) := ofQueue_w s (w := 0) h (by decide)
theorem ofQueue_1 (s : mo_S) {i : Nat} (h : i < 42) : f_X9_ofQueue s (nI i) 1 = some (vn s 2 i 1) := ofQueue_w s (w := 1) h (by decide)
theorem ofQueue_2 (s : mo_S) {i : Nat} (h : i < 42) : f_X9_ofQueue s (nI i) 2 = some (vn s 2 i 2) := ofQueue_w s (w := 2) h (by decide)
theorem ofQueue_3 (s : mo_S) {i : Nat} (h : i < 42) : f_X9_ofQueue s (nI i) 3 = some (vn s 2 i 3) := ofQueue_w s (w := 3) h (by decide)
theorem ofQueue_4 (s : mo_S) {i : Nat} (h : i < 42) : f_X9_ofQueue s (nI i) 4 = some (vn s 2 i 4) := ofQueue_w s (w := 4) h (by decide)
theorem ofQueue_5 (s : mo_S) {i : Nat} (h : i < 42) : f_X9_ofQueue s (nI i) 5 = some (vn s 2 i 5) := ofQueue_w s (w := 5) h (by decide)
theorem setQueue_w (s : mo_S) {i w : Nat} {v : Int32} (h : i < 42) (hw : w < 6) : f_X9_setQueue s (nI i) (nI w) v = some (us s 2 i w v) := by
  have e : ((44 : Int32) + 6 * nI i) + nI w = nI (44 + 6 * i + w) := ix_of 44 6 i w
  unfold f_X9_setQueue us
  rw [e, nb_nI (by omega) (by decide)]
  rfl
theorem setQueue_0 (s : mo_S) {i : Nat} {v : Int32} (h : i < 42) : f_X9_setQueue s (nI i) 0 v = some (us s 2 i 0 v) := setQueue_w s (w := 0) h (by decide)
theorem setQueue_1 (s : mo_S) {i : Nat} {v : Int32} (h : i < 42) : f_X9_setQueue s (nI i) 1 v = some (us s 2 i 1 v) := setQueue_w s (w := 1) h (by decide)
theorem setQueue_2 (s : mo_S) {i : Nat} {v : Int32} (h : i < 42) : f_X9_setQueue s (nI i) 2 v = some (us s 2 i 2 v) := setQueue_w s (w := 2) h (by decide)
theorem setQueue_3 (s : mo_S) {i : Nat} {v : Int32} (h : i < 42) : f_X9_setQueue s (nI i) 3 v = some (us s 2 i 3 v) := setQueue_w s (w := 3) h (by decide)
theorem setQueue_4 (s : mo_S) {i : Nat} {v : Int32} (h : i < 42) : f_X9_setQueue s (nI i) 4 v = some (us s 2 i 4 v) := setQueue_w s (w := 4) h (by decide)
theorem setQueue_5 (s : mo_S) {i : Nat} {v : Int32} (h : i < 42) : f_X9_setQueue s (nI i) 5 v = some (us s 2 i 5 v) := setQueue_w s (w := 5) h (by decide)
theorem ofRequest_w (s : mo_S) {i w : Nat} (h : i < 400) (hw : w < 5) : f_X9_ofRequest s (nI i) (nI w) = some (vn s 5 i w) := by
  have e : ((744 : Int32) + 5 * nI i) + nI w = nI (744 + 5 * i + w) := ix_of 744 5 i w
  unfold f_X9_ofRequest vn
  rw [e, nb_nI (by omega) (by decide), nI_clamp (by omega), if_pos (show eb 5 i w = true from decide_eq_true ⟨h, hw⟩)]
  rfl
theorem ofRequest_0 (s : mo_S) {i : Nat} (h : i < 400) : f_X9_ofRequest s (nI i) 0 = some (vn s 5 i 0) := ofRequest_w s (w := 0) h (by decide)
theorem ofRequest_1 (s : mo_S) {i : Nat} (h : i < 400) : f_X9_ofRequest s (nI i) 1 = some (vn s 5 i 1) := ofRequest_w s (w := 1) h (by decide)
theorem ofRequest_2 (s : mo_S) {i : Nat} (h : i < 400) : f_X9_ofRequest s (nI i) 2 = some (vn s 5 i 2) := ofRequest_w s (w := 2) h (by decide)
theorem ofRequest_3 (s : mo_S) {i : Nat} (h : i < 400) : f_X9_ofRequest s (nI i) 3 = some (vn s 5 i 3) := ofRequest_w s (w := 3) h (by decide)
theorem ofRequest_4 (s : mo_S) {i : Nat} (h : i < 400) : f_X9_ofRequest s (nI i) 4 = some (vn s 5 i 4) := ofRequest_w s (w := 4) h (by decide)
theorem setRequest_w (s : mo_S) {i w : Nat} {v : Int32} (h : i < 400) (hw : w < 5) : f_X9_setRequest s (nI i) (nI w) v = some (us s 5 i w v) := by
  have e : ((744 : Int32) + 5 * nI i) + nI w = nI (744 + 5 * i + w) := ix_of 744 5 i w
  unfold f_X9_setRequest us
  rw [e, nb_nI (by omega) (by decide)]
  rfl
theorem setRequest_0 (s : mo_S) {i : Nat} {v : Int32} (h : i < 400) : f_X9_setRequest s (nI i) 0 v = some (us s 5 i 0 v) := setRequest_w s (w := 0) h (by decide)
theorem setRequest_1 (s : mo_S) {i : Nat} {v : Int32} (h : i < 400) : f_X9_setRequest s (nI i) 1 v = some (us s 5 i 1 v) := setRequest_w s (w := 1) h (by decide)
theorem setRequest_2 (s : mo_S) {i : Nat} {v : Int32} (h : i < 400) : f_X9_setRequest s (nI i) 2 v = some (us s 5 i 2 v) := setRequest_w s (w := 2) h (by decide)
theorem setRequest_3 (s : mo_S) {i : Nat} {v : Int32} (h : i < 400) : f_X9_setRequest s (nI i) 3 v = some (us s 5 i 3 v) := setRequest_w s (w := 3) h (by decide)
theorem setRequest_4 (s : mo_S) {i : Nat} {v : Int32} (h : i < 400) : f_X9_setRequest s (nI i) 4 v = some (us s 5 i 4 v) := setRequest_w s (w := 4) h (by decide)
theorem ofTenant_w (s : mo_S) {i w : Nat} (h : i < 6) (hw : w < 7) : f_X9_ofTenant s (nI i) (nI w) = some (vn s 6 i w) := by
  have e : ((2744 : Int32) + 7 * nI i) + nI w = nI (2744 + 7 * i + w) := ix_of 2744 7 i w
  unfold f_X9_ofTenant vn
  rw [e, nb_nI (by omega) (by decide), nI_clamp (by omega), if_pos (show eb 6 i w = true from decide_eq_true ⟨h, hw⟩)]
  rfl
theorem ofTenant_0 (s : mo_S) {i : Nat} (h : i < 6) : f_X9_ofTenant s (nI i) 0 = some (vn s 6 i 0) := ofTenant_w s (w := 0) h (by decide)
theorem ofTenant_1 (s : mo_S) {i : Nat} (h : i < 6) : f_X9_ofTenant s (nI i) 1 = some (vn s 6 i 1) := ofTenant_w s (w := 1) h (by decide)
theorem ofTenant_2 (s : mo_S) {i : Nat} (h : i < 6) : f_X9_ofTenant s (nI i) 2 = some (vn s 6 i 2) := ofTenant_w s (w := 2) h (by decide)
theorem ofTenant_3 (s : mo_S) {i : Nat} (h : i < 6) : f_X9_ofTenant s (nI i) 3 = some (vn s 6 i 3) := ofTenant_w s (w := 3) h (by decide)
theorem ofTenant_4 (s : mo_S) {i : Nat} (h : i < 6) : f_X9_ofTenant s (nI i) 4 = some (vn s 6 i 4) := ofTenant_w s (w := 4) h (by decide)
theorem ofTenant_5 (s : mo_S) {i : Nat} (h : i < 6) : f_X9_ofTenant s (nI i) 5 = some (vn s 6 i 5) := ofTenant_w s (w := 5) h (by decide)
theorem ofTenant_6 (s : mo_S) {i : Nat} (h : i < 6) : f_X9_ofTenant s (nI i) 6 = some (vn s 6 i 6) := ofTenant_w s (w := 6) h (by decide)
theorem of_w (s : mo_S) {i w : Nat} (h : i < 2200) (hw : w < 7) : f_X9_of s (nI i) (nI w) = some (vn s 7 i w) := by
  have e : ((2786 : Int32) + 7 * nI i) + nI w = nI (2786 + 7 * i + w) := ix_of 2786 7 i w
  unfold f_X9_of vn
  rw [e, nb_nI (by omega) (by decide), nI_clamp (by omega), if_pos (show eb 7 i w = true from decide_eq_true ⟨h, hw⟩)]
  rfl
theorem of_0 (s : mo_S) {i : Nat} (h : i < 2200) : f_X9_of s (nI i) 0 = some (vn s 7 i 0) := of_w s (w := 0) h (by decide)
theorem of_1 (s : mo_S) {i : Nat} (h : i < 2200) : f_X9_of s (nI i) 1 = some (vn s 7 i 1) := of_w s (w := 1) h (by decide)
theorem of_2 (s : mo_S) {i : Nat} (h : i < 2200) : f_X9_of s (nI i) 2 = some (vn s 7 i 2) := of_w s (w := 2) h (by decide)
theorem of_3 (s : mo_S) {i : Nat} (h : i < 2200) : f_X9_of s (nI i) 3 = some (vn s 7 i 3) := of_w s (w := 3) h (by decide)
theorem of_4 (s : mo_S) {i : Nat} (h : i < 2200) : f_X9_of s (nI i) 4 = some (vn s 7 i 4) := of_w s (w := 4) h (by decide)
theorem of_5 (s : mo_S) {i : Nat} (h : i < 2200) : f_X9_of s (nI i) 5 = some (vn s 7 i 5) := of_w s (w := 5) h (by decide)
theorem of_6 (s : mo_S) {i : Nat} (h : i < 2200) : f_X9_of s (nI i) 6 = some (vn s 7 i 6) := of_w s (w := 6) h (by decide)
theorem set_w (s : mo_S) {i w : Nat} {v : Int32} (h : i < 2200) (hw : w < 7) : f_X9_set s (nI i) (nI w) v = some (us s 7 i w v) := by
  have e : ((2786 : Int32) + 7 * nI i) + nI w = nI (2786 + 7 * i + w) := ix_of 2786 7 i w
  unfold f_X9_set us
  rw [e, nb_nI (by omega) (by decide)]
  rfl
theorem set_0 (s : mo_S) {i : Nat} {v : Int32} (h : i < 2200) : f_X9_set s (nI i) 0 v = some (us s 7 i 0 v) := set_w s (w := 0) h (by decide)
theorem set_1 (s : mo_S) {i : Nat} {v : Int32} (h : i < 2200) : f_X9_set s (nI i) 1 v = some (us s 7 i 1 v) := set_w s (w := 1) h (by decide)
theorem set_2 (s : mo_S) {i : Nat} {v : Int32} (h : i < 2200) : f_X9_set s (nI i) 2 v = some (us s 7 i 2 v) := set_w s (w := 2) h (by decide)
theorem set_3 (s : mo_S) {i : Nat} {v : Int32} (h : i < 2200) : f_X9_set s (nI i) 3 v = some (us s 7 i 3 v) := set_w s (w := 3) h (by decide)
theorem set_4 (s : mo_S) {i : Nat} {v : Int32} (h : i < 2200) : f_X9_set s (nI i) 4 v = some (us s 7 i 4 v) := set_w s (w := 4) h (by decide)
theorem set_5 (s : mo_S) {i : Nat} {v : Int32} (h : i < 2200) : f_X9_set s (nI i) 5 v = some (us s 7 i 5 v) := set_w s (w := 5) h (by decide)
theorem set_6 (s : mo_S) {i : Nat} {v : Int32} (h : i < 2200) : f_X9_set s (nI i) 6 v = some (us s 7 i 6 v) := set_w s (w := 6) h (by decide)
theorem setHeld_w (s : mo_S) {i w : Nat} {v : Int32} (h : i < 6) (hw : w < 64) : f_X9_setHeld s (nI i) (nI w) v = some (us s 3 i w v) := by
  have e : ((296 : Int32) + 64 * nI i) + nI w = nI (296 + 64 * i + w) := ix_of 296 64 i w
  unfold f_X9_setHeld us
  rw [e, nb_nI (by omega) (by decide)]
  rfl
theorem addStatistic_w (s : mo_S) {i w : Nat} {v : Int32} (h : i < 6) (hw : w < 7) : f_X9_addStatistic s (nI i) (nI w) v = some (us s 6 i w (vn s 6 i w + v)) := by
  have e : ((2744 : Int32) + 7 * nI i) + nI w = nI (2744 + 7 * i + w) := ix_of 2744 7 i w
  unfold f_X9_addStatistic us vn
  rw [e, nb_nI (by omega) (by decide), nI_clamp (by omega), if_pos (show eb 6 i w = true from decide_eq_true ⟨h, hw⟩)]
  rfl
theorem addStatistic_0 (s : mo_S) {i : Nat} {v : Int32} (h : i < 6) : f_X9_addStatistic s (nI i) 0 v = some (us s 6 i 0 (vn s 6 i 0 + v)) := addStatistic_w s (w := 0) h (by decide)
theorem addStatistic_1 (s : mo_S) {i : Nat} {v : Int32} (h : i < 6) : f_X9_addStatistic s (nI i) 1 v = some (us s 6 i 1 (vn s 6 i 1 + v)) := addStatistic_w s (w := 1) h (by decide)
theorem addStatistic_2 (s : mo_S) {i : Nat} {v : Int32} (h : i < 6) : f_X9_addStatistic s (nI i) 2 v = some (us s 6 i 2 (vn s 6 i 2 + v)) := addStatistic_w s (w := 2) h (by decide)
theorem addStatistic_3 (s : mo_S) {i : Nat} {v : Int32} (h : i < 6) : f_X9_addStatistic s (nI i) 3 v = some (us s 6 i 3 (vn s 6 i 3 + v)) := addStatistic_w s (w := 3) h (by decide)
theorem addStatistic_4 (s : mo_S) {i : Nat} {v : Int32} (h : i < 6) : f_X9_addStatistic s (nI i) 4 v = some (us s 6 i 4 (vn s 6 i 4 + v)) := addStatistic_w s (w := 4) h (by decide)
theorem addStatistic_5 (s : mo_S) {i : Nat} {v : Int32} (h : i < 6) : f_X9_addStatistic s (nI i) 5 v = some (us s 6 i 5 (vn s 6 i 5 + v)) := addStatistic_w s (w := 5) h (by decide)
theorem addStatistic_6 (s : mo_S) {i : Nat} {v : Int32} (h : i < 6) : f_X9_addStatistic s (nI i) 6 v = some (us s 6 i 6 (vn s 6 i 6 + v)) := addStatistic_w s (w := 6) h (by decide)
theorem isHeldOn_w (s : mo_S) {i w : Nat} (h : i < 6) (hw : w < 64) : f_X9_isHeldOn s (nI i) (nI w) = some (if vn s 3 i w = 1 then 1 else 0) := by
  have e : ((296 : Int32) + 64 * nI i) + nI w = nI (296 + 64 * i + w) := ix_of 296 64 i w
  unfold f_X9_isHeldOn vn
  rw [e, nb_nI (by omega) (by decide), nI_clamp (by omega), if_pos (show eb 3 i w = true from decide_eq_true ⟨h, hw⟩)]
  show (if s.2.2.1 3 (296 + 64 * i + w) = 1 then some 1 else some 0) = some (if s.2.2.1 3 (296 + 64 * i + w) = 1 then 1 else 0)
  by_cases c : s.2.2.1 3 (296 + 64 * i + w) = 1
  · rw [if_pos c, if_pos c]
  · rw [if_neg c, if_neg c]
theorem stateOf_w (s : mo_S) {i : Nat} (h : i < 64) : f_X9_stateOf s (nI i) = some (vn s 4 i 0) := by
  have e : (680 : Int32) + nI i = nI (680 + i) := nI_add 680 i
  unfold f_X9_stateOf vn
  rw [e, nb_nI (by omega) (by decide), nI_clamp (by omega), if_pos (show eb 4 i 0 = true from decide_eq_true ⟨h, rfl⟩)]
  rfl
theorem tagOf_w (s : mo_S) {i w : Nat} (h : i < 2200) (hw : w < 3) : f_X9_tagOf s (nI i) (nI w) = some (vt s i w) := by
  have e : ((3 : Int32) * nI i) + nI w = nI (3 * i + w) := by
    show nI 3 * nI i + nI w = _
    rw [nI_mul, nI_add]
  unfold f_X9_tagOf vt
  rw [e, nb_nI (by omega) (by decide), nI_clamp (by omega), if_pos ⟨h, hw⟩]
theorem tagOf_0 (s : mo_S) {i : Nat} (h : i < 2200) : f_X9_tagOf s (nI i) 0 = some (vt s i 0) := tagOf_w s (w := 0) h (by decide)
theorem tagOf_1 (s : mo_S) {i : Nat} (h : i < 2200) : f_X9_tagOf s (nI i) 1 = some (vt s i 1) := tagOf_w s (w := 1) h (by decide)
theorem tagOf_2 (s : mo_S) {i : Nat} (h : i < 2200) : f_X9_tagOf s (nI i) 2 = some (vt s i 2) := tagOf_w s (w := 2) h (by decide)
/-- the plan's fields and shares -/
theorem shareOf_w (s : mo_S) {i w : Nat} (h : i < 6) (hw : w < 3) : f_X9_shareOf s (nI i) (nI w) = some (s.2.2.1 0 (8 + 3 * i + w)) := by
  have e : ((8 : Int32) + 3 * nI i) + nI w = nI (8 + 3 * i + w) := ix_of 8 3 i w
  unfold f_X9_shareOf
  rw [e, nb_nI (by omega) (by decide), nI_clamp (by omega)]
theorem shareOf_0 (s : mo_S) {i : Nat} (h : i < 6) : f_X9_shareOf s (nI i) 0 = some (s.2.2.1 0 (8 + 3 * i + 0)) := shareOf_w s (w := 0) h (by decide)
theorem shareOf_1 (s : mo_S) {i : Nat} (h : i < 6) : f_X9_shareOf s (nI i) 1 = some (s.2.2.1 0 (8 + 3 * i + 1)) := shareOf_w s (w := 1) h (by decide)
theorem shareOf_2 (s : mo_S) {i : Nat} (h : i < 6) : f_X9_shareOf s (nI i) 2 = some (s.2.2.1 0 (8 + 3 * i + 2)) := shareOf_w s (w := 2) h (by decide)
theorem vn_s0 (s : mo_S) : s.2.2.1 3 0 = vn s 0 0 0 := (if_pos (show eb 0 0 0 = true from rfl)).symm
theorem us_s0 (s : mo_S) (v : Int32) : mo_a s 3 0 v = us s 0 0 0 v := rfl
theorem vn_s1 (s : mo_S) : s.2.2.1 3 1 = vn s 0 0 1 := (if_pos (show eb 0 0 1 = true from rfl)).symm
theorem us_s1 (s : mo_S) (v : Int32) : mo_a s 3 1 v = us s 0 0 1 v := rfl
theorem vn_s2 (s : mo_S) : s.2.2.1 3 2 = vn s 0 0 2 := (if_pos (show eb 0 0 2 = true from rfl)).symm
theorem us_s2 (s : mo_S) (v : Int32) : mo_a s 3 2 v = us s 0 0 2 v := rfl
theorem vn_s3 (s : mo_S) : s.2.2.1 3 3 = vn s 0 0 3 := (if_pos (show eb 0 0 3 = true from rfl)).symm
theorem us_s3 (s : mo_S) (v : Int32) : mo_a s 3 3 v = us s 0 0 3 v := rfl
theorem vn_s4 (s : mo_S) : s.2.2.1 3 4 = vn s 0 0 4 := (if_pos (show eb 0 0 4 = true from rfl)).symm
theorem us_s4 (s : mo_S) (v : Int32) : mo_a s 3 4 v = us s 0 0 4 v := rfl
theorem vn_s5 (s : mo_S) : s.2.2.1 3 5 = vn s 0 0 5 := (if_pos (show eb 0 0 5 = true from rfl)).symm
theorem us_s5 (s : mo_S) (v : Int32) : mo_a s 3 5 v = us s 0 0 5 v := rfl
theorem vn_s6 (s : mo_S) : s.2.2.1 3 6 = vn s 0 0 6 := (if_pos (show eb 0 0 6 = true from rfl)).symm
theorem us_s6 (s : mo_S) (v : Int32) : mo_a s 3 6 v = us s 0 0 6 v := rfl
theorem vn_s7 (s : mo_S) : s.2.2.1 3 7 = vn s 0 0 7 := (if_pos (show eb 0 0 7 = true from rfl)).symm
theorem us_s7 (s : mo_S) (v : Int32) : mo_a s 3 7 v = us s 0 0 7 v := rfl
theorem vn_s8 (s : mo_S) : s.2.2.1 3 8 = vn s 0 0 8 := (if_pos (show eb 0 0 8 = true from rfl)).symm
theorem us_s8 (s : mo_S) (v : Int32) : mo_a s 3 8 v = us s 0 0 8 v := rfl
theorem vn_s9 (s : mo_S) : s.2.2.1 3 9 = vn s 0 0 9 := (if_pos (show eb 0 0 9 = true from rfl)).symm
theorem us_s9 (s : mo_S) (v : Int32) : mo_a s 3 9 v = us s 0 0 9 v := rfl
theorem vn_s10 (s : mo_S) : s.2.2.1 3 10 = vn s 0 0 10 := (if_pos (show eb 0 0 10 = true from rfl)).symm
theorem us_s10 (s : mo_S) (v : Int32) : mo_a s 3 10 v = us s 0 0 10 v := rfl
theorem vn_s11 (s : mo_S) : s.2.2.1 3 11 = vn s 0 0 11 := (if_pos (show eb 0 0 11 = true from rfl)).symm
theorem us_s11 (s : mo_S) (v : Int32) : mo_a s 3 11 v = us s 0 0 11 v := rfl
theorem vn_s12 (s : mo_S) : s.2.2.1 3 12 = vn s 0 0 12 := (if_pos (show eb 0 0 12 = true from rfl)).symm
theorem us_s12 (s : mo_S) (v : Int32) : mo_a s 3 12 v = us s 0 0 12 v := rfl
theorem vn_s13 (s : mo_S) : s.2.2.1 3 13 = vn s 0 0 13 := (if_pos (show eb 0 0 13 = true from rfl)).symm
theorem us_s13 (s : mo_S) (v : Int32) : mo_a s 3 13 v = us s 0 0 13 v := rfl
theorem vn_s14 (s : mo_S) : s.2.2.1 3 14 = vn s 0 0 14 := (if_pos (show eb 0 0 14 = true from rfl)).symm
theorem us_s14 (s : mo_S) (v : Int32) : mo_a s 3 14 v = us s 0 0 14 v := rfl
theorem vn_s15 (s : mo_S) : s.2.2.1 3 15 = vn s 0 0 15 := (if_pos (show eb 0 0 15 = true from rfl)).symm
theorem us_s15 (s : mo_S) (v : Int32) : mo_a s 3 15 v = us s 0 0 15 v := rfl
theorem addPending_w (s : mo_S) {i : Nat} {v : Int32} (h : i < 400) : f_X9_addPending s (nI i) v = some (us s 5 i 3 (vn s 5 i 3 + v)) := by
  unfold f_X9_addPending
  rw [ofRequest_3 s h]
  simp only [setRequest_3 s h]
theorem release_w (s : mo_S) {i : Nat} (h : i < 2200) : f_X9_release s (nI i) = some (us (us s 7 i 5 (vn s 0 0 8)) 0 0 8 (nI i)) := by
  unfold f_X9_release
  rw [nb_8_18186]
  simp only [tc_8, vn_s8, set_5 s h, us_s8]
